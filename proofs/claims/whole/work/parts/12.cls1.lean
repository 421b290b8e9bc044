abbrev yO_clampedResult : MethodName := ⟨"ArenaNetwork$Operator", "clampedResult", "(I)I"⟩
abbrev rmO_clampedResult : Room := { frames := 1, cells := 0, slots := 0, locals := 21 }
theorem ykO_clampedResult : yOk yO_clampedResult 1 := by decide +kernel
theorem dO_clampedResult_0 : decode prog_3_method_5_code 0 = .ok (.bipush (-128), 2) := by decide +kernel
theorem dO_clampedResult_2 : decode prog_3_method_5_code 2 = .ok (.bipush (127), 2) := by decide +kernel
theorem dO_clampedResult_4 : decode prog_3_method_5_code 4 = .ok (.aload_n 0, 1) := by decide +kernel
theorem dO_clampedResult_5 : decode prog_3_method_5_code 5 = .ok (.getfield 22, 3) := by decide +kernel
theorem dO_clampedResult_8 : decode prog_3_method_5_code 8 = .ok (.getfield 38, 3) := by decide +kernel
theorem dO_clampedResult_11 : decode prog_3_method_5_code 11 = .ok (.iload_n 1, 1) := by decide +kernel
theorem dO_clampedResult_12 : decode prog_3_method_5_code 12 = .ok (.iadd, 1) := by decide +kernel
theorem dO_clampedResult_13 : decode prog_3_method_5_code 13 = .ok (.invokestatic 75, 3) := by decide +kernel
theorem dO_clampedResult_16 : decode prog_3_method_5_code 16 = .ok (.invokestatic 81, 3) := by decide +kernel
theorem dO_clampedResult_19 : decode prog_3_method_5_code 19 = .ok (.ireturn, 1) := by decide +kernel
abbrev yO_denseSum : MethodName := ⟨"ArenaNetwork$Operator", "denseSum", "(I)I"⟩
abbrev rmO_denseSum : Room := { frames := 1, cells := 0, slots := 0, locals := 21 }
theorem ykO_denseSum : yOk yO_denseSum 1 := by decide +kernel
theorem dO_denseSum_0 : decode prog_3_method_6_code 0 = .ok (.iconst (0), 1) := by decide +kernel
theorem dO_denseSum_1 : decode prog_3_method_6_code 1 = .ok (.istore_n 2, 1) := by decide +kernel
theorem dO_denseSum_2 : decode prog_3_method_6_code 2 = .ok (.iconst (0), 1) := by decide +kernel
theorem dO_denseSum_3 : decode prog_3_method_6_code 3 = .ok (.istore_n 3, 1) := by decide +kernel
theorem dO_denseSum_4 : decode prog_3_method_6_code 4 = .ok (.iload_n 3, 1) := by decide +kernel
theorem dO_denseSum_5 : decode prog_3_method_6_code 5 = .ok (.aload_n 0, 1) := by decide +kernel
theorem dO_denseSum_6 : decode prog_3_method_6_code 6 = .ok (.getfield 15, 3) := by decide +kernel
theorem dO_denseSum_9 : decode prog_3_method_6_code 9 = .ok (.getfield 31, 3) := by decide +kernel
theorem dO_denseSum_12 : decode prog_3_method_6_code 12 = .ok (.if_icmp .ge (39), 3) := by decide +kernel
theorem dO_denseSum_15 : decode prog_3_method_6_code 15 = .ok (.iload_n 2, 1) := by decide +kernel
theorem dO_denseSum_16 : decode prog_3_method_6_code 16 = .ok (.aload_n 0, 1) := by decide +kernel
theorem dO_denseSum_17 : decode prog_3_method_6_code 17 = .ok (.getfield 15, 3) := by decide +kernel
theorem dO_denseSum_20 : decode prog_3_method_6_code 20 = .ok (.iload_n 3, 1) := by decide +kernel
theorem dO_denseSum_21 : decode prog_3_method_6_code 21 = .ok (.invokevirtual 62, 3) := by decide +kernel
theorem dO_denseSum_24 : decode prog_3_method_6_code 24 = .ok (.aload_n 0, 1) := by decide +kernel
theorem dO_denseSum_25 : decode prog_3_method_6_code 25 = .ok (.getfield 19, 3) := by decide +kernel
theorem dO_denseSum_28 : decode prog_3_method_6_code 28 = .ok (.iload_n 1, 1) := by decide +kernel
theorem dO_denseSum_29 : decode prog_3_method_6_code 29 = .ok (.aload_n 0, 1) := by decide +kernel
theorem dO_denseSum_30 : decode prog_3_method_6_code 30 = .ok (.getfield 15, 3) := by decide +kernel
theorem dO_denseSum_33 : decode prog_3_method_6_code 33 = .ok (.getfield 31, 3) := by decide +kernel
theorem dO_denseSum_36 : decode prog_3_method_6_code 36 = .ok (.imul, 1) := by decide +kernel
theorem dO_denseSum_37 : decode prog_3_method_6_code 37 = .ok (.iload_n 3, 1) := by decide +kernel
theorem dO_denseSum_38 : decode prog_3_method_6_code 38 = .ok (.iadd, 1) := by decide +kernel
theorem dO_denseSum_39 : decode prog_3_method_6_code 39 = .ok (.invokevirtual 62, 3) := by decide +kernel
theorem dO_denseSum_42 : decode prog_3_method_6_code 42 = .ok (.imul, 1) := by decide +kernel
theorem dO_denseSum_43 : decode prog_3_method_6_code 43 = .ok (.iadd, 1) := by decide +kernel
theorem dO_denseSum_44 : decode prog_3_method_6_code 44 = .ok (.istore_n 2, 1) := by decide +kernel
theorem dO_denseSum_45 : decode prog_3_method_6_code 45 = .ok (.iinc 3 (1), 3) := by decide +kernel
theorem dO_denseSum_48 : decode prog_3_method_6_code 48 = .ok (.goto (-44), 3) := by decide +kernel
theorem dO_denseSum_51 : decode prog_3_method_6_code 51 = .ok (.iload_n 2, 1) := by decide +kernel
theorem dO_denseSum_52 : decode prog_3_method_6_code 52 = .ok (.ireturn, 1) := by decide +kernel
abbrev yO_greatestOfGroup : MethodName := ⟨"ArenaNetwork$Operator", "greatestOfGroup", "(I)I"⟩
abbrev rmO_greatestOfGroup : Room := { frames := 1, cells := 0, slots := 0, locals := 21 }
theorem ykO_greatestOfGroup : yOk yO_greatestOfGroup 1 := by decide +kernel
theorem dO_greatestOfGroup_0 : decode prog_3_method_7_code 0 = .ok (.bipush (-128), 2) := by decide +kernel
theorem dO_greatestOfGroup_2 : decode prog_3_method_7_code 2 = .ok (.istore_n 2, 1) := by decide +kernel
theorem dO_greatestOfGroup_3 : decode prog_3_method_7_code 3 = .ok (.iconst (0), 1) := by decide +kernel
theorem dO_greatestOfGroup_4 : decode prog_3_method_7_code 4 = .ok (.istore_n 3, 1) := by decide +kernel
theorem dO_greatestOfGroup_5 : decode prog_3_method_7_code 5 = .ok (.iload_n 3, 1) := by decide +kernel
theorem dO_greatestOfGroup_6 : decode prog_3_method_7_code 6 = .ok (.aload_n 0, 1) := by decide +kernel
theorem dO_greatestOfGroup_7 : decode prog_3_method_7_code 7 = .ok (.getfield 25, 3) := by decide +kernel
theorem dO_greatestOfGroup_10 : decode prog_3_method_7_code 10 = .ok (.if_icmp .ge (30), 3) := by decide +kernel
theorem dO_greatestOfGroup_13 : decode prog_3_method_7_code 13 = .ok (.iload_n 2, 1) := by decide +kernel
theorem dO_greatestOfGroup_14 : decode prog_3_method_7_code 14 = .ok (.aload_n 0, 1) := by decide +kernel
theorem dO_greatestOfGroup_15 : decode prog_3_method_7_code 15 = .ok (.getfield 15, 3) := by decide +kernel
theorem dO_greatestOfGroup_18 : decode prog_3_method_7_code 18 = .ok (.getfield 41, 3) := by decide +kernel
theorem dO_greatestOfGroup_21 : decode prog_3_method_7_code 21 = .ok (.iload_n 1, 1) := by decide +kernel
theorem dO_greatestOfGroup_22 : decode prog_3_method_7_code 22 = .ok (.aload_n 0, 1) := by decide +kernel
theorem dO_greatestOfGroup_23 : decode prog_3_method_7_code 23 = .ok (.getfield 25, 3) := by decide +kernel
theorem dO_greatestOfGroup_26 : decode prog_3_method_7_code 26 = .ok (.imul, 1) := by decide +kernel
theorem dO_greatestOfGroup_27 : decode prog_3_method_7_code 27 = .ok (.iload_n 3, 1) := by decide +kernel
theorem dO_greatestOfGroup_28 : decode prog_3_method_7_code 28 = .ok (.iadd, 1) := by decide +kernel
theorem dO_greatestOfGroup_29 : decode prog_3_method_7_code 29 = .ok (.iaload, 1) := by decide +kernel
theorem dO_greatestOfGroup_30 : decode prog_3_method_7_code 30 = .ok (.invokestatic 81, 3) := by decide +kernel
theorem dO_greatestOfGroup_33 : decode prog_3_method_7_code 33 = .ok (.istore_n 2, 1) := by decide +kernel
theorem dO_greatestOfGroup_34 : decode prog_3_method_7_code 34 = .ok (.iinc 3 (1), 3) := by decide +kernel
theorem dO_greatestOfGroup_37 : decode prog_3_method_7_code 37 = .ok (.goto (-32), 3) := by decide +kernel
theorem dO_greatestOfGroup_40 : decode prog_3_method_7_code 40 = .ok (.iload_n 2, 1) := by decide +kernel
theorem dO_greatestOfGroup_41 : decode prog_3_method_7_code 41 = .ok (.ireturn, 1) := by decide +kernel
abbrev yO_sumOfGroup : MethodName := ⟨"ArenaNetwork$Operator", "sumOfGroup", "(I)I"⟩
abbrev rmO_sumOfGroup : Room := { frames := 0, cells := 0, slots := 0, locals := 0 }
theorem ykO_sumOfGroup : yOk yO_sumOfGroup 1 := by decide +kernel
theorem dO_sumOfGroup_0 : decode prog_3_method_8_code 0 = .ok (.iconst (0), 1) := by decide +kernel
theorem dO_sumOfGroup_1 : decode prog_3_method_8_code 1 = .ok (.istore_n 2, 1) := by decide +kernel
theorem dO_sumOfGroup_2 : decode prog_3_method_8_code 2 = .ok (.iconst (0), 1) := by decide +kernel
theorem dO_sumOfGroup_3 : decode prog_3_method_8_code 3 = .ok (.istore_n 3, 1) := by decide +kernel
theorem dO_sumOfGroup_4 : decode prog_3_method_8_code 4 = .ok (.iload_n 3, 1) := by decide +kernel
theorem dO_sumOfGroup_5 : decode prog_3_method_8_code 5 = .ok (.aload_n 0, 1) := by decide +kernel
theorem dO_sumOfGroup_6 : decode prog_3_method_8_code 6 = .ok (.getfield 25, 3) := by decide +kernel
theorem dO_sumOfGroup_9 : decode prog_3_method_8_code 9 = .ok (.if_icmp .ge (28), 3) := by decide +kernel
theorem dO_sumOfGroup_12 : decode prog_3_method_8_code 12 = .ok (.iload_n 2, 1) := by decide +kernel
theorem dO_sumOfGroup_13 : decode prog_3_method_8_code 13 = .ok (.aload_n 0, 1) := by decide +kernel
theorem dO_sumOfGroup_14 : decode prog_3_method_8_code 14 = .ok (.getfield 15, 3) := by decide +kernel
theorem dO_sumOfGroup_17 : decode prog_3_method_8_code 17 = .ok (.getfield 41, 3) := by decide +kernel
theorem dO_sumOfGroup_20 : decode prog_3_method_8_code 20 = .ok (.iload_n 1, 1) := by decide +kernel
theorem dO_sumOfGroup_21 : decode prog_3_method_8_code 21 = .ok (.aload_n 0, 1) := by decide +kernel
theorem dO_sumOfGroup_22 : decode prog_3_method_8_code 22 = .ok (.getfield 25, 3) := by decide +kernel
theorem dO_sumOfGroup_25 : decode prog_3_method_8_code 25 = .ok (.imul, 1) := by decide +kernel
theorem dO_sumOfGroup_26 : decode prog_3_method_8_code 26 = .ok (.iload_n 3, 1) := by decide +kernel
theorem dO_sumOfGroup_27 : decode prog_3_method_8_code 27 = .ok (.iadd, 1) := by decide +kernel
theorem dO_sumOfGroup_28 : decode prog_3_method_8_code 28 = .ok (.iaload, 1) := by decide +kernel
theorem dO_sumOfGroup_29 : decode prog_3_method_8_code 29 = .ok (.iadd, 1) := by decide +kernel
theorem dO_sumOfGroup_30 : decode prog_3_method_8_code 30 = .ok (.istore_n 2, 1) := by decide +kernel
theorem dO_sumOfGroup_31 : decode prog_3_method_8_code 31 = .ok (.iinc 3 (1), 3) := by decide +kernel
theorem dO_sumOfGroup_34 : decode prog_3_method_8_code 34 = .ok (.goto (-30), 3) := by decide +kernel
theorem dO_sumOfGroup_37 : decode prog_3_method_8_code 37 = .ok (.iload_n 2, 1) := by decide +kernel
theorem dO_sumOfGroup_38 : decode prog_3_method_8_code 38 = .ok (.ireturn, 1) := by decide +kernel
abbrev yO_resultCell : MethodName := ⟨"ArenaNetwork$Operator", "resultCell", "(ILArenaNetwork$Scale;)I"⟩
abbrev rmO_resultCell : Room := { frames := 3, cells := 0, slots := 0, locals := 70 }
theorem ykO_resultCell : yOk yO_resultCell 2 := by decide +kernel
theorem dO_resultCell_0 : decode prog_3_method_4_code 0 = .ok (.aload_n 0, 1) := by decide +kernel
theorem dO_resultCell_1 : decode prog_3_method_4_code 1 = .ok (.getfield 9, 3) := by decide +kernel
theorem dO_resultCell_4 : decode prog_3_method_4_code 4 = .ok (.tableswitch (224) (0) (7) #[48, 63, 90, 117, 123, 139, 163, 204], 48) := by decide +kernel
theorem dO_resultCell_52 : decode prog_3_method_4_code 52 = .ok (.aload_n 0, 1) := by decide +kernel
theorem dO_resultCell_53 : decode prog_3_method_4_code 53 = .ok (.aload_n 2, 1) := by decide +kernel
theorem dO_resultCell_54 : decode prog_3_method_4_code 54 = .ok (.aload_n 0, 1) := by decide +kernel
theorem dO_resultCell_55 : decode prog_3_method_4_code 55 = .ok (.iload_n 1, 1) := by decide +kernel
theorem dO_resultCell_56 : decode prog_3_method_4_code 56 = .ok (.invokevirtual 49, 3) := by decide +kernel
theorem dO_resultCell_59 : decode prog_3_method_4_code 59 = .ok (.i2l, 1) := by decide +kernel
theorem dO_resultCell_60 : decode prog_3_method_4_code 60 = .ok (.invokevirtual 53, 3) := by decide +kernel
theorem dO_resultCell_63 : decode prog_3_method_4_code 63 = .ok (.invokevirtual 59, 3) := by decide +kernel
theorem dO_resultCell_66 : decode prog_3_method_4_code 66 = .ok (.ireturn, 1) := by decide +kernel
theorem dO_resultCell_67 : decode prog_3_method_4_code 67 = .ok (.aload_n 0, 1) := by decide +kernel
theorem dO_resultCell_68 : decode prog_3_method_4_code 68 = .ok (.aload_n 2, 1) := by decide +kernel
theorem dO_resultCell_69 : decode prog_3_method_4_code 69 = .ok (.aload_n 0, 1) := by decide +kernel
theorem dO_resultCell_70 : decode prog_3_method_4_code 70 = .ok (.getfield 15, 3) := by decide +kernel
theorem dO_resultCell_73 : decode prog_3_method_4_code 73 = .ok (.iload_n 1, 1) := by decide +kernel
theorem dO_resultCell_74 : decode prog_3_method_4_code 74 = .ok (.invokevirtual 62, 3) := by decide +kernel
theorem dO_resultCell_77 : decode prog_3_method_4_code 77 = .ok (.aload_n 0, 1) := by decide +kernel
theorem dO_resultCell_78 : decode prog_3_method_4_code 78 = .ok (.getfield 19, 3) := by decide +kernel
theorem dO_resultCell_81 : decode prog_3_method_4_code 81 = .ok (.iload_n 1, 1) := by decide +kernel
theorem dO_resultCell_82 : decode prog_3_method_4_code 82 = .ok (.invokevirtual 62, 3) := by decide +kernel
theorem dO_resultCell_85 : decode prog_3_method_4_code 85 = .ok (.iadd, 1) := by decide +kernel
theorem dO_resultCell_86 : decode prog_3_method_4_code 86 = .ok (.i2l, 1) := by decide +kernel
theorem dO_resultCell_87 : decode prog_3_method_4_code 87 = .ok (.invokevirtual 53, 3) := by decide +kernel
theorem dO_resultCell_90 : decode prog_3_method_4_code 90 = .ok (.invokevirtual 59, 3) := by decide +kernel
theorem dO_resultCell_93 : decode prog_3_method_4_code 93 = .ok (.ireturn, 1) := by decide +kernel
theorem dO_resultCell_94 : decode prog_3_method_4_code 94 = .ok (.aload_n 0, 1) := by decide +kernel
theorem dO_resultCell_95 : decode prog_3_method_4_code 95 = .ok (.aload_n 2, 1) := by decide +kernel
theorem dO_resultCell_96 : decode prog_3_method_4_code 96 = .ok (.aload_n 0, 1) := by decide +kernel
theorem dO_resultCell_97 : decode prog_3_method_4_code 97 = .ok (.getfield 15, 3) := by decide +kernel
theorem dO_resultCell_100 : decode prog_3_method_4_code 100 = .ok (.iload_n 1, 1) := by decide +kernel
theorem dO_resultCell_101 : decode prog_3_method_4_code 101 = .ok (.invokevirtual 62, 3) := by decide +kernel
theorem dO_resultCell_104 : decode prog_3_method_4_code 104 = .ok (.aload_n 0, 1) := by decide +kernel
theorem dO_resultCell_105 : decode prog_3_method_4_code 105 = .ok (.getfield 19, 3) := by decide +kernel
theorem dO_resultCell_108 : decode prog_3_method_4_code 108 = .ok (.iload_n 1, 1) := by decide +kernel
theorem dO_resultCell_109 : decode prog_3_method_4_code 109 = .ok (.invokevirtual 62, 3) := by decide +kernel
theorem dO_resultCell_112 : decode prog_3_method_4_code 112 = .ok (.imul, 1) := by decide +kernel
theorem dO_resultCell_113 : decode prog_3_method_4_code 113 = .ok (.i2l, 1) := by decide +kernel
theorem dO_resultCell_114 : decode prog_3_method_4_code 114 = .ok (.invokevirtual 53, 3) := by decide +kernel
theorem dO_resultCell_117 : decode prog_3_method_4_code 117 = .ok (.invokevirtual 59, 3) := by decide +kernel
theorem dO_resultCell_120 : decode prog_3_method_4_code 120 = .ok (.ireturn, 1) := by decide +kernel
theorem dO_resultCell_121 : decode prog_3_method_4_code 121 = .ok (.aload_n 0, 1) := by decide +kernel
theorem dO_resultCell_122 : decode prog_3_method_4_code 122 = .ok (.iload_n 1, 1) := by decide +kernel
theorem dO_resultCell_123 : decode prog_3_method_4_code 123 = .ok (.invokevirtual 65, 3) := by decide +kernel
theorem dO_resultCell_126 : decode prog_3_method_4_code 126 = .ok (.ireturn, 1) := by decide +kernel
theorem dO_resultCell_127 : decode prog_3_method_4_code 127 = .ok (.aload_n 0, 1) := by decide +kernel
theorem dO_resultCell_128 : decode prog_3_method_4_code 128 = .ok (.iload_n 1, 1) := by decide +kernel
theorem dO_resultCell_129 : decode prog_3_method_4_code 129 = .ok (.invokevirtual 68, 3) := by decide +kernel
theorem dO_resultCell_132 : decode prog_3_method_4_code 132 = .ok (.i2l, 1) := by decide +kernel
theorem dO_resultCell_133 : decode prog_3_method_4_code 133 = .ok (.aload_n 0, 1) := by decide +kernel
theorem dO_resultCell_134 : decode prog_3_method_4_code 134 = .ok (.getfield 25, 3) := by decide +kernel
theorem dO_resultCell_137 : decode prog_3_method_4_code 137 = .ok (.i2l, 1) := by decide +kernel
theorem dO_resultCell_138 : decode prog_3_method_4_code 138 = .ok (.invokestatic 71, 3) := by decide +kernel
theorem dO_resultCell_141 : decode prog_3_method_4_code 141 = .ok (.l2i, 1) := by decide +kernel
theorem dO_resultCell_142 : decode prog_3_method_4_code 142 = .ok (.ireturn, 1) := by decide +kernel
theorem dO_resultCell_143 : decode prog_3_method_4_code 143 = .ok (.aload_n 0, 1) := by decide +kernel
theorem dO_resultCell_144 : decode prog_3_method_4_code 144 = .ok (.getfield 19, 3) := by decide +kernel
theorem dO_resultCell_147 : decode prog_3_method_4_code 147 = .ok (.getfield 41, 3) := by decide +kernel
theorem dO_resultCell_150 : decode prog_3_method_4_code 150 = .ok (.aload_n 0, 1) := by decide +kernel
theorem dO_resultCell_151 : decode prog_3_method_4_code 151 = .ok (.getfield 15, 3) := by decide +kernel
theorem dO_resultCell_154 : decode prog_3_method_4_code 154 = .ok (.getfield 41, 3) := by decide +kernel
theorem dO_resultCell_157 : decode prog_3_method_4_code 157 = .ok (.iload_n 1, 1) := by decide +kernel
theorem dO_resultCell_158 : decode prog_3_method_4_code 158 = .ok (.iaload, 1) := by decide +kernel
theorem dO_resultCell_159 : decode prog_3_method_4_code 159 = .ok (.bipush (-128), 2) := by decide +kernel
theorem dO_resultCell_161 : decode prog_3_method_4_code 161 = .ok (.isub, 1) := by decide +kernel
theorem dO_resultCell_162 : decode prog_3_method_4_code 162 = .ok (.bipush (16), 2) := by decide +kernel
theorem dO_resultCell_164 : decode prog_3_method_4_code 164 = .ok (.idiv, 1) := by decide +kernel
theorem dO_resultCell_165 : decode prog_3_method_4_code 165 = .ok (.iaload, 1) := by decide +kernel
theorem dO_resultCell_166 : decode prog_3_method_4_code 166 = .ok (.ireturn, 1) := by decide +kernel
theorem dO_resultCell_167 : decode prog_3_method_4_code 167 = .ok (.iload_n 1, 1) := by decide +kernel
theorem dO_resultCell_168 : decode prog_3_method_4_code 168 = .ok (.aload_n 0, 1) := by decide +kernel
theorem dO_resultCell_169 : decode prog_3_method_4_code 169 = .ok (.getfield 15, 3) := by decide +kernel
theorem dO_resultCell_172 : decode prog_3_method_4_code 172 = .ok (.getfield 31, 3) := by decide +kernel
theorem dO_resultCell_175 : decode prog_3_method_4_code 175 = .ok (.if_icmp .ge (15), 3) := by decide +kernel
theorem dO_resultCell_178 : decode prog_3_method_4_code 178 = .ok (.aload_n 0, 1) := by decide +kernel
theorem dO_resultCell_179 : decode prog_3_method_4_code 179 = .ok (.getfield 15, 3) := by decide +kernel
theorem dO_resultCell_182 : decode prog_3_method_4_code 182 = .ok (.getfield 41, 3) := by decide +kernel
theorem dO_resultCell_185 : decode prog_3_method_4_code 185 = .ok (.iload_n 1, 1) := by decide +kernel
theorem dO_resultCell_186 : decode prog_3_method_4_code 186 = .ok (.iaload, 1) := by decide +kernel
theorem dO_resultCell_187 : decode prog_3_method_4_code 187 = .ok (.goto (20), 3) := by decide +kernel
theorem dO_resultCell_190 : decode prog_3_method_4_code 190 = .ok (.aload_n 0, 1) := by decide +kernel
theorem dO_resultCell_191 : decode prog_3_method_4_code 191 = .ok (.getfield 19, 3) := by decide +kernel
theorem dO_resultCell_194 : decode prog_3_method_4_code 194 = .ok (.getfield 41, 3) := by decide +kernel
theorem dO_resultCell_197 : decode prog_3_method_4_code 197 = .ok (.iload_n 1, 1) := by decide +kernel
theorem dO_resultCell_198 : decode prog_3_method_4_code 198 = .ok (.aload_n 0, 1) := by decide +kernel
theorem dO_resultCell_199 : decode prog_3_method_4_code 199 = .ok (.getfield 15, 3) := by decide +kernel
theorem dO_resultCell_202 : decode prog_3_method_4_code 202 = .ok (.getfield 31, 3) := by decide +kernel
theorem dO_resultCell_205 : decode prog_3_method_4_code 205 = .ok (.isub, 1) := by decide +kernel
theorem dO_resultCell_206 : decode prog_3_method_4_code 206 = .ok (.iaload, 1) := by decide +kernel
theorem dO_resultCell_207 : decode prog_3_method_4_code 207 = .ok (.ireturn, 1) := by decide +kernel
theorem dO_resultCell_208 : decode prog_3_method_4_code 208 = .ok (.aload_n 0, 1) := by decide +kernel
theorem dO_resultCell_209 : decode prog_3_method_4_code 209 = .ok (.getfield 15, 3) := by decide +kernel
theorem dO_resultCell_212 : decode prog_3_method_4_code 212 = .ok (.getfield 41, 3) := by decide +kernel
theorem dO_resultCell_215 : decode prog_3_method_4_code 215 = .ok (.aload_n 0, 1) := by decide +kernel
theorem dO_resultCell_216 : decode prog_3_method_4_code 216 = .ok (.getfield 15, 3) := by decide +kernel
theorem dO_resultCell_219 : decode prog_3_method_4_code 219 = .ok (.getfield 31, 3) := by decide +kernel
theorem dO_resultCell_222 : decode prog_3_method_4_code 222 = .ok (.iconst (1), 1) := by decide +kernel
theorem dO_resultCell_223 : decode prog_3_method_4_code 223 = .ok (.isub, 1) := by decide +kernel
theorem dO_resultCell_224 : decode prog_3_method_4_code 224 = .ok (.iload_n 1, 1) := by decide +kernel
theorem dO_resultCell_225 : decode prog_3_method_4_code 225 = .ok (.isub, 1) := by decide +kernel
theorem dO_resultCell_226 : decode prog_3_method_4_code 226 = .ok (.iaload, 1) := by decide +kernel
theorem dO_resultCell_227 : decode prog_3_method_4_code 227 = .ok (.ireturn, 1) := by decide +kernel
theorem dO_resultCell_228 : decode prog_3_method_4_code 228 = .ok (.iconst (0), 1) := by decide +kernel
theorem dO_resultCell_229 : decode prog_3_method_4_code 229 = .ok (.ireturn, 1) := by decide +kernel
abbrev yO_makeResult : MethodName := ⟨"ArenaNetwork$Operator", "makeResult", "(LArenaNetwork$Scale;)V"⟩
abbrev rmO_makeResult : Room := { frames := 4, cells := 0, slots := 0, locals := 92 }
theorem ykO_makeResult : yOk yO_makeResult 1 := by decide +kernel
theorem dO_makeResult_0 : decode prog_3_method_3_code 0 = .ok (.iconst (0), 1) := by decide +kernel
theorem dO_makeResult_1 : decode prog_3_method_3_code 1 = .ok (.istore_n 2, 1) := by decide +kernel
theorem dO_makeResult_2 : decode prog_3_method_3_code 2 = .ok (.iload_n 2, 1) := by decide +kernel
theorem dO_makeResult_3 : decode prog_3_method_3_code 3 = .ok (.aload_n 0, 1) := by decide +kernel
theorem dO_makeResult_4 : decode prog_3_method_3_code 4 = .ok (.getfield 22, 3) := by decide +kernel
theorem dO_makeResult_7 : decode prog_3_method_3_code 7 = .ok (.getfield 31, 3) := by decide +kernel
theorem dO_makeResult_10 : decode prog_3_method_3_code 10 = .ok (.if_icmp .ge (24), 3) := by decide +kernel
theorem dO_makeResult_13 : decode prog_3_method_3_code 13 = .ok (.aload_n 0, 1) := by decide +kernel
theorem dO_makeResult_14 : decode prog_3_method_3_code 14 = .ok (.getfield 22, 3) := by decide +kernel
theorem dO_makeResult_17 : decode prog_3_method_3_code 17 = .ok (.getfield 41, 3) := by decide +kernel
theorem dO_makeResult_20 : decode prog_3_method_3_code 20 = .ok (.iload_n 2, 1) := by decide +kernel
theorem dO_makeResult_21 : decode prog_3_method_3_code 21 = .ok (.aload_n 0, 1) := by decide +kernel
theorem dO_makeResult_22 : decode prog_3_method_3_code 22 = .ok (.iload_n 2, 1) := by decide +kernel
theorem dO_makeResult_23 : decode prog_3_method_3_code 23 = .ok (.aload_n 1, 1) := by decide +kernel
theorem dO_makeResult_24 : decode prog_3_method_3_code 24 = .ok (.invokevirtual 45, 3) := by decide +kernel
theorem dO_makeResult_27 : decode prog_3_method_3_code 27 = .ok (.iastore, 1) := by decide +kernel
theorem dO_makeResult_28 : decode prog_3_method_3_code 28 = .ok (.iinc 2 (1), 3) := by decide +kernel
theorem dO_makeResult_31 : decode prog_3_method_3_code 31 = .ok (.goto (-29), 3) := by decide +kernel
theorem dO_makeResult_34 : decode prog_3_method_3_code 34 = .ok (.return_, 1) := by decide +kernel
abbrev yA_init : MethodName := ⟨"ArenaNetwork$Arena", "<init>", "()V"⟩
abbrev rmA_init : Room := { frames := 4, cells := 1, slots := 3, locals := 80 }
theorem ykA_init : yOk yA_init 0 := by decide +kernel
theorem dA_init_0 : decode prog_2_method_1_code 0 = .ok (.aload_n 0, 1) := by decide +kernel
theorem dA_init_1 : decode prog_2_method_1_code 1 = .ok (.invokespecial 5, 3) := by decide +kernel
theorem dA_init_4 : decode prog_2_method_1_code 4 = .ok (.aload_n 0, 1) := by decide +kernel
theorem dA_init_5 : decode prog_2_method_1_code 5 = .ok (.new 11, 3) := by decide +kernel
theorem dA_init_8 : decode prog_2_method_1_code 8 = .ok (.dup, 1) := by decide +kernel
theorem dA_init_9 : decode prog_2_method_1_code 9 = .ok (.invokespecial 13, 3) := by decide +kernel
theorem dA_init_12 : decode prog_2_method_1_code 12 = .ok (.putfield 14, 3) := by decide +kernel
theorem dA_init_15 : decode prog_2_method_1_code 15 = .ok (.aload_n 0, 1) := by decide +kernel
theorem dA_init_16 : decode prog_2_method_1_code 16 = .ok (.iconst (0), 1) := by decide +kernel
theorem dA_init_17 : decode prog_2_method_1_code 17 = .ok (.putfield 20, 3) := by decide +kernel
theorem dA_init_20 : decode prog_2_method_1_code 20 = .ok (.return_, 1) := by decide +kernel
abbrev yA_isFree : MethodName := ⟨"ArenaNetwork$Arena", "isFree", "(LArenaNetwork$Tensor;I)Z"⟩
abbrev rmA_isFree : Room := { frames := 3, cells := 0, slots := 0, locals := 64 }
theorem ykA_isFree : yOk yA_isFree 2 := by decide +kernel
theorem dA_isFree_0 : decode prog_2_method_6_code 0 = .ok (.iconst (0), 1) := by decide +kernel
theorem dA_isFree_1 : decode prog_2_method_6_code 1 = .ok (.istore_n 3, 1) := by decide +kernel
theorem dA_isFree_2 : decode prog_2_method_6_code 2 = .ok (.iload_n 3, 1) := by decide +kernel
theorem dA_isFree_3 : decode prog_2_method_6_code 3 = .ok (.aload_n 0, 1) := by decide +kernel
theorem dA_isFree_4 : decode prog_2_method_6_code 4 = .ok (.getfield 14, 3) := by decide +kernel
theorem dA_isFree_7 : decode prog_2_method_6_code 7 = .ok (.invokevirtual 27, 3) := by decide +kernel
theorem dA_isFree_10 : decode prog_2_method_6_code 10 = .ok (.if_icmp .ge (74), 3) := by decide +kernel
theorem dA_isFree_13 : decode prog_2_method_6_code 13 = .ok (.aload_n 0, 1) := by decide +kernel
theorem dA_isFree_14 : decode prog_2_method_6_code 14 = .ok (.getfield 14, 3) := by decide +kernel
theorem dA_isFree_17 : decode prog_2_method_6_code 17 = .ok (.iload_n 3, 1) := by decide +kernel
theorem dA_isFree_18 : decode prog_2_method_6_code 18 = .ok (.invokevirtual 31, 3) := by decide +kernel
theorem dA_isFree_21 : decode prog_2_method_6_code 21 = .ok (.checkcast 1, 3) := by decide +kernel
theorem dA_isFree_24 : decode prog_2_method_6_code 24 = .ok (.astore 4, 2) := by decide +kernel
theorem dA_isFree_26 : decode prog_2_method_6_code 26 = .ok (.iload_n 2, 1) := by decide +kernel
theorem dA_isFree_27 : decode prog_2_method_6_code 27 = .ok (.aload_n 1, 1) := by decide +kernel
theorem dA_isFree_28 : decode prog_2_method_6_code 28 = .ok (.getfield 39, 3) := by decide +kernel
theorem dA_isFree_31 : decode prog_2_method_6_code 31 = .ok (.iadd, 1) := by decide +kernel
theorem dA_isFree_32 : decode prog_2_method_6_code 32 = .ok (.aload 4, 2) := by decide +kernel
theorem dA_isFree_34 : decode prog_2_method_6_code 34 = .ok (.getfield 48, 3) := by decide +kernel
theorem dA_isFree_37 : decode prog_2_method_6_code 37 = .ok (.if_icmp .le (18), 3) := by decide +kernel
theorem dA_isFree_40 : decode prog_2_method_6_code 40 = .ok (.aload 4, 2) := by decide +kernel
theorem dA_isFree_42 : decode prog_2_method_6_code 42 = .ok (.getfield 48, 3) := by decide +kernel
theorem dA_isFree_45 : decode prog_2_method_6_code 45 = .ok (.aload 4, 2) := by decide +kernel
theorem dA_isFree_47 : decode prog_2_method_6_code 47 = .ok (.getfield 39, 3) := by decide +kernel
theorem dA_isFree_50 : decode prog_2_method_6_code 50 = .ok (.iadd, 1) := by decide +kernel
theorem dA_isFree_51 : decode prog_2_method_6_code 51 = .ok (.iload_n 2, 1) := by decide +kernel
theorem dA_isFree_52 : decode prog_2_method_6_code 52 = .ok (.if_icmp .gt (7), 3) := by decide +kernel
theorem dA_isFree_55 : decode prog_2_method_6_code 55 = .ok (.iconst (1), 1) := by decide +kernel
theorem dA_isFree_56 : decode prog_2_method_6_code 56 = .ok (.goto (4), 3) := by decide +kernel
theorem dA_isFree_59 : decode prog_2_method_6_code 59 = .ok (.iconst (0), 1) := by decide +kernel
theorem dA_isFree_60 : decode prog_2_method_6_code 60 = .ok (.istore 5, 2) := by decide +kernel
theorem dA_isFree_62 : decode prog_2_method_6_code 62 = .ok (.iload 5, 2) := by decide +kernel
theorem dA_isFree_64 : decode prog_2_method_6_code 64 = .ok (.ifCond .ne (14), 3) := by decide +kernel
theorem dA_isFree_67 : decode prog_2_method_6_code 67 = .ok (.aload_n 1, 1) := by decide +kernel
theorem dA_isFree_68 : decode prog_2_method_6_code 68 = .ok (.aload 4, 2) := by decide +kernel
theorem dA_isFree_70 : decode prog_2_method_6_code 70 = .ok (.invokevirtual 65, 3) := by decide +kernel
theorem dA_isFree_73 : decode prog_2_method_6_code 73 = .ok (.ifCond .eq (5), 3) := by decide +kernel
theorem dA_isFree_76 : decode prog_2_method_6_code 76 = .ok (.iconst (0), 1) := by decide +kernel
theorem dA_isFree_77 : decode prog_2_method_6_code 77 = .ok (.ireturn, 1) := by decide +kernel
theorem dA_isFree_78 : decode prog_2_method_6_code 78 = .ok (.iinc 3 (1), 3) := by decide +kernel
theorem dA_isFree_81 : decode prog_2_method_6_code 81 = .ok (.goto (-79), 3) := by decide +kernel
theorem dA_isFree_84 : decode prog_2_method_6_code 84 = .ok (.iconst (1), 1) := by decide +kernel
theorem dA_isFree_85 : decode prog_2_method_6_code 85 = .ok (.ireturn, 1) := by decide +kernel
def fO_clampedResult (b : Nat) (a1 : Int32) (w : cW) : Option (Int32 × cW) :=
  (gQ w (some b) 2 3).bind fun r1 =>
  (gI w r1 4 3).bind fun x2 =>
  some ((if (-128 : Int32) < (if (x2 + a1) < (127 : Int32) then (x2 + a1) else (127 : Int32)) then (if (x2 + a1) < (127 : Int32) then (x2 + a1) else (127 : Int32)) else (-128 : Int32)), w)
def fO_denseSum_b4 (b : Nat)  (rec4 : Int32 → Int32 → Int32 → cW → Option (Int32 × cW)) (a1 : Int32) (a2 : Int32) (a3 : Int32) (w : cW) : Option (Int32 × cW) :=
  (gQ w (some b) 2 1).bind fun r1 =>
  (gI w r1 4 2).bind fun x2 =>
  if x2 ≤ a3 then (
    some (a2, w)) else
  (gQ w (some b) 2 1).bind fun r3 =>
  (cRcv w r3 4).bind fun b6 => cbd (fT_distance b6 a3 w) fun x4 w5 =>
  (gQ w5 (some b) 2 2).bind fun r7 =>
  (gQ w5 (some b) 2 1).bind fun r8 =>
  (gI w5 r8 4 2).bind fun x9 =>
  (cRcv w5 r7 4).bind fun b12 => cbd (fT_distance b12 ((a1 * x9) + a3) w5) fun x10 w11 =>
  bnd (a2 + (x4 * x10)) fun x13 =>
  bnd (a3 + (1 : Int32)) fun x14 =>
  rec4 a1 x13 x14 w11
def fO_denseSum_l4 (b : Nat)  (n : Nat) : Int32 → Int32 → Int32 → cW → Option (Int32 × cW) := lp (fun _ _ _ _ => none) (fO_denseSum_b4 b ) n
def fO_denseSum (b : Nat) (a1 : Int32) (w : cW) : Option (Int32 × cW) :=
  fO_denseSum_l4 b FU a1 (0 : Int32) (0 : Int32) w
def fO_greatestOfGroup_b5 (b : Nat)  (rec5 : Int32 → Int32 → Int32 → cW → Option (Int32 × cW)) (a1 : Int32) (a2 : Int32) (a3 : Int32) (w : cW) : Option (Int32 × cW) :=
  (gI w (some b) 2 4).bind fun x1 =>
  if x1 ≤ a3 then (
    some (a2, w)) else
  (gQ w (some b) 2 1).bind fun r2 =>
  (gQ w r2 4 5).bind fun r3 =>
  (gI w (some b) 2 4).bind fun x4 =>
  (ldI w r3 .int ((a1 * x4) + a3)).bind fun x5 =>
  bnd (if a2 < x5 then x5 else a2) fun x6 =>
  bnd (a3 + (1 : Int32)) fun x7 =>
  rec5 a1 x6 x7 w
def fO_greatestOfGroup_l5 (b : Nat)  (n : Nat) : Int32 → Int32 → Int32 → cW → Option (Int32 × cW) := lp (fun _ _ _ _ => none) (fO_greatestOfGroup_b5 b ) n
def fO_greatestOfGroup (b : Nat) (a1 : Int32) (w : cW) : Option (Int32 × cW) :=
  fO_greatestOfGroup_l5 b FU a1 (-128 : Int32) (0 : Int32) w
def fO_sumOfGroup_b4 (b : Nat)  (rec4 : Int32 → Int32 → Int32 → cW → Option (Int32 × cW)) (a1 : Int32) (a2 : Int32) (a3 : Int32) (w : cW) : Option (Int32 × cW) :=
  (gI w (some b) 2 4).bind fun x1 =>
  if x1 ≤ a3 then (
    some (a2, w)) else
  (gQ w (some b) 2 1).bind fun r2 =>
  (gQ w r2 4 5).bind fun r3 =>
  (gI w (some b) 2 4).bind fun x4 =>
  (ldI w r3 .int ((a1 * x4) + a3)).bind fun x5 =>
  bnd (a2 + x5) fun x6 =>
  bnd (a3 + (1 : Int32)) fun x7 =>
  rec4 a1 x6 x7 w
def fO_sumOfGroup_l4 (b : Nat)  (n : Nat) : Int32 → Int32 → Int32 → cW → Option (Int32 × cW) := lp (fun _ _ _ _ => none) (fO_sumOfGroup_b4 b ) n
def fO_sumOfGroup (b : Nat) (a1 : Int32) (w : cW) : Option (Int32 × cW) :=
  fO_sumOfGroup_l4 b FU a1 (0 : Int32) (0 : Int32) w
def fO_resultCell (b : Nat) (a1 : Int32) (a2 : Nat) (w : cW) : Option (Int32 × cW) :=
  (gI w (some b) 2 0).bind fun x1 =>
  if x1 = (0 : Int32) then (
    (cRcv w (some b) 2).bind fun b4 => cbd (fO_denseSum b4 a1 w) fun x2 w3 =>
    (cRcv w3 (some a2) 3).bind fun b7 => cbd (fS_applied b7 x2.toInt64 w3) fun x5 w6 =>
    (cRcv w6 (some b) 2).bind fun b10 => cbd (fO_clampedResult b10 x5 w6) fun x8 w9 =>
    some (x8, w9)) else
  if x1 = (1 : Int32) then (
    (gQ w (some b) 2 1).bind fun r11 =>
    (cRcv w r11 4).bind fun b14 => cbd (fT_distance b14 a1 w) fun x12 w13 =>
    (gQ w13 (some b) 2 2).bind fun r15 =>
    (cRcv w13 r15 4).bind fun b18 => cbd (fT_distance b18 a1 w13) fun x16 w17 =>
    (cRcv w17 (some a2) 3).bind fun b21 => cbd (fS_applied b21 ((x12 + x16).toInt64) w17) fun x19 w20 =>
    (cRcv w20 (some b) 2).bind fun b24 => cbd (fO_clampedResult b24 x19 w20) fun x22 w23 =>
    some (x22, w23)) else
  if x1 = (2 : Int32) then (
    (gQ w (some b) 2 1).bind fun r25 =>
    (cRcv w r25 4).bind fun b28 => cbd (fT_distance b28 a1 w) fun x26 w27 =>
    (gQ w27 (some b) 2 2).bind fun r29 =>
    (cRcv w27 r29 4).bind fun b32 => cbd (fT_distance b32 a1 w27) fun x30 w31 =>
    (cRcv w31 (some a2) 3).bind fun b35 => cbd (fS_applied b35 ((x26 * x30).toInt64) w31) fun x33 w34 =>
    (cRcv w34 (some b) 2).bind fun b38 => cbd (fO_clampedResult b38 x33 w34) fun x36 w37 =>
    some (x36, w37)) else
  if x1 = (3 : Int32) then (
    (cRcv w (some b) 2).bind fun b41 => cbd (fO_greatestOfGroup b41 a1 w) fun x39 w40 =>
    some (x39, w40)) else
  if x1 = (4 : Int32) then (
    (cRcv w (some b) 2).bind fun b44 => cbd (fO_sumOfGroup b44 a1 w) fun x42 w43 =>
    (gI w43 (some b) 2 4).bind fun x45 =>
    cbd (fN_rounded x42.toInt64 x45.toInt64 w43) fun j46 w47 =>
    some (j46.toInt32, w47)) else
  if x1 = (5 : Int32) then (
    (gQ w (some b) 2 2).bind fun r48 =>
    (gQ w r48 4 5).bind fun r49 =>
    (gQ w (some b) 2 1).bind fun r50 =>
    (gQ w r50 4 5).bind fun r51 =>
    (ldI w r51 .int a1).bind fun x52 =>
    (ldI w r49 .int ((x52 - (-128 : Int32)) / (16 : Int32))).bind fun x53 =>
    some (x53, w)) else
  if x1 = (6 : Int32) then (
    (gQ w (some b) 2 1).bind fun r54 =>
    (gI w r54 4 2).bind fun x55 =>
    if x55 ≤ a1 then (
      (gQ w (some b) 2 2).bind fun r56 =>
      (gQ w r56 4 5).bind fun r57 =>
      (gQ w (some b) 2 1).bind fun r58 =>
      (gI w r58 4 2).bind fun x59 =>
      (ldI w r57 .int (a1 - x59)).bind fun x60 =>
      some (x60, w)) else
    (gQ w (some b) 2 1).bind fun r61 =>
    (gQ w r61 4 5).bind fun r62 =>
    (ldI w r62 .int a1).bind fun x63 =>
    some (x63, w)) else
  if x1 = (7 : Int32) then (
    (gQ w (some b) 2 1).bind fun r64 =>
    (gQ w r64 4 5).bind fun r65 =>
    (gQ w (some b) 2 1).bind fun r66 =>
    (gI w r66 4 2).bind fun x67 =>
    (ldI w r65 .int ((x67 - (1 : Int32)) - a1)).bind fun x68 =>
    some (x68, w)) else
  some ((0 : Int32), w)
def fO_makeResult_b2 (b : Nat)  (rec2 : (Option Nat) → Int32 → cW → Option (Unit × cW)) (a1 : Option Nat) (a2 : Int32) (w : cW) : Option (Unit × cW) :=
  (gQ w (some b) 2 3).bind fun r1 =>
  (gI w r1 4 2).bind fun x2 =>
  if x2 ≤ a2 then (
    some ((), w)) else
  (gQ w (some b) 2 3).bind fun r3 =>
  (gQ w r3 4 5).bind fun r4 =>
  a1.bind fun b5 =>
  (cRcv w (some b) 2).bind fun b8 => cbd (fO_resultCell b8 a2 b5 w) fun x6 w7 =>
  (stI w7 r4 .int a2 x6).bind fun w9 =>
  bnd (a2 + (1 : Int32)) fun x10 =>
  rec2 (some b5) x10 w9
def fO_makeResult_l2 (b : Nat)  (n : Nat) : (Option Nat) → Int32 → cW → Option (Unit × cW) := lp (fun _ _ _ => none) (fO_makeResult_b2 b ) n
def fO_makeResult (b : Nat) (a1 : Nat) (w : cW) : Option (Unit × cW) :=
  fO_makeResult_l2 b FU (some a1) (0 : Int32) w
def fA_init (b : Nat)  (w : cW) : Option (Unit × cW) :=
  bnd (alC w (.inr (6, dfL))) fun w1 =>
  cbd (fL_init w.2.1 w1) fun _ w3 =>
  (pQ w3 (some b) 1 0 (some w.2.1)).bind fun w4 =>
  (pI w4 (some b) 1 1 (0 : Int32)).bind fun w5 =>
  some ((), w5)
def fA_isFree_b60 (b : Nat) (rec2 : (Option Nat) → Int32 → Int32 → cW → Option (Int32 × cW)) (a1 : Option Nat) (a2 : Int32) (a3 : Int32) (a4 : Option Nat) (s0 : Int32) (w : cW) : Option (Int32 × cW) :=
  if s0 = 0 then (
    a4.bind fun b2 =>
    (cRcv w a1 4).bind fun b5 => cbd (fT_meets b5 b2 w) fun x3 w4 =>
    if x3 = 0 then (
      bnd (a3 + (1 : Int32)) fun x6 =>
      rec2 a1 a2 x6 w4) else
    some ((0 : Int32), w4)) else
  bnd (a3 + (1 : Int32)) fun x1 =>
  rec2 a1 a2 x1 w
def fA_isFree_b2 (b : Nat)  (rec2 : (Option Nat) → Int32 → Int32 → cW → Option (Int32 × cW)) (a1 : Option Nat) (a2 : Int32) (a3 : Int32) (w : cW) : Option (Int32 × cW) :=
  (gQ w (some b) 1 0).bind fun r1 =>
  (cRcv w r1 6).bind fun b4 => cbd (fL_size b4 w) fun x2 w3 =>
  if x2 ≤ a3 then (
    some ((1 : Int32), w3)) else
  (gQ w3 (some b) 1 0).bind fun r5 =>
  (cRcv w3 r5 6).bind fun b8 => cbd (fL_get b8 a3 w3) fun r6 w7 =>
  (cCast w7 r6 4).bind fun _ =>
  (gI w7 a1 4 2).bind fun x9 =>
  (gI w7 r6 4 10).bind fun x10 =>
  if (a2 + x9) ≤ x10 then (
    fA_isFree_b60 b rec2 a1 a2 a3 r6 (1 : Int32) w7) else
  (gI w7 r6 4 10).bind fun x11 =>
  (gI w7 r6 4 2).bind fun x12 =>
  if a2 < (x11 + x12) then (
    fA_isFree_b60 b rec2 a1 a2 a3 r6 (0 : Int32) w7) else
  fA_isFree_b60 b rec2 a1 a2 a3 r6 (1 : Int32) w7
def fA_isFree_l2 (b : Nat)  (n : Nat) : (Option Nat) → Int32 → Int32 → cW → Option (Int32 × cW) := lp (fun _ _ _ _ => none) (fA_isFree_b2 b ) n
def fA_isFree (b : Nat) (a1 : Nat) (a2 : Int32) (w : cW) : Option (Int32 × cW) :=
  fA_isFree_l2 b FU (some a1) a2 (0 : Int32) w
set_option maxHeartbeats 4000000 in
set_option maxRecDepth 100000 in
theorem tO_clampedResult {C : xC} {G : cG} {w0 w' : cW} {r : Int32} {b : Nat} (hC : okC C prog_3_method_5_code 2 "ArenaNetwork$Operator" lw_gd) (hE : xE C (some .int) mkI G w0 w' r) (hR : xR C = rmO_clampedResult) (a1 : Int32) (w : cW) (hf : fO_clampedResult b a1 w = some (r, w')) : V C w 0 0 0 [(0, va_rf (some b)), (1, .int a1)] [] := by
  unfold fO_clampedResult at hf
  refine v_bipush (pc := 0) (v := (-128 : Int32)) hC dO_clampedResult_0 (by decide) ?_
  refine v_bipush (pc := 2) (v := (127 : Int32)) hC dO_clampedResult_2 (by decide) ?_
  refine v_aload_n (pc := 4) (i := 0) (r := (some b)) hC dO_clampedResult_4 rfl 0 rfl ?_
  refine v_getQ (pc := 5) (r := (some b)) hC dO_clampedResult_5 inO rfl 3 (by decide) q279 (Or.inl rfl) hf (fun r1 hf => ?_)
  refine v_getI (pc := 8) (r := r1) hC dO_clampedResult_8 inT rfl 3 (by decide) q135 (Or.inl rfl) hf (fun x2 hf => ?_)
  refine v_iload_n (pc := 11) (i := 1) (x := a1) hC dO_clampedResult_11 rfl 1 rfl ?_
  refine v_iadd (pc := 12) hC dO_clampedResult_12 ?_
  refine v_mmin (pc := 13) (x := (127 : Int32)) (y := (x2 + a1)) (st := [.int (-128 : Int32)]) hC dO_clampedResult_13 q414 q224 q10 q225 (by rw [hR]; decide) (by simp only [List.map_cons, List.map_nil, va_cat]; exact Nat.le_of_ble_eq_true rfl) (by rw [hR]; decide) ?_
  refine v_mmax (pc := 16) (x := (-128 : Int32)) (y := (if (x2 + a1) < (127 : Int32) then (x2 + a1) else (127 : Int32))) (st := []) hC dO_clampedResult_16 q415 q197 q10 q198 (by rw [hR]; decide) (by simp only [List.map_cons, List.map_nil, va_cat]; exact Nat.le_of_ble_eq_true rfl) (by rw [hR]; decide) ?_
  exact v_iret (pc := 19) hC hE dO_clampedResult_19 (by rw [hR]; decide) (by rw [hR]; decide) hf
theorem mO_clampedResult (l : Launch) (G : cG) (b : Nat) (a1 : Int32) (w : cW) (r : Int32) (w' : cW) (hf : fO_clampedResult b a1 w = some (r, w')) : Met l yO_clampedResult (wsM yO_clampedResult prog_3_method_5_code 2 (some .int)) rmO_clampedResult (mP G w [va_rf (some b), .int a1]) (mQ mkI G w w' r) (rmO_clampedResult).cells (rmO_clampedResult).slots (Aw w) :=
  met_of (by decide +kernel) rfl (Nat.le_of_ble_eq_true rfl) (fun C hC hR _ _ _ hts hE => tO_clampedResult (okC.tbl hC) hE hR a1 w hf)
set_option maxHeartbeats 4000000 in
set_option maxRecDepth 100000 in
theorem tO_denseSum_l4 {C : xC} {G : cG} {w0 w' : cW} {r : Int32} {b : Nat} (hC : okC C prog_3_method_6_code 4 "ArenaNetwork$Operator" lw_gd) (hE : xE C (some .int) mkI G w0 w' r) (hR : xR C = rmO_denseSum)  : ∀ n : Nat, ∀ (a1 : Int32) (a2 : Int32) (a3 : Int32) (w : cW), fO_denseSum_l4 b n a1 a2 a3 w = some (r, w') → V C w 0 0 4 [(0, va_rf (some b)), (1, .int a1), (2, .int a2), (3, .int a3)] [] := by
  refine lp_P (P := fun (f : Int32 → Int32 → Int32 → cW → Option (Int32 × cW)) => ∀ (a1 : Int32) (a2 : Int32) (a3 : Int32) (w : cW), f a1 a2 a3 w = some (r, w') → V C w 0 0 4 [(0, va_rf (some b)), (1, .int a1), (2, .int a2), (3, .int a3)] []) ?_ ?_
  · intro a1 a2 a3 w hf
    cases hf
  · intro rec4 hrec4 a1 a2 a3 w hf
    unfold fO_denseSum_b4 at hf
    refine v_iload_n (pc := 4) (i := 3) (x := a3) hC dO_denseSum_4 rfl 3 rfl ?_
    refine v_aload_n (pc := 5) (i := 0) (r := (some b)) hC dO_denseSum_5 rfl 0 rfl ?_
    refine v_getQ (pc := 6) (r := (some b)) hC dO_denseSum_6 inO rfl 1 (by decide) q275 (Or.inl rfl) hf (fun r1 hf => ?_)
    refine v_getI (pc := 9) (r := r1) hC dO_denseSum_9 inT rfl 2 (by decide) q133 (Or.inl rfl) hf (fun x2 hf => ?_)
    refine v_icmp_ge (pc := 12) (tgt := 51) hC dO_denseSum_12 (by decide) hf (fun hf => ?_) (fun hf => ?_)
    · refine v_iload_n (pc := 51) (i := 2) (x := a2) hC dO_denseSum_51 rfl 2 rfl ?_
      exact v_iret (pc := 52) hC hE dO_denseSum_52 (by rw [hR]; decide) (by rw [hR]; decide) hf
    · refine v_iload_n (pc := 15) (i := 2) (x := a2) hC dO_denseSum_15 rfl 2 rfl ?_
      refine v_aload_n (pc := 16) (i := 0) (r := (some b)) hC dO_denseSum_16 rfl 0 rfl ?_
      refine v_getQ (pc := 17) (r := (some b)) hC dO_denseSum_17 inO rfl 1 (by decide) q275 (Or.inl rfl) hf (fun r3 hf => ?_)
      refine v_iload_n (pc := 20) (i := 3) (x := a3) hC dO_denseSum_20 rfl 3 rfl ?_
      refine v_callV (pc := 21) (r := r3) (As := [.int a3]) (rest := [.int a2]) (k' := 0) (n' := 0) (st1 := (fun yq => [.int yq, .int a2])) hC dO_denseSum_21 q394 q395 q396 q8 q397 ykT_distance rfl rfl (fun bq rq wq hq => mT_distance _ _ bq a3 _ rq wq hq) (by rw [hR]; decide) (by simp only [List.map_cons, List.map_nil, va_cat]; exact Nat.le_of_ble_eq_true rfl) (by decide) (by rw [hR]; decide) hf rfl (fun _ => rfl) (fun x4 w5 hf => ?_)
      refine v_aload_n (pc := 24) (i := 0) (r := (some b)) hC dO_denseSum_24 rfl 0 rfl ?_
      refine v_getQ (pc := 25) (r := (some b)) hC dO_denseSum_25 inO rfl 2 (by decide) q277 (Or.inl rfl) hf (fun r7 hf => ?_)
      refine v_iload_n (pc := 28) (i := 1) (x := a1) hC dO_denseSum_28 rfl 1 rfl ?_
      refine v_aload_n (pc := 29) (i := 0) (r := (some b)) hC dO_denseSum_29 rfl 0 rfl ?_
      refine v_getQ (pc := 30) (r := (some b)) hC dO_denseSum_30 inO rfl 1 (by decide) q275 (Or.inl rfl) hf (fun r8 hf => ?_)
      refine v_getI (pc := 33) (r := r8) hC dO_denseSum_33 inT rfl 2 (by decide) q133 (Or.inl rfl) hf (fun x9 hf => ?_)
      refine v_imul (pc := 36) hC dO_denseSum_36 ?_
      refine v_iload_n (pc := 37) (i := 3) (x := a3) hC dO_denseSum_37 rfl 3 rfl ?_
      refine v_iadd (pc := 38) hC dO_denseSum_38 ?_
      refine v_callV (pc := 39) (r := r7) (As := [.int ((a1 * x9) + a3)]) (rest := [.int x4, .int a2]) (k' := 0) (n' := 0) (st1 := (fun yq => [.int yq, .int x4, .int a2])) hC dO_denseSum_39 q394 q395 q396 q8 q397 ykT_distance rfl rfl (fun bq rq wq hq => mT_distance _ _ bq ((a1 * x9) + a3) _ rq wq hq) (by rw [hR]; decide) (by simp only [List.map_cons, List.map_nil, va_cat]; exact Nat.le_of_ble_eq_true rfl) (by decide) (by rw [hR]; decide) hf rfl (fun _ => rfl) (fun x10 w11 hf => ?_)
      refine v_imul (pc := 42) hC dO_denseSum_42 ?_
      refine v_iadd (pc := 43) hC dO_denseSum_43 ?_
      refine v_bndi hf (fun x13 hf => ?_)
      refine v_istore_n (pc := 44) (i := 2) (x := x13) hC dO_denseSum_44 rfl (by decide) [(2, .int x13), (0, va_rf (some b)), (1, .int a1), (3, .int a3)] rfl ?_
      refine v_iincB (pc := 45) (i := 3) (x := a3) (v := (1 : Int32)) hC dO_denseSum_45 3 rfl (by decide) (by decide) (fun x14 => [(3, .int x14), (2, .int x13), (0, va_rf (some b)), (1, .int a1)]) (fun _ => rfl) hf (fun x14 hf => ?_)
      refine v_goto (pc := 48) (tgt := 4) hC dO_denseSum_48 (by decide) ?_
      exact V.sub [2, 3, 1, 0] rfl (hrec4 _ _ _ _ hf)
set_option maxHeartbeats 4000000 in
set_option maxRecDepth 100000 in
theorem tO_denseSum {C : xC} {G : cG} {w0 w' : cW} {r : Int32} {b : Nat} (hC : okC C prog_3_method_6_code 4 "ArenaNetwork$Operator" lw_gd) (hE : xE C (some .int) mkI G w0 w' r) (hR : xR C = rmO_denseSum) (a1 : Int32) (w : cW) (hf : fO_denseSum b a1 w = some (r, w')) : V C w 0 0 0 [(0, va_rf (some b)), (1, .int a1)] [] := by
  unfold fO_denseSum at hf
  refine v_iconst (pc := 0) (v := (0 : Int32)) hC dO_denseSum_0 (by decide) ?_
  refine v_istore_n (pc := 1) (i := 2) (x := (0 : Int32)) hC dO_denseSum_1 rfl (by decide) [(2, .int (0 : Int32)), (0, va_rf (some b)), (1, .int a1)] rfl ?_
  refine v_iconst (pc := 2) (v := (0 : Int32)) hC dO_denseSum_2 (by decide) ?_
  refine v_istore_n (pc := 3) (i := 3) (x := (0 : Int32)) hC dO_denseSum_3 rfl (by decide) [(3, .int (0 : Int32)), (2, .int (0 : Int32)), (0, va_rf (some b)), (1, .int a1)] rfl ?_
  exact V.sub [2, 3, 1, 0] rfl (tO_denseSum_l4 hC hE hR  FU _ _ _ _ hf)
theorem mO_denseSum (l : Launch) (G : cG) (b : Nat) (a1 : Int32) (w : cW) (r : Int32) (w' : cW) (hf : fO_denseSum b a1 w = some (r, w')) : Met l yO_denseSum (wsM yO_denseSum prog_3_method_6_code 4 (some .int)) rmO_denseSum (mP G w [va_rf (some b), .int a1]) (mQ mkI G w w' r) (rmO_denseSum).cells (rmO_denseSum).slots (Aw w) :=
  met_of (by decide +kernel) rfl (Nat.le_of_ble_eq_true rfl) (fun C hC hR _ _ _ hts hE => tO_denseSum (okC.tbl hC) hE hR a1 w hf)
set_option maxHeartbeats 4000000 in
set_option maxRecDepth 100000 in
theorem tO_greatestOfGroup_l5 {C : xC} {G : cG} {w0 w' : cW} {r : Int32} {b : Nat} (hC : okC C prog_3_method_7_code 4 "ArenaNetwork$Operator" lw_gd) (hE : xE C (some .int) mkI G w0 w' r) (hR : xR C = rmO_greatestOfGroup)  : ∀ n : Nat, ∀ (a1 : Int32) (a2 : Int32) (a3 : Int32) (w : cW), fO_greatestOfGroup_l5 b n a1 a2 a3 w = some (r, w') → V C w 0 0 5 [(0, va_rf (some b)), (1, .int a1), (2, .int a2), (3, .int a3)] [] := by
  refine lp_P (P := fun (f : Int32 → Int32 → Int32 → cW → Option (Int32 × cW)) => ∀ (a1 : Int32) (a2 : Int32) (a3 : Int32) (w : cW), f a1 a2 a3 w = some (r, w') → V C w 0 0 5 [(0, va_rf (some b)), (1, .int a1), (2, .int a2), (3, .int a3)] []) ?_ ?_
  · intro a1 a2 a3 w hf
    cases hf
  · intro rec5 hrec5 a1 a2 a3 w hf
    unfold fO_greatestOfGroup_b5 at hf
    refine v_iload_n (pc := 5) (i := 3) (x := a3) hC dO_greatestOfGroup_5 rfl 3 rfl ?_
    refine v_aload_n (pc := 6) (i := 0) (r := (some b)) hC dO_greatestOfGroup_6 rfl 0 rfl ?_
    refine v_getI (pc := 7) (r := (some b)) hC dO_greatestOfGroup_7 inO rfl 4 (by decide) q281 (Or.inl rfl) hf (fun x1 hf => ?_)
    refine v_icmp_ge (pc := 10) (tgt := 40) hC dO_greatestOfGroup_10 (by decide) hf (fun hf => ?_) (fun hf => ?_)
    · refine v_iload_n (pc := 40) (i := 2) (x := a2) hC dO_greatestOfGroup_40 rfl 2 rfl ?_
      exact v_iret (pc := 41) hC hE dO_greatestOfGroup_41 (by rw [hR]; decide) (by rw [hR]; decide) hf
    · refine v_iload_n (pc := 13) (i := 2) (x := a2) hC dO_greatestOfGroup_13 rfl 2 rfl ?_
      refine v_aload_n (pc := 14) (i := 0) (r := (some b)) hC dO_greatestOfGroup_14 rfl 0 rfl ?_
      refine v_getQ (pc := 15) (r := (some b)) hC dO_greatestOfGroup_15 inO rfl 1 (by decide) q275 (Or.inl rfl) hf (fun r2 hf => ?_)
      refine v_getQ (pc := 18) (r := r2) hC dO_greatestOfGroup_18 inT rfl 5 (by decide) q139 (Or.inl rfl) hf (fun r3 hf => ?_)
      refine v_iload_n (pc := 21) (i := 1) (x := a1) hC dO_greatestOfGroup_21 rfl 1 rfl ?_
      refine v_aload_n (pc := 22) (i := 0) (r := (some b)) hC dO_greatestOfGroup_22 rfl 0 rfl ?_
      refine v_getI (pc := 23) (r := (some b)) hC dO_greatestOfGroup_23 inO rfl 4 (by decide) q281 (Or.inl rfl) hf (fun x4 hf => ?_)
      refine v_imul (pc := 26) hC dO_greatestOfGroup_26 ?_
      refine v_iload_n (pc := 27) (i := 3) (x := a3) hC dO_greatestOfGroup_27 rfl 3 rfl ?_
      refine v_iadd (pc := 28) hC dO_greatestOfGroup_28 ?_
      refine v_iald (pc := 29) hC dO_greatestOfGroup_29 hf (fun x5 hf => ?_)
      refine v_mmax (pc := 30) (x := a2) (y := x5) (st := []) hC dO_greatestOfGroup_30 q415 q197 q10 q198 (by rw [hR]; decide) (by simp only [List.map_cons, List.map_nil, va_cat]; exact Nat.le_of_ble_eq_true rfl) (by rw [hR]; decide) ?_
      refine v_bndi hf (fun x6 hf => ?_)
      refine v_istore_n (pc := 33) (i := 2) (x := x6) hC dO_greatestOfGroup_33 rfl (by decide) [(2, .int x6), (0, va_rf (some b)), (1, .int a1), (3, .int a3)] rfl ?_
      refine v_iincB (pc := 34) (i := 3) (x := a3) (v := (1 : Int32)) hC dO_greatestOfGroup_34 3 rfl (by decide) (by decide) (fun x7 => [(3, .int x7), (2, .int x6), (0, va_rf (some b)), (1, .int a1)]) (fun _ => rfl) hf (fun x7 hf => ?_)
      refine v_goto (pc := 37) (tgt := 5) hC dO_greatestOfGroup_37 (by decide) ?_
      exact V.sub [2, 3, 1, 0] rfl (hrec5 _ _ _ _ hf)
set_option maxHeartbeats 4000000 in
set_option maxRecDepth 100000 in
theorem tO_greatestOfGroup {C : xC} {G : cG} {w0 w' : cW} {r : Int32} {b : Nat} (hC : okC C prog_3_method_7_code 4 "ArenaNetwork$Operator" lw_gd) (hE : xE C (some .int) mkI G w0 w' r) (hR : xR C = rmO_greatestOfGroup) (a1 : Int32) (w : cW) (hf : fO_greatestOfGroup b a1 w = some (r, w')) : V C w 0 0 0 [(0, va_rf (some b)), (1, .int a1)] [] := by
  unfold fO_greatestOfGroup at hf
  refine v_bipush (pc := 0) (v := (-128 : Int32)) hC dO_greatestOfGroup_0 (by decide) ?_
  refine v_istore_n (pc := 2) (i := 2) (x := (-128 : Int32)) hC dO_greatestOfGroup_2 rfl (by decide) [(2, .int (-128 : Int32)), (0, va_rf (some b)), (1, .int a1)] rfl ?_
  refine v_iconst (pc := 3) (v := (0 : Int32)) hC dO_greatestOfGroup_3 (by decide) ?_
  refine v_istore_n (pc := 4) (i := 3) (x := (0 : Int32)) hC dO_greatestOfGroup_4 rfl (by decide) [(3, .int (0 : Int32)), (2, .int (-128 : Int32)), (0, va_rf (some b)), (1, .int a1)] rfl ?_
  exact V.sub [2, 3, 1, 0] rfl (tO_greatestOfGroup_l5 hC hE hR  FU _ _ _ _ hf)
theorem mO_greatestOfGroup (l : Launch) (G : cG) (b : Nat) (a1 : Int32) (w : cW) (r : Int32) (w' : cW) (hf : fO_greatestOfGroup b a1 w = some (r, w')) : Met l yO_greatestOfGroup (wsM yO_greatestOfGroup prog_3_method_7_code 4 (some .int)) rmO_greatestOfGroup (mP G w [va_rf (some b), .int a1]) (mQ mkI G w w' r) (rmO_greatestOfGroup).cells (rmO_greatestOfGroup).slots (Aw w) :=
  met_of (by decide +kernel) rfl (Nat.le_of_ble_eq_true rfl) (fun C hC hR _ _ _ hts hE => tO_greatestOfGroup (okC.tbl hC) hE hR a1 w hf)
set_option maxHeartbeats 4000000 in
set_option maxRecDepth 100000 in
theorem tO_sumOfGroup_l4 {C : xC} {G : cG} {w0 w' : cW} {r : Int32} {b : Nat} (hC : okC C prog_3_method_8_code 4 "ArenaNetwork$Operator" lw_gd) (hE : xE C (some .int) mkI G w0 w' r) (hR : xR C = rmO_sumOfGroup)  : ∀ n : Nat, ∀ (a1 : Int32) (a2 : Int32) (a3 : Int32) (w : cW), fO_sumOfGroup_l4 b n a1 a2 a3 w = some (r, w') → V C w 0 0 4 [(0, va_rf (some b)), (1, .int a1), (2, .int a2), (3, .int a3)] [] := by
  refine lp_P (P := fun (f : Int32 → Int32 → Int32 → cW → Option (Int32 × cW)) => ∀ (a1 : Int32) (a2 : Int32) (a3 : Int32) (w : cW), f a1 a2 a3 w = some (r, w') → V C w 0 0 4 [(0, va_rf (some b)), (1, .int a1), (2, .int a2), (3, .int a3)] []) ?_ ?_
  · intro a1 a2 a3 w hf
    cases hf
  · intro rec4 hrec4 a1 a2 a3 w hf
    unfold fO_sumOfGroup_b4 at hf
    refine v_iload_n (pc := 4) (i := 3) (x := a3) hC dO_sumOfGroup_4 rfl 3 rfl ?_
    refine v_aload_n (pc := 5) (i := 0) (r := (some b)) hC dO_sumOfGroup_5 rfl 0 rfl ?_
    refine v_getI (pc := 6) (r := (some b)) hC dO_sumOfGroup_6 inO rfl 4 (by decide) q281 (Or.inl rfl) hf (fun x1 hf => ?_)
    refine v_icmp_ge (pc := 9) (tgt := 37) hC dO_sumOfGroup_9 (by decide) hf (fun hf => ?_) (fun hf => ?_)
    · refine v_iload_n (pc := 37) (i := 2) (x := a2) hC dO_sumOfGroup_37 rfl 2 rfl ?_
      exact v_iret (pc := 38) hC hE dO_sumOfGroup_38 (by rw [hR]; decide) (by rw [hR]; decide) hf
    · refine v_iload_n (pc := 12) (i := 2) (x := a2) hC dO_sumOfGroup_12 rfl 2 rfl ?_
      refine v_aload_n (pc := 13) (i := 0) (r := (some b)) hC dO_sumOfGroup_13 rfl 0 rfl ?_
      refine v_getQ (pc := 14) (r := (some b)) hC dO_sumOfGroup_14 inO rfl 1 (by decide) q275 (Or.inl rfl) hf (fun r2 hf => ?_)
      refine v_getQ (pc := 17) (r := r2) hC dO_sumOfGroup_17 inT rfl 5 (by decide) q139 (Or.inl rfl) hf (fun r3 hf => ?_)
      refine v_iload_n (pc := 20) (i := 1) (x := a1) hC dO_sumOfGroup_20 rfl 1 rfl ?_
      refine v_aload_n (pc := 21) (i := 0) (r := (some b)) hC dO_sumOfGroup_21 rfl 0 rfl ?_
      refine v_getI (pc := 22) (r := (some b)) hC dO_sumOfGroup_22 inO rfl 4 (by decide) q281 (Or.inl rfl) hf (fun x4 hf => ?_)
      refine v_imul (pc := 25) hC dO_sumOfGroup_25 ?_
      refine v_iload_n (pc := 26) (i := 3) (x := a3) hC dO_sumOfGroup_26 rfl 3 rfl ?_
      refine v_iadd (pc := 27) hC dO_sumOfGroup_27 ?_
      refine v_iald (pc := 28) hC dO_sumOfGroup_28 hf (fun x5 hf => ?_)
      refine v_iadd (pc := 29) hC dO_sumOfGroup_29 ?_
      refine v_bndi hf (fun x6 hf => ?_)
      refine v_istore_n (pc := 30) (i := 2) (x := x6) hC dO_sumOfGroup_30 rfl (by decide) [(2, .int x6), (0, va_rf (some b)), (1, .int a1), (3, .int a3)] rfl ?_
      refine v_iincB (pc := 31) (i := 3) (x := a3) (v := (1 : Int32)) hC dO_sumOfGroup_31 3 rfl (by decide) (by decide) (fun x7 => [(3, .int x7), (2, .int x6), (0, va_rf (some b)), (1, .int a1)]) (fun _ => rfl) hf (fun x7 hf => ?_)
      refine v_goto (pc := 34) (tgt := 4) hC dO_sumOfGroup_34 (by decide) ?_
      exact V.sub [2, 3, 1, 0] rfl (hrec4 _ _ _ _ hf)
set_option maxHeartbeats 4000000 in
set_option maxRecDepth 100000 in
theorem tO_sumOfGroup {C : xC} {G : cG} {w0 w' : cW} {r : Int32} {b : Nat} (hC : okC C prog_3_method_8_code 4 "ArenaNetwork$Operator" lw_gd) (hE : xE C (some .int) mkI G w0 w' r) (hR : xR C = rmO_sumOfGroup) (a1 : Int32) (w : cW) (hf : fO_sumOfGroup b a1 w = some (r, w')) : V C w 0 0 0 [(0, va_rf (some b)), (1, .int a1)] [] := by
  unfold fO_sumOfGroup at hf
  refine v_iconst (pc := 0) (v := (0 : Int32)) hC dO_sumOfGroup_0 (by decide) ?_
  refine v_istore_n (pc := 1) (i := 2) (x := (0 : Int32)) hC dO_sumOfGroup_1 rfl (by decide) [(2, .int (0 : Int32)), (0, va_rf (some b)), (1, .int a1)] rfl ?_
  refine v_iconst (pc := 2) (v := (0 : Int32)) hC dO_sumOfGroup_2 (by decide) ?_
  refine v_istore_n (pc := 3) (i := 3) (x := (0 : Int32)) hC dO_sumOfGroup_3 rfl (by decide) [(3, .int (0 : Int32)), (2, .int (0 : Int32)), (0, va_rf (some b)), (1, .int a1)] rfl ?_
  exact V.sub [2, 3, 1, 0] rfl (tO_sumOfGroup_l4 hC hE hR  FU _ _ _ _ hf)
theorem mO_sumOfGroup (l : Launch) (G : cG) (b : Nat) (a1 : Int32) (w : cW) (r : Int32) (w' : cW) (hf : fO_sumOfGroup b a1 w = some (r, w')) : Met l yO_sumOfGroup (wsM yO_sumOfGroup prog_3_method_8_code 4 (some .int)) rmO_sumOfGroup (mP G w [va_rf (some b), .int a1]) (mQ mkI G w w' r) (rmO_sumOfGroup).cells (rmO_sumOfGroup).slots (Aw w) :=
  met_of (by decide +kernel) rfl (Nat.le_of_ble_eq_true rfl) (fun C hC hR _ _ _ hts hE => tO_sumOfGroup (okC.tbl hC) hE hR a1 w hf)
set_option maxHeartbeats 4000000 in
set_option maxRecDepth 100000 in
theorem tO_resultCell {C : xC} {G : cG} {w0 w' : cW} {r : Int32} {b : Nat} (hC : okC C prog_3_method_4_code 3 "ArenaNetwork$Operator" lw_gd) (hE : xE C (some .int) mkI G w0 w' r) (hR : xR C = rmO_resultCell) (a1 : Int32) (a2 : Nat) (w : cW) (hf : fO_resultCell b a1 a2 w = some (r, w')) : V C w 0 0 0 [(0, va_rf (some b)), (1, .int a1), (2, va_rf (some a2))] [] := by
  unfold fO_resultCell at hf
  refine v_aload_n (pc := 0) (i := 0) (r := (some b)) hC dO_resultCell_0 rfl 0 rfl ?_
  refine v_getI (pc := 1) (r := (some b)) hC dO_resultCell_1 inO rfl 0 (by decide) q274 (Or.inl rfl) hf (fun x1 hf => ?_)
  by_cases e4_0 : x1 = (0 : Int32)
  · rw [if_pos e4_0] at hf
    refine v_tabIn (tgt := 52) (off := 48) hC dO_resultCell_4 (by rw [e4_0]; decide) (by rw [e4_0]; decide) (by rw [e4_0]; decide) (by decide) ?_
    refine v_aload_n (pc := 52) (i := 0) (r := (some b)) hC dO_resultCell_52 rfl 0 rfl ?_
    refine v_aload_n (pc := 53) (i := 2) (r := (some a2)) hC dO_resultCell_53 rfl 2 rfl ?_
    refine v_aload_n (pc := 54) (i := 0) (r := (some b)) hC dO_resultCell_54 rfl 0 rfl ?_
    refine v_iload_n (pc := 55) (i := 1) (x := a1) hC dO_resultCell_55 rfl 1 rfl ?_
    refine v_callV (pc := 56) (r := (some b)) (As := [.int a1]) (rest := [va_rf (some a2), va_rf (some b)]) (k' := 0) (n' := 0) (st1 := (fun yq => [.int yq, va_rf (some a2), va_rf (some b)])) hC dO_resultCell_56 q390 q392 p13 q15 q393 ykO_denseSum rfl rfl (fun bq rq wq hq => mO_denseSum _ _ bq a1 _ rq wq hq) (by rw [hR]; decide) (by simp only [List.map_cons, List.map_nil, va_cat]; exact Nat.le_of_ble_eq_true rfl) (by decide) (by rw [hR]; decide) hf rfl (fun _ => rfl) (fun x2 w3 hf => ?_)
    refine v_i2l (pc := 59) hC dO_resultCell_59 ?_
    refine v_callV (pc := 60) (r := (some a2)) (As := [.long x2.toInt64]) (rest := [va_rf (some b)]) (k' := 0) (n' := 0) (st1 := (fun yq => [.int yq, va_rf (some b)])) hC dO_resultCell_60 q398 q399 q400 q6 q401 ykS_applied rfl rfl (fun bq rq wq hq => mS_applied _ _ bq x2.toInt64 _ rq wq hq) (by rw [hR]; decide) (by simp only [List.map_cons, List.map_nil, va_cat]; exact Nat.le_of_ble_eq_true rfl) (by decide) (by rw [hR]; decide) hf rfl (fun _ => rfl) (fun x5 w6 hf => ?_)
    refine v_callV (pc := 63) (r := (some b)) (As := [.int x5]) (rest := []) (k' := 0) (n' := 0) (st1 := (fun yq => [.int yq])) hC dO_resultCell_63 q410 q412 p14 q15 q413 ykO_clampedResult rfl rfl (fun bq rq wq hq => mO_clampedResult _ _ bq x5 _ rq wq hq) (by rw [hR]; decide) (by simp only [List.map_cons, List.map_nil, va_cat]; exact Nat.le_of_ble_eq_true rfl) (by decide) (by rw [hR]; decide) hf rfl (fun _ => rfl) (fun x8 w9 hf => ?_)
    exact v_iret (pc := 66) hC hE dO_resultCell_66 (by rw [hR]; decide) (by rw [hR]; decide) hf
  rw [if_neg e4_0] at hf
  by_cases e4_1 : x1 = (1 : Int32)
  · rw [if_pos e4_1] at hf
    refine v_tabIn (tgt := 67) (off := 63) hC dO_resultCell_4 (by rw [e4_1]; decide) (by rw [e4_1]; decide) (by rw [e4_1]; decide) (by decide) ?_
    refine v_aload_n (pc := 67) (i := 0) (r := (some b)) hC dO_resultCell_67 rfl 0 rfl ?_
    refine v_aload_n (pc := 68) (i := 2) (r := (some a2)) hC dO_resultCell_68 rfl 2 rfl ?_
    refine v_aload_n (pc := 69) (i := 0) (r := (some b)) hC dO_resultCell_69 rfl 0 rfl ?_
    refine v_getQ (pc := 70) (r := (some b)) hC dO_resultCell_70 inO rfl 1 (by decide) q275 (Or.inl rfl) hf (fun r11 hf => ?_)
    refine v_iload_n (pc := 73) (i := 1) (x := a1) hC dO_resultCell_73 rfl 1 rfl ?_
    refine v_callV (pc := 74) (r := r11) (As := [.int a1]) (rest := [va_rf (some a2), va_rf (some b)]) (k' := 0) (n' := 0) (st1 := (fun yq => [.int yq, va_rf (some a2), va_rf (some b)])) hC dO_resultCell_74 q394 q395 q396 q8 q397 ykT_distance rfl rfl (fun bq rq wq hq => mT_distance _ _ bq a1 _ rq wq hq) (by rw [hR]; decide) (by simp only [List.map_cons, List.map_nil, va_cat]; exact Nat.le_of_ble_eq_true rfl) (by decide) (by rw [hR]; decide) hf rfl (fun _ => rfl) (fun x12 w13 hf => ?_)
    refine v_aload_n (pc := 77) (i := 0) (r := (some b)) hC dO_resultCell_77 rfl 0 rfl ?_
    refine v_getQ (pc := 78) (r := (some b)) hC dO_resultCell_78 inO rfl 2 (by decide) q277 (Or.inl rfl) hf (fun r15 hf => ?_)
    refine v_iload_n (pc := 81) (i := 1) (x := a1) hC dO_resultCell_81 rfl 1 rfl ?_
    refine v_callV (pc := 82) (r := r15) (As := [.int a1]) (rest := [.int x12, va_rf (some a2), va_rf (some b)]) (k' := 0) (n' := 0) (st1 := (fun yq => [.int yq, .int x12, va_rf (some a2), va_rf (some b)])) hC dO_resultCell_82 q394 q395 q396 q8 q397 ykT_distance rfl rfl (fun bq rq wq hq => mT_distance _ _ bq a1 _ rq wq hq) (by rw [hR]; decide) (by simp only [List.map_cons, List.map_nil, va_cat]; exact Nat.le_of_ble_eq_true rfl) (by decide) (by rw [hR]; decide) hf rfl (fun _ => rfl) (fun x16 w17 hf => ?_)
    refine v_iadd (pc := 85) hC dO_resultCell_85 ?_
    refine v_i2l (pc := 86) hC dO_resultCell_86 ?_
    refine v_callV (pc := 87) (r := (some a2)) (As := [.long ((x12 + x16).toInt64)]) (rest := [va_rf (some b)]) (k' := 0) (n' := 0) (st1 := (fun yq => [.int yq, va_rf (some b)])) hC dO_resultCell_87 q398 q399 q400 q6 q401 ykS_applied rfl rfl (fun bq rq wq hq => mS_applied _ _ bq ((x12 + x16).toInt64) _ rq wq hq) (by rw [hR]; decide) (by simp only [List.map_cons, List.map_nil, va_cat]; exact Nat.le_of_ble_eq_true rfl) (by decide) (by rw [hR]; decide) hf rfl (fun _ => rfl) (fun x19 w20 hf => ?_)
    refine v_callV (pc := 90) (r := (some b)) (As := [.int x19]) (rest := []) (k' := 0) (n' := 0) (st1 := (fun yq => [.int yq])) hC dO_resultCell_90 q410 q412 p14 q15 q413 ykO_clampedResult rfl rfl (fun bq rq wq hq => mO_clampedResult _ _ bq x19 _ rq wq hq) (by rw [hR]; decide) (by simp only [List.map_cons, List.map_nil, va_cat]; exact Nat.le_of_ble_eq_true rfl) (by decide) (by rw [hR]; decide) hf rfl (fun _ => rfl) (fun x22 w23 hf => ?_)
    exact v_iret (pc := 93) hC hE dO_resultCell_93 (by rw [hR]; decide) (by rw [hR]; decide) hf
  rw [if_neg e4_1] at hf
  by_cases e4_2 : x1 = (2 : Int32)
  · rw [if_pos e4_2] at hf
    refine v_tabIn (tgt := 94) (off := 90) hC dO_resultCell_4 (by rw [e4_2]; decide) (by rw [e4_2]; decide) (by rw [e4_2]; decide) (by decide) ?_
    refine v_aload_n (pc := 94) (i := 0) (r := (some b)) hC dO_resultCell_94 rfl 0 rfl ?_
    refine v_aload_n (pc := 95) (i := 2) (r := (some a2)) hC dO_resultCell_95 rfl 2 rfl ?_
    refine v_aload_n (pc := 96) (i := 0) (r := (some b)) hC dO_resultCell_96 rfl 0 rfl ?_
    refine v_getQ (pc := 97) (r := (some b)) hC dO_resultCell_97 inO rfl 1 (by decide) q275 (Or.inl rfl) hf (fun r25 hf => ?_)
    refine v_iload_n (pc := 100) (i := 1) (x := a1) hC dO_resultCell_100 rfl 1 rfl ?_
    refine v_callV (pc := 101) (r := r25) (As := [.int a1]) (rest := [va_rf (some a2), va_rf (some b)]) (k' := 0) (n' := 0) (st1 := (fun yq => [.int yq, va_rf (some a2), va_rf (some b)])) hC dO_resultCell_101 q394 q395 q396 q8 q397 ykT_distance rfl rfl (fun bq rq wq hq => mT_distance _ _ bq a1 _ rq wq hq) (by rw [hR]; decide) (by simp only [List.map_cons, List.map_nil, va_cat]; exact Nat.le_of_ble_eq_true rfl) (by decide) (by rw [hR]; decide) hf rfl (fun _ => rfl) (fun x26 w27 hf => ?_)
    refine v_aload_n (pc := 104) (i := 0) (r := (some b)) hC dO_resultCell_104 rfl 0 rfl ?_
    refine v_getQ (pc := 105) (r := (some b)) hC dO_resultCell_105 inO rfl 2 (by decide) q277 (Or.inl rfl) hf (fun r29 hf => ?_)
    refine v_iload_n (pc := 108) (i := 1) (x := a1) hC dO_resultCell_108 rfl 1 rfl ?_
    refine v_callV (pc := 109) (r := r29) (As := [.int a1]) (rest := [.int x26, va_rf (some a2), va_rf (some b)]) (k' := 0) (n' := 0) (st1 := (fun yq => [.int yq, .int x26, va_rf (some a2), va_rf (some b)])) hC dO_resultCell_109 q394 q395 q396 q8 q397 ykT_distance rfl rfl (fun bq rq wq hq => mT_distance _ _ bq a1 _ rq wq hq) (by rw [hR]; decide) (by simp only [List.map_cons, List.map_nil, va_cat]; exact Nat.le_of_ble_eq_true rfl) (by decide) (by rw [hR]; decide) hf rfl (fun _ => rfl) (fun x30 w31 hf => ?_)
    refine v_imul (pc := 112) hC dO_resultCell_112 ?_
    refine v_i2l (pc := 113) hC dO_resultCell_113 ?_
    refine v_callV (pc := 114) (r := (some a2)) (As := [.long ((x26 * x30).toInt64)]) (rest := [va_rf (some b)]) (k' := 0) (n' := 0) (st1 := (fun yq => [.int yq, va_rf (some b)])) hC dO_resultCell_114 q398 q399 q400 q6 q401 ykS_applied rfl rfl (fun bq rq wq hq => mS_applied _ _ bq ((x26 * x30).toInt64) _ rq wq hq) (by rw [hR]; decide) (by simp only [List.map_cons, List.map_nil, va_cat]; exact Nat.le_of_ble_eq_true rfl) (by decide) (by rw [hR]; decide) hf rfl (fun _ => rfl) (fun x33 w34 hf => ?_)
    refine v_callV (pc := 117) (r := (some b)) (As := [.int x33]) (rest := []) (k' := 0) (n' := 0) (st1 := (fun yq => [.int yq])) hC dO_resultCell_117 q410 q412 p14 q15 q413 ykO_clampedResult rfl rfl (fun bq rq wq hq => mO_clampedResult _ _ bq x33 _ rq wq hq) (by rw [hR]; decide) (by simp only [List.map_cons, List.map_nil, va_cat]; exact Nat.le_of_ble_eq_true rfl) (by decide) (by rw [hR]; decide) hf rfl (fun _ => rfl) (fun x36 w37 hf => ?_)
    exact v_iret (pc := 120) hC hE dO_resultCell_120 (by rw [hR]; decide) (by rw [hR]; decide) hf
  rw [if_neg e4_2] at hf
  by_cases e4_3 : x1 = (3 : Int32)
  · rw [if_pos e4_3] at hf
    refine v_tabIn (tgt := 121) (off := 117) hC dO_resultCell_4 (by rw [e4_3]; decide) (by rw [e4_3]; decide) (by rw [e4_3]; decide) (by decide) ?_
    refine v_aload_n (pc := 121) (i := 0) (r := (some b)) hC dO_resultCell_121 rfl 0 rfl ?_
    refine v_iload_n (pc := 122) (i := 1) (x := a1) hC dO_resultCell_122 rfl 1 rfl ?_
    refine v_callV (pc := 123) (r := (some b)) (As := [.int a1]) (rest := []) (k' := 0) (n' := 0) (st1 := (fun yq => [.int yq])) hC dO_resultCell_123 q416 q418 p15 q15 q419 ykO_greatestOfGroup rfl rfl (fun bq rq wq hq => mO_greatestOfGroup _ _ bq a1 _ rq wq hq) (by rw [hR]; decide) (by simp only [List.map_cons, List.map_nil, va_cat]; exact Nat.le_of_ble_eq_true rfl) (by decide) (by rw [hR]; decide) hf rfl (fun _ => rfl) (fun x39 w40 hf => ?_)
    exact v_iret (pc := 126) hC hE dO_resultCell_126 (by rw [hR]; decide) (by rw [hR]; decide) hf
  rw [if_neg e4_3] at hf
  by_cases e4_4 : x1 = (4 : Int32)
  · rw [if_pos e4_4] at hf
    refine v_tabIn (tgt := 127) (off := 123) hC dO_resultCell_4 (by rw [e4_4]; decide) (by rw [e4_4]; decide) (by rw [e4_4]; decide) (by decide) ?_
    refine v_aload_n (pc := 127) (i := 0) (r := (some b)) hC dO_resultCell_127 rfl 0 rfl ?_
    refine v_iload_n (pc := 128) (i := 1) (x := a1) hC dO_resultCell_128 rfl 1 rfl ?_
    refine v_callV (pc := 129) (r := (some b)) (As := [.int a1]) (rest := []) (k' := 0) (n' := 0) (st1 := (fun yq => [.int yq])) hC dO_resultCell_129 q420 q422 p16 q15 q423 ykO_sumOfGroup rfl rfl (fun bq rq wq hq => mO_sumOfGroup _ _ bq a1 _ rq wq hq) (by rw [hR]; decide) (by simp only [List.map_cons, List.map_nil, va_cat]; exact Nat.le_of_ble_eq_true rfl) (by decide) (by rw [hR]; decide) hf rfl (fun _ => rfl) (fun x42 w43 hf => ?_)
    refine v_i2l (pc := 132) hC dO_resultCell_132 ?_
    refine v_aload_n (pc := 133) (i := 0) (r := (some b)) hC dO_resultCell_133 rfl 0 rfl ?_
    refine v_getI (pc := 134) (r := (some b)) hC dO_resultCell_134 inO rfl 4 (by decide) q281 (Or.inl rfl) hf (fun x45 hf => ?_)
    refine v_i2l (pc := 137) hC dO_resultCell_137 ?_
    refine v_callSN (pc := 138) (As := [.long x42.toInt64, .long x45.toInt64]) (rest := []) (k' := 0) (n' := 0) (st1 := (fun yq => [.long yq])) hC dO_resultCell_138 x424 q404 q1 q405 ykN_rounded rfl (fun rq wq hq => mN_rounded _ _ x42.toInt64 x45.toInt64 _ rq wq hq) (by rw [hR]; decide) (by simp only [List.map_cons, List.map_nil, va_cat]; exact Nat.le_of_ble_eq_true rfl) (by decide) (by rw [hR]; decide) hf rfl (fun _ => rfl) (fun j46 w47 hf => ?_)
    refine v_l2i (pc := 141) hC dO_resultCell_141 ?_
    exact v_iret (pc := 142) hC hE dO_resultCell_142 (by rw [hR]; decide) (by rw [hR]; decide) hf
  rw [if_neg e4_4] at hf
  by_cases e4_5 : x1 = (5 : Int32)
  · rw [if_pos e4_5] at hf
    refine v_tabIn (tgt := 143) (off := 139) hC dO_resultCell_4 (by rw [e4_5]; decide) (by rw [e4_5]; decide) (by rw [e4_5]; decide) (by decide) ?_
    refine v_aload_n (pc := 143) (i := 0) (r := (some b)) hC dO_resultCell_143 rfl 0 rfl ?_
    refine v_getQ (pc := 144) (r := (some b)) hC dO_resultCell_144 inO rfl 2 (by decide) q277 (Or.inl rfl) hf (fun r48 hf => ?_)
    refine v_getQ (pc := 147) (r := r48) hC dO_resultCell_147 inT rfl 5 (by decide) q139 (Or.inl rfl) hf (fun r49 hf => ?_)
    refine v_aload_n (pc := 150) (i := 0) (r := (some b)) hC dO_resultCell_150 rfl 0 rfl ?_
    refine v_getQ (pc := 151) (r := (some b)) hC dO_resultCell_151 inO rfl 1 (by decide) q275 (Or.inl rfl) hf (fun r50 hf => ?_)
    refine v_getQ (pc := 154) (r := r50) hC dO_resultCell_154 inT rfl 5 (by decide) q139 (Or.inl rfl) hf (fun r51 hf => ?_)
    refine v_iload_n (pc := 157) (i := 1) (x := a1) hC dO_resultCell_157 rfl 1 rfl ?_
    refine v_iald (pc := 158) hC dO_resultCell_158 hf (fun x52 hf => ?_)
    refine v_bipush (pc := 159) (v := (-128 : Int32)) hC dO_resultCell_159 (by decide) ?_
    refine v_isub (pc := 161) hC dO_resultCell_161 ?_
    refine v_bipush (pc := 162) (v := (16 : Int32)) hC dO_resultCell_162 (by decide) ?_
    refine v_idiv (pc := 164) hC dO_resultCell_164 (by decide) ?_
    refine v_iald (pc := 165) hC dO_resultCell_165 hf (fun x53 hf => ?_)
    exact v_iret (pc := 166) hC hE dO_resultCell_166 (by rw [hR]; decide) (by rw [hR]; decide) hf
  rw [if_neg e4_5] at hf
  by_cases e4_6 : x1 = (6 : Int32)
  · rw [if_pos e4_6] at hf
    refine v_tabIn (tgt := 167) (off := 163) hC dO_resultCell_4 (by rw [e4_6]; decide) (by rw [e4_6]; decide) (by rw [e4_6]; decide) (by decide) ?_
    refine v_iload_n (pc := 167) (i := 1) (x := a1) hC dO_resultCell_167 rfl 1 rfl ?_
    refine v_aload_n (pc := 168) (i := 0) (r := (some b)) hC dO_resultCell_168 rfl 0 rfl ?_
    refine v_getQ (pc := 169) (r := (some b)) hC dO_resultCell_169 inO rfl 1 (by decide) q275 (Or.inl rfl) hf (fun r54 hf => ?_)
    refine v_getI (pc := 172) (r := r54) hC dO_resultCell_172 inT rfl 2 (by decide) q133 (Or.inl rfl) hf (fun x55 hf => ?_)
    refine v_icmp_ge (pc := 175) (tgt := 190) hC dO_resultCell_175 (by decide) hf (fun hf => ?_) (fun hf => ?_)
    · refine v_aload_n (pc := 190) (i := 0) (r := (some b)) hC dO_resultCell_190 rfl 0 rfl ?_
      refine v_getQ (pc := 191) (r := (some b)) hC dO_resultCell_191 inO rfl 2 (by decide) q277 (Or.inl rfl) hf (fun r56 hf => ?_)
      refine v_getQ (pc := 194) (r := r56) hC dO_resultCell_194 inT rfl 5 (by decide) q139 (Or.inl rfl) hf (fun r57 hf => ?_)
      refine v_iload_n (pc := 197) (i := 1) (x := a1) hC dO_resultCell_197 rfl 1 rfl ?_
      refine v_aload_n (pc := 198) (i := 0) (r := (some b)) hC dO_resultCell_198 rfl 0 rfl ?_
      refine v_getQ (pc := 199) (r := (some b)) hC dO_resultCell_199 inO rfl 1 (by decide) q275 (Or.inl rfl) hf (fun r58 hf => ?_)
      refine v_getI (pc := 202) (r := r58) hC dO_resultCell_202 inT rfl 2 (by decide) q133 (Or.inl rfl) hf (fun x59 hf => ?_)
      refine v_isub (pc := 205) hC dO_resultCell_205 ?_
      refine v_iald (pc := 206) hC dO_resultCell_206 hf (fun x60 hf => ?_)
      exact v_iret (pc := 207) hC hE dO_resultCell_207 (by rw [hR]; decide) (by rw [hR]; decide) hf
    · refine v_aload_n (pc := 178) (i := 0) (r := (some b)) hC dO_resultCell_178 rfl 0 rfl ?_
      refine v_getQ (pc := 179) (r := (some b)) hC dO_resultCell_179 inO rfl 1 (by decide) q275 (Or.inl rfl) hf (fun r61 hf => ?_)
      refine v_getQ (pc := 182) (r := r61) hC dO_resultCell_182 inT rfl 5 (by decide) q139 (Or.inl rfl) hf (fun r62 hf => ?_)
      refine v_iload_n (pc := 185) (i := 1) (x := a1) hC dO_resultCell_185 rfl 1 rfl ?_
      refine v_iald (pc := 186) hC dO_resultCell_186 hf (fun x63 hf => ?_)
      refine v_goto (pc := 187) (tgt := 207) hC dO_resultCell_187 (by decide) ?_
      exact v_iret (pc := 207) hC hE dO_resultCell_207 (by rw [hR]; decide) (by rw [hR]; decide) hf
  rw [if_neg e4_6] at hf
  by_cases e4_7 : x1 = (7 : Int32)
  · rw [if_pos e4_7] at hf
    refine v_tabIn (tgt := 208) (off := 204) hC dO_resultCell_4 (by rw [e4_7]; decide) (by rw [e4_7]; decide) (by rw [e4_7]; decide) (by decide) ?_
    refine v_aload_n (pc := 208) (i := 0) (r := (some b)) hC dO_resultCell_208 rfl 0 rfl ?_
    refine v_getQ (pc := 209) (r := (some b)) hC dO_resultCell_209 inO rfl 1 (by decide) q275 (Or.inl rfl) hf (fun r64 hf => ?_)
    refine v_getQ (pc := 212) (r := r64) hC dO_resultCell_212 inT rfl 5 (by decide) q139 (Or.inl rfl) hf (fun r65 hf => ?_)
    refine v_aload_n (pc := 215) (i := 0) (r := (some b)) hC dO_resultCell_215 rfl 0 rfl ?_
    refine v_getQ (pc := 216) (r := (some b)) hC dO_resultCell_216 inO rfl 1 (by decide) q275 (Or.inl rfl) hf (fun r66 hf => ?_)
    refine v_getI (pc := 219) (r := r66) hC dO_resultCell_219 inT rfl 2 (by decide) q133 (Or.inl rfl) hf (fun x67 hf => ?_)
    refine v_iconst (pc := 222) (v := (1 : Int32)) hC dO_resultCell_222 (by decide) ?_
    refine v_isub (pc := 223) hC dO_resultCell_223 ?_
    refine v_iload_n (pc := 224) (i := 1) (x := a1) hC dO_resultCell_224 rfl 1 rfl ?_
    refine v_isub (pc := 225) hC dO_resultCell_225 ?_
    refine v_iald (pc := 226) hC dO_resultCell_226 hf (fun x68 hf => ?_)
    exact v_iret (pc := 227) hC hE dO_resultCell_227 (by rw [hR]; decide) (by rw [hR]; decide) hf
  rw [if_neg e4_7] at hf
  refine v_tabOut (pc := 4) (tgt := 228) hC dO_resultCell_4 (by have n0 := lv_neT (a := 0) e4_0 (by decide); have n1 := lv_neT (a := 1) e4_1 (by decide); have n2 := lv_neT (a := 2) e4_2 (by decide); have n3 := lv_neT (a := 3) e4_3 (by decide); have n4 := lv_neT (a := 4) e4_4 (by decide); have n5 := lv_neT (a := 5) e4_5 (by decide); have n6 := lv_neT (a := 6) e4_6 (by decide); have n7 := lv_neT (a := 7) e4_7 (by decide); omega) (by decide) ?_
  refine v_iconst (pc := 228) (v := (0 : Int32)) hC dO_resultCell_228 (by decide) ?_
  exact v_iret (pc := 229) hC hE dO_resultCell_229 (by rw [hR]; decide) (by rw [hR]; decide) hf
theorem mO_resultCell (l : Launch) (G : cG) (b : Nat) (a1 : Int32) (a2 : Nat) (w : cW) (r : Int32) (w' : cW) (hf : fO_resultCell b a1 a2 w = some (r, w')) : Met l yO_resultCell (wsM yO_resultCell prog_3_method_4_code 3 (some .int)) rmO_resultCell (mP G w [va_rf (some b), .int a1, va_rf (some a2)]) (mQ mkI G w w' r) (rmO_resultCell).cells (rmO_resultCell).slots (Aw w) :=
  met_of (by decide +kernel) rfl (Nat.le_of_ble_eq_true rfl) (fun C hC hR _ _ _ hts hE => tO_resultCell (okC.tbl hC) hE hR a1 a2 w hf)
set_option maxHeartbeats 4000000 in
set_option maxRecDepth 100000 in
theorem tO_makeResult_l2 {C : xC} {G : cG} {w0 w' : cW} {r : Unit} {b : Nat} (hC : okC C prog_3_method_3_code 3 "ArenaNetwork$Operator" lw_gd) (hE : xE C none mkV G w0 w' r) (hR : xR C = rmO_makeResult)  : ∀ n : Nat, ∀ (a1 : Option Nat) (a2 : Int32) (w : cW), fO_makeResult_l2 b n a1 a2 w = some (r, w') → V C w 0 0 2 [(0, va_rf (some b)), (1, va_rf a1), (2, .int a2)] [] := by
  refine lp_P (P := fun (f : (Option Nat) → Int32 → cW → Option (Unit × cW)) => ∀ (a1 : Option Nat) (a2 : Int32) (w : cW), f a1 a2 w = some (r, w') → V C w 0 0 2 [(0, va_rf (some b)), (1, va_rf a1), (2, .int a2)] []) ?_ ?_
  · intro a1 a2 w hf
    cases hf
  · intro rec2 hrec2 a1 a2 w hf
    unfold fO_makeResult_b2 at hf
    refine v_iload_n (pc := 2) (i := 2) (x := a2) hC dO_makeResult_2 rfl 2 rfl ?_
    refine v_aload_n (pc := 3) (i := 0) (r := (some b)) hC dO_makeResult_3 rfl 0 rfl ?_
    refine v_getQ (pc := 4) (r := (some b)) hC dO_makeResult_4 inO rfl 3 (by decide) q279 (Or.inl rfl) hf (fun r1 hf => ?_)
    refine v_getI (pc := 7) (r := r1) hC dO_makeResult_7 inT rfl 2 (by decide) q133 (Or.inl rfl) hf (fun x2 hf => ?_)
    refine v_icmp_ge (pc := 10) (tgt := 34) hC dO_makeResult_10 (by decide) hf (fun hf => ?_) (fun hf => ?_)
    · exact v_vret (pc := 34) hC hE dO_makeResult_34 (by rw [hR]; decide) (by rw [hR]; decide) hf
    · refine v_aload_n (pc := 13) (i := 0) (r := (some b)) hC dO_makeResult_13 rfl 0 rfl ?_
      refine v_getQ (pc := 14) (r := (some b)) hC dO_makeResult_14 inO rfl 3 (by decide) q279 (Or.inl rfl) hf (fun r3 hf => ?_)
      refine v_getQ (pc := 17) (r := r3) hC dO_makeResult_17 inT rfl 5 (by decide) q139 (Or.inl rfl) hf (fun r4 hf => ?_)
      refine v_iload_n (pc := 20) (i := 2) (x := a2) hC dO_makeResult_20 rfl 2 rfl ?_
      refine v_aload_n (pc := 21) (i := 0) (r := (some b)) hC dO_makeResult_21 rfl 0 rfl ?_
      refine v_iload_n (pc := 22) (i := 2) (x := a2) hC dO_makeResult_22 rfl 2 rfl ?_
      refine v_aload_n (pc := 23) (i := 1) (r := a1) hC dO_makeResult_23 rfl 1 rfl ?_
      obtain ⟨b5, eb5, hf1⟩ := ob hf
      clear hf
      cases eb5
      have hf := hf1
      clear hf1
      refine v_callV (pc := 24) (r := (some b)) (As := [.int a2, va_rf (some b5)]) (rest := [.int a2, va_rf r4]) (k' := 0) (n' := 0) (st1 := (fun yq => [.int yq, .int a2, va_rf r4])) hC dO_makeResult_24 q386 q388 p12 q15 q389 ykO_resultCell rfl rfl (fun bq rq wq hq => mO_resultCell _ _ bq a2 b5 _ rq wq hq) (by rw [hR]; decide) (by simp only [List.map_cons, List.map_nil, va_cat]; exact Nat.le_of_ble_eq_true rfl) (by decide) (by rw [hR]; decide) hf rfl (fun _ => rfl) (fun x6 w7 hf => ?_)
      refine v_iast (pc := 27) hC dO_makeResult_27 hf (fun w9 hf => ?_)
      refine v_iincB (pc := 28) (i := 2) (x := a2) (v := (1 : Int32)) hC dO_makeResult_28 2 rfl (by decide) (by decide) (fun x10 => [(2, .int x10), (0, va_rf (some b)), (1, va_rf (some b5))]) (fun _ => rfl) hf (fun x10 hf => ?_)
      refine v_goto (pc := 31) (tgt := 2) hC dO_makeResult_31 (by decide) ?_
      exact V.sub [1, 2, 0] rfl (hrec2 _ _ _ hf)
set_option maxHeartbeats 4000000 in
set_option maxRecDepth 100000 in
theorem tO_makeResult {C : xC} {G : cG} {w0 w' : cW} {r : Unit} {b : Nat} (hC : okC C prog_3_method_3_code 3 "ArenaNetwork$Operator" lw_gd) (hE : xE C none mkV G w0 w' r) (hR : xR C = rmO_makeResult) (a1 : Nat) (w : cW) (hf : fO_makeResult b a1 w = some (r, w')) : V C w 0 0 0 [(0, va_rf (some b)), (1, va_rf (some a1))] [] := by
  unfold fO_makeResult at hf
  refine v_iconst (pc := 0) (v := (0 : Int32)) hC dO_makeResult_0 (by decide) ?_
  refine v_istore_n (pc := 1) (i := 2) (x := (0 : Int32)) hC dO_makeResult_1 rfl (by decide) [(2, .int (0 : Int32)), (0, va_rf (some b)), (1, va_rf (some a1))] rfl ?_
  exact V.sub [1, 2, 0] rfl (tO_makeResult_l2 hC hE hR  FU _ _ _ hf)
theorem mO_makeResult (l : Launch) (G : cG) (b : Nat) (a1 : Nat) (w : cW) (r : Unit) (w' : cW) (hf : fO_makeResult b a1 w = some (r, w')) : Met l yO_makeResult (wsM yO_makeResult prog_3_method_3_code 3 none) rmO_makeResult (mP G w [va_rf (some b), va_rf (some a1)]) (mQ mkV G w w' r) (rmO_makeResult).cells (rmO_makeResult).slots (Aw w) :=
  met_of (by decide +kernel) rfl (Nat.le_of_ble_eq_true rfl) (fun C hC hR _ _ _ hts hE => tO_makeResult (okC.tbl hC) hE hR a1 w hf)
set_option maxHeartbeats 4000000 in
set_option maxRecDepth 100000 in
theorem tA_init {C : xC} {G : cG} {w0 w' : cW} {r : Unit} {b : Nat} (hC : okC C prog_2_method_1_code 1 "ArenaNetwork$Arena" lw_gd) (hE : xE C none mkV G w0 w' r) (hR : xR C = rmA_init) (hN : (xmeth C).name = "<init>")  (w : cW) (hf : fA_init b w = some (r, w')) : V C w 0 0 0 [(0, va_rf (some b))] [] := by
  unfold fA_init at hf
  refine v_aload_n (pc := 0) (i := 0) (r := (some b)) hC dA_init_0 rfl 0 rfl ?_
  refine v_objInit (pc := 1) (b := b) (rest := []) hC dA_init_1 q57 q22 q23 (by simp only [List.map_cons, List.map_nil, va_cat]; exact Nat.le_of_ble_eq_true rfl) (by rw [hR]; decide) ?_
  refine v_aload_n (pc := 4) (i := 0) (r := (some b)) hC dA_init_4 rfl 0 rfl ?_
  refine v_new (pc := 5) (fs := dfL) hC dA_init_5 inL rfl tyL tkL q58 q25 q4 doL (by rw [hR]; decide) (by rw [hR]; decide) hf (fun w1 hf => ?_)
  refine V.widen (k' := 1) (n' := 3) (by omega) (by omega) ?_
  refine v_dupR (pc := 8) hC dA_init_8 ?_
  refine v_callI (pc := 9) (b := w.2.1) (As := []) (rest := [va_rf (some w.2.1), va_rf (some b)]) (k' := 1) (n' := 3) hC dA_init_9 q59 q27 q4 q28 rfl ykL_init rfl (fun rq wq hq => mL_init _ _ w.2.1 _ rq wq hq) (by rw [hR]; decide) (by simp only [List.map_cons, List.map_nil, va_cat]; exact Nat.le_of_ble_eq_true rfl) (by decide) (by rw [hR]; decide) hf rfl (fun _ w3 hf => ?_)
  refine v_putCQ (pc := 12) (r := (some b)) hC dA_init_12 inA rfl tyA tkA nmA 0 (by decide) q60 rfl hN rfl (tkA 0 (by decide)) (Or.inl ⟨_, rfl⟩) hf (fun w4 hf => ?_)
  refine v_aload_n (pc := 15) (i := 0) (r := (some b)) hC dA_init_15 rfl 0 rfl ?_
  refine v_iconst (pc := 16) (v := (0 : Int32)) hC dA_init_16 (by decide) ?_
  refine v_putI (pc := 17) (r := (some b)) hC dA_init_17 inA rfl tyA tkA nmA 1 (by decide) q62 (Or.inl rfl) rfl (tkA 1 (by decide)) hf (fun w5 hf => ?_)
  exact v_vret (pc := 20) hC hE dA_init_20 (by rw [hR]; decide) (by rw [hR]; decide) hf
theorem mA_init (l : Launch) (G : cG) (b : Nat)  (w : cW) (r : Unit) (w' : cW) (hf : fA_init b w = some (r, w')) : Met l yA_init (wsM yA_init prog_2_method_1_code 1 none) rmA_init (mP G w [va_rf (some b)]) (mQ mkV G w w' r) (rmA_init).cells (rmA_init).slots (Aw w) :=
  met_of (by decide +kernel) rfl (Nat.le_of_ble_eq_true rfl) (fun C hC hR _ _ hN hts hE => tA_init (okC.tbl hC) hE hR hN  w hf)
set_option maxHeartbeats 4000000 in
set_option maxRecDepth 100000 in
theorem tA_isFree_b60 {C : xC} {G : cG} {w0 w' : cW} {r : Int32} {b : Nat} (hC : okC C prog_2_method_6_code 6 "ArenaNetwork$Arena" lw_gd) (hE : xE C (some .boolean) mkI G w0 w' r) (hR : xR C = rmA_isFree) {rec2 : (Option Nat) → Int32 → Int32 → cW → Option (Int32 × cW)} (hrec2 : ∀ (a1 : Option Nat) (a2 : Int32) (a3 : Int32) (w : cW), rec2 a1 a2 a3 w = some (r, w') → V C w 0 0 2 [(0, va_rf (some b)), (1, va_rf a1), (2, .int a2), (3, .int a3)] []) (a1 : Option Nat) (a2 : Int32) (a3 : Int32) (a4 : Option Nat) (s0 : Int32) (w : cW) (hf : fA_isFree_b60 b rec2 a1 a2 a3 a4 s0 w = some (r, w')) : V C w 0 0 60 [(0, va_rf (some b)), (1, va_rf a1), (2, .int a2), (3, .int a3), (4, va_rf a4)] [.int s0] := by
  unfold fA_isFree_b60 at hf
  refine v_istore (pc := 60) (i := 5) (x := s0) hC dA_isFree_60 (by decide) [(5, .int s0), (0, va_rf (some b)), (1, va_rf a1), (2, .int a2), (3, .int a3), (4, va_rf a4)] (by cases a4 <;> rfl) ?_
  refine v_iload (pc := 62) (i := 5) (x := s0) hC dA_isFree_62 0 rfl ?_
  refine v_if_ne (pc := 64) (tgt := 78) hC dA_isFree_64 (by decide) hf (fun hf => ?_) (fun hf => ?_)
  · refine v_iincB (pc := 78) (i := 3) (x := a3) (v := (1 : Int32)) hC dA_isFree_78 4 rfl (by decide) (by decide) (fun x1 => [(3, .int x1), (5, .int s0), (0, va_rf (some b)), (1, va_rf a1), (2, .int a2), (4, va_rf a4)]) (fun _ => rfl) hf (fun x1 hf => ?_)
    refine v_goto (pc := 81) (tgt := 2) hC dA_isFree_81 (by decide) ?_
    exact V.sub [2, 3, 4, 0] rfl (hrec2 _ _ _ _ hf)
  · refine v_aload_n (pc := 67) (i := 1) (r := a1) hC dA_isFree_67 rfl 2 rfl ?_
    refine v_aload (pc := 68) (i := 4) (r := a4) hC dA_isFree_68 5 rfl ?_
    obtain ⟨b2, eb2, hf1⟩ := ob hf
    clear hf
    cases eb2
    have hf := hf1
    clear hf1
    refine v_callV (pc := 70) (r := a1) (As := [va_rf (some b2)]) (rest := []) (k' := 0) (n' := 0) (st1 := (fun yq => [.int yq])) hC dA_isFree_70 q355 q356 q357 q8 q358 ykT_meets rfl rfl (fun bq rq wq hq => mT_meets _ _ bq b2 _ rq wq hq) (by rw [hR]; decide) (by simp only [List.map_cons, List.map_nil, va_cat]; exact Nat.le_of_ble_eq_true rfl) (by decide) (by rw [hR]; decide) hf rfl (fun _ => rfl) (fun x3 w4 hf => ?_)
    refine v_if_eq (pc := 73) (tgt := 78) hC dA_isFree_73 (by decide) hf (fun hf => ?_) (fun hf => ?_)
    · refine v_iincB (pc := 78) (i := 3) (x := a3) (v := (1 : Int32)) hC dA_isFree_78 4 rfl (by decide) (by decide) (fun x6 => [(3, .int x6), (5, .int s0), (0, va_rf (some b)), (1, va_rf a1), (2, .int a2), (4, va_rf (some b2))]) (fun _ => rfl) hf (fun x6 hf => ?_)
      refine v_goto (pc := 81) (tgt := 2) hC dA_isFree_81 (by decide) ?_
      exact V.sub [2, 3, 4, 0] rfl (hrec2 _ _ _ _ hf)
    · refine v_iconst (pc := 76) (v := (0 : Int32)) hC dA_isFree_76 (by decide) ?_
      exact v_zret (pc := 77) hC hE dA_isFree_77 (by rw [hR]; decide) (by rw [hR]; decide) (by rw [if_pos (by decide)]; exact hf)
set_option maxHeartbeats 4000000 in
set_option maxRecDepth 100000 in
theorem tA_isFree_l2 {C : xC} {G : cG} {w0 w' : cW} {r : Int32} {b : Nat} (hC : okC C prog_2_method_6_code 6 "ArenaNetwork$Arena" lw_gd) (hE : xE C (some .boolean) mkI G w0 w' r) (hR : xR C = rmA_isFree)  : ∀ n : Nat, ∀ (a1 : Option Nat) (a2 : Int32) (a3 : Int32) (w : cW), fA_isFree_l2 b n a1 a2 a3 w = some (r, w') → V C w 0 0 2 [(0, va_rf (some b)), (1, va_rf a1), (2, .int a2), (3, .int a3)] [] := by
  refine lp_P (P := fun (f : (Option Nat) → Int32 → Int32 → cW → Option (Int32 × cW)) => ∀ (a1 : Option Nat) (a2 : Int32) (a3 : Int32) (w : cW), f a1 a2 a3 w = some (r, w') → V C w 0 0 2 [(0, va_rf (some b)), (1, va_rf a1), (2, .int a2), (3, .int a3)] []) ?_ ?_
  · intro a1 a2 a3 w hf
    cases hf
  · intro rec2 hrec2 a1 a2 a3 w hf
    unfold fA_isFree_b2 at hf
    refine v_iload_n (pc := 2) (i := 3) (x := a3) hC dA_isFree_2 rfl 3 rfl ?_
    refine v_aload_n (pc := 3) (i := 0) (r := (some b)) hC dA_isFree_3 rfl 0 rfl ?_
    refine v_getQ (pc := 4) (r := (some b)) hC dA_isFree_4 inA rfl 0 (by decide) q60 (Or.inl rfl) hf (fun r1 hf => ?_)
    refine v_callV (pc := 7) (r := r1) (As := []) (rest := [.int a3]) (k' := 0) (n' := 0) (st1 := (fun yq => [.int yq, .int a3])) hC dA_isFree_7 q340 q117 q118 q4 q119 ykL_size rfl rfl (fun bq rq wq hq => mL_size _ _ bq  _ rq wq hq) (by rw [hR]; decide) (by simp only [List.map_cons, List.map_nil, va_cat]; exact Nat.le_of_ble_eq_true rfl) (by decide) (by rw [hR]; decide) hf rfl (fun _ => rfl) (fun x2 w3 hf => ?_)
    refine v_icmp_ge (pc := 10) (tgt := 84) hC dA_isFree_10 (by decide) hf (fun hf => ?_) (fun hf => ?_)
    · refine v_iconst (pc := 84) (v := (1 : Int32)) hC dA_isFree_84 (by decide) ?_
      exact v_zret (pc := 85) hC hE dA_isFree_85 (by rw [hR]; decide) (by rw [hR]; decide) (by rw [if_pos (by decide)]; exact hf)
    · refine v_aload_n (pc := 13) (i := 0) (r := (some b)) hC dA_isFree_13 rfl 0 rfl ?_
      refine v_getQ (pc := 14) (r := (some b)) hC dA_isFree_14 inA rfl 0 (by decide) q60 (Or.inl rfl) hf (fun r5 hf => ?_)
      refine v_iload_n (pc := 17) (i := 3) (x := a3) hC dA_isFree_17 rfl 3 rfl ?_
      refine v_callV (pc := 18) (r := r5) (As := [.int a3]) (rest := []) (k' := 0) (n' := 0) (st1 := (fun yq => [va_rf yq])) hC dA_isFree_18 q341 q240 q241 q4 q242 ykL_get rfl rfl (fun bq rq wq hq => mL_get _ _ bq a3 _ rq wq hq) (by rw [hR]; decide) (by simp only [List.map_cons, List.map_nil, va_cat]; exact Nat.le_of_ble_eq_true rfl) (by decide) (by rw [hR]; decide) hf rfl (fun _ => rfl) (fun r6 w7 hf => ?_)
      refine v_cast (pc := 21) (r := r6) hC dA_isFree_21 rfl q342 hf (fun hf => ?_)
      refine v_astore (pc := 24) (i := 4) (r := r6) hC dA_isFree_24 (by decide) [(4, va_rf r6), (0, va_rf (some b)), (1, va_rf a1), (2, .int a2), (3, .int a3)] rfl ?_
      refine v_iload_n (pc := 26) (i := 2) (x := a2) hC dA_isFree_26 rfl 3 rfl ?_
      refine v_aload_n (pc := 27) (i := 1) (r := a1) hC dA_isFree_27 rfl 2 rfl ?_
      refine v_getI (pc := 28) (r := a1) hC dA_isFree_28 inT rfl 2 (by decide) q132 (Or.inl rfl) hf (fun x9 hf => ?_)
      refine v_iadd (pc := 31) hC dA_isFree_31 ?_
      refine v_aload (pc := 32) (i := 4) (r := r6) hC dA_isFree_32 0 rfl ?_
      refine v_getI (pc := 34) (r := r6) hC dA_isFree_34 inT rfl 10 (by decide) q151 (Or.inl rfl) hf (fun x10 hf => ?_)
      refine v_icmp_le (pc := 37) (tgt := 55) hC dA_isFree_37 (by decide) hf (fun hf => ?_) (fun hf => ?_)
      · refine v_iconst (pc := 55) (v := (1 : Int32)) hC dA_isFree_55 (by decide) ?_
        refine v_goto (pc := 56) (tgt := 60) hC dA_isFree_56 (by decide) ?_
        exact V.sub [1, 2, 3, 4, 0] rfl (tA_isFree_b60 hC hE hR hrec2 _ _ _ _ _ _ hf)
      · refine v_aload (pc := 40) (i := 4) (r := r6) hC dA_isFree_40 0 rfl ?_
        refine v_getI (pc := 42) (r := r6) hC dA_isFree_42 inT rfl 10 (by decide) q151 (Or.inl rfl) hf (fun x11 hf => ?_)
        refine v_aload (pc := 45) (i := 4) (r := r6) hC dA_isFree_45 0 rfl ?_
        refine v_getI (pc := 47) (r := r6) hC dA_isFree_47 inT rfl 2 (by decide) q132 (Or.inl rfl) hf (fun x12 hf => ?_)
        refine v_iadd (pc := 50) hC dA_isFree_50 ?_
        refine v_iload_n (pc := 51) (i := 2) (x := a2) hC dA_isFree_51 rfl 3 rfl ?_
        refine v_icmp_gt (pc := 52) (tgt := 59) hC dA_isFree_52 (by decide) hf (fun hf => ?_) (fun hf => ?_)
        · refine v_iconst (pc := 59) (v := (0 : Int32)) hC dA_isFree_59 (by decide) ?_
          exact V.sub [1, 2, 3, 4, 0] rfl (tA_isFree_b60 hC hE hR hrec2 _ _ _ _ _ _ hf)
        · refine v_iconst (pc := 55) (v := (1 : Int32)) hC dA_isFree_55 (by decide) ?_
          refine v_goto (pc := 56) (tgt := 60) hC dA_isFree_56 (by decide) ?_
          exact V.sub [1, 2, 3, 4, 0] rfl (tA_isFree_b60 hC hE hR hrec2 _ _ _ _ _ _ hf)
set_option maxHeartbeats 4000000 in
set_option maxRecDepth 100000 in
theorem tA_isFree {C : xC} {G : cG} {w0 w' : cW} {r : Int32} {b : Nat} (hC : okC C prog_2_method_6_code 6 "ArenaNetwork$Arena" lw_gd) (hE : xE C (some .boolean) mkI G w0 w' r) (hR : xR C = rmA_isFree) (a1 : Nat) (a2 : Int32) (w : cW) (hf : fA_isFree b a1 a2 w = some (r, w')) : V C w 0 0 0 [(0, va_rf (some b)), (1, va_rf (some a1)), (2, .int a2)] [] := by
  unfold fA_isFree at hf
  refine v_iconst (pc := 0) (v := (0 : Int32)) hC dA_isFree_0 (by decide) ?_
  refine v_istore_n (pc := 1) (i := 3) (x := (0 : Int32)) hC dA_isFree_1 rfl (by decide) [(3, .int (0 : Int32)), (0, va_rf (some b)), (1, va_rf (some a1)), (2, .int a2)] rfl ?_
  exact V.sub [1, 2, 3, 0] rfl (tA_isFree_l2 hC hE hR  FU _ _ _ _ hf)
theorem mA_isFree (l : Launch) (G : cG) (b : Nat) (a1 : Nat) (a2 : Int32) (w : cW) (r : Int32) (w' : cW) (hf : fA_isFree b a1 a2 w = some (r, w')) : Met l yA_isFree (wsM yA_isFree prog_2_method_6_code 6 (some .boolean)) rmA_isFree (mP G w [va_rf (some b), va_rf (some a1), .int a2]) (mQ mkI G w w' r) (rmA_isFree).cells (rmA_isFree).slots (Aw w) :=
  met_of (by decide +kernel) rfl (Nat.le_of_ble_eq_true rfl) (fun C hC hR _ _ _ hts hE => tA_isFree (okC.tbl hC) hE hR a1 a2 w hf)
