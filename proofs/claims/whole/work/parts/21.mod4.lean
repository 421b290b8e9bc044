abbrev yM_placed : MethodName := ⟨"ArenaNetworkModel", "placed", "(I)I"⟩
abbrev rmM_placed : Room := { frames := 2, cells := 0, slots := 0, locals := 44 }
theorem ykM_placed : yOk yM_placed 1 := by decide +kernel
theorem dM_placed_0 : decode prog_7_method_16_code 0 = .ok (.iload_n 1, 1) := by decide +kernel
theorem dM_placed_1 : decode prog_7_method_16_code 1 = .ok (.ifCond .lt (9), 3) := by decide +kernel
theorem dM_placed_4 : decode prog_7_method_16_code 4 = .ok (.iload_n 1, 1) := by decide +kernel
theorem dM_placed_5 : decode prog_7_method_16_code 5 = .ok (.bipush (20), 2) := by decide +kernel
theorem dM_placed_7 : decode prog_7_method_16_code 7 = .ok (.if_icmp .lt (5), 3) := by decide +kernel
theorem dM_placed_10 : decode prog_7_method_16_code 10 = .ok (.iconst (-1), 1) := by decide +kernel
theorem dM_placed_11 : decode prog_7_method_16_code 11 = .ok (.ireturn, 1) := by decide +kernel
theorem dM_placed_12 : decode prog_7_method_16_code 12 = .ok (.iconst (0), 1) := by decide +kernel
theorem dM_placed_13 : decode prog_7_method_16_code 13 = .ok (.istore_n 2, 1) := by decide +kernel
theorem dM_placed_14 : decode prog_7_method_16_code 14 = .ok (.iload_n 2, 1) := by decide +kernel
theorem dM_placed_15 : decode prog_7_method_16_code 15 = .ok (.aload_n 0, 1) := by decide +kernel
theorem dM_placed_16 : decode prog_7_method_16_code 16 = .ok (.getfield 61, 3) := by decide +kernel
theorem dM_placed_19 : decode prog_7_method_16_code 19 = .ok (.if_icmp .ge (94), 3) := by decide +kernel
theorem dM_placed_22 : decode prog_7_method_16_code 22 = .ok (.iconst (0), 1) := by decide +kernel
theorem dM_placed_23 : decode prog_7_method_16_code 23 = .ok (.istore_n 3, 1) := by decide +kernel
theorem dM_placed_24 : decode prog_7_method_16_code 24 = .ok (.iconst (0), 1) := by decide +kernel
theorem dM_placed_25 : decode prog_7_method_16_code 25 = .ok (.istore 4, 2) := by decide +kernel
theorem dM_placed_27 : decode prog_7_method_16_code 27 = .ok (.iload 4, 2) := by decide +kernel
theorem dM_placed_29 : decode prog_7_method_16_code 29 = .ok (.aload_n 0, 1) := by decide +kernel
theorem dM_placed_30 : decode prog_7_method_16_code 30 = .ok (.getfield 61, 3) := by decide +kernel
theorem dM_placed_33 : decode prog_7_method_16_code 33 = .ok (.if_icmp .ge (59), 3) := by decide +kernel
theorem dM_placed_36 : decode prog_7_method_16_code 36 = .ok (.aload_n 0, 1) := by decide +kernel
theorem dM_placed_37 : decode prog_7_method_16_code 37 = .ok (.iload 4, 2) := by decide +kernel
theorem dM_placed_39 : decode prog_7_method_16_code 39 = .ok (.invokevirtual 93, 3) := by decide +kernel
theorem dM_placed_42 : decode prog_7_method_16_code 42 = .ok (.ifCond .eq (44), 3) := by decide +kernel
theorem dM_placed_45 : decode prog_7_method_16_code 45 = .ok (.aload_n 0, 1) := by decide +kernel
theorem dM_placed_46 : decode prog_7_method_16_code 46 = .ok (.getfield 13, 3) := by decide +kernel
theorem dM_placed_49 : decode prog_7_method_16_code 49 = .ok (.iload 4, 2) := by decide +kernel
theorem dM_placed_51 : decode prog_7_method_16_code 51 = .ok (.iaload, 1) := by decide +kernel
theorem dM_placed_52 : decode prog_7_method_16_code 52 = .ok (.aload_n 0, 1) := by decide +kernel
theorem dM_placed_53 : decode prog_7_method_16_code 53 = .ok (.getfield 13, 3) := by decide +kernel
theorem dM_placed_56 : decode prog_7_method_16_code 56 = .ok (.iload_n 2, 1) := by decide +kernel
theorem dM_placed_57 : decode prog_7_method_16_code 57 = .ok (.iaload, 1) := by decide +kernel
theorem dM_placed_58 : decode prog_7_method_16_code 58 = .ok (.if_icmp .gt (25), 3) := by decide +kernel
theorem dM_placed_61 : decode prog_7_method_16_code 61 = .ok (.aload_n 0, 1) := by decide +kernel
theorem dM_placed_62 : decode prog_7_method_16_code 62 = .ok (.getfield 13, 3) := by decide +kernel
theorem dM_placed_65 : decode prog_7_method_16_code 65 = .ok (.iload 4, 2) := by decide +kernel
theorem dM_placed_67 : decode prog_7_method_16_code 67 = .ok (.iaload, 1) := by decide +kernel
theorem dM_placed_68 : decode prog_7_method_16_code 68 = .ok (.aload_n 0, 1) := by decide +kernel
theorem dM_placed_69 : decode prog_7_method_16_code 69 = .ok (.getfield 13, 3) := by decide +kernel
theorem dM_placed_72 : decode prog_7_method_16_code 72 = .ok (.iload_n 2, 1) := by decide +kernel
theorem dM_placed_73 : decode prog_7_method_16_code 73 = .ok (.iaload, 1) := by decide +kernel
theorem dM_placed_74 : decode prog_7_method_16_code 74 = .ok (.if_icmp .ne (12), 3) := by decide +kernel
theorem dM_placed_77 : decode prog_7_method_16_code 77 = .ok (.iload 4, 2) := by decide +kernel
theorem dM_placed_79 : decode prog_7_method_16_code 79 = .ok (.iload_n 2, 1) := by decide +kernel
theorem dM_placed_80 : decode prog_7_method_16_code 80 = .ok (.if_icmp .ge (6), 3) := by decide +kernel
theorem dM_placed_83 : decode prog_7_method_16_code 83 = .ok (.iinc 3 (1), 3) := by decide +kernel
theorem dM_placed_86 : decode prog_7_method_16_code 86 = .ok (.iinc 4 (1), 3) := by decide +kernel
theorem dM_placed_89 : decode prog_7_method_16_code 89 = .ok (.goto (-62), 3) := by decide +kernel
theorem dM_placed_92 : decode prog_7_method_16_code 92 = .ok (.aload_n 0, 1) := by decide +kernel
theorem dM_placed_93 : decode prog_7_method_16_code 93 = .ok (.iload_n 2, 1) := by decide +kernel
theorem dM_placed_94 : decode prog_7_method_16_code 94 = .ok (.invokevirtual 93, 3) := by decide +kernel
theorem dM_placed_97 : decode prog_7_method_16_code 97 = .ok (.ifCond .eq (10), 3) := by decide +kernel
theorem dM_placed_100 : decode prog_7_method_16_code 100 = .ok (.iload_n 3, 1) := by decide +kernel
theorem dM_placed_101 : decode prog_7_method_16_code 101 = .ok (.iload_n 1, 1) := by decide +kernel
theorem dM_placed_102 : decode prog_7_method_16_code 102 = .ok (.if_icmp .ne (5), 3) := by decide +kernel
theorem dM_placed_105 : decode prog_7_method_16_code 105 = .ok (.iload_n 2, 1) := by decide +kernel
theorem dM_placed_106 : decode prog_7_method_16_code 106 = .ok (.ireturn, 1) := by decide +kernel
theorem dM_placed_107 : decode prog_7_method_16_code 107 = .ok (.iinc 2 (1), 3) := by decide +kernel
theorem dM_placed_110 : decode prog_7_method_16_code 110 = .ok (.goto (-96), 3) := by decide +kernel
theorem dM_placed_113 : decode prog_7_method_16_code 113 = .ok (.iconst (-1), 1) := by decide +kernel
theorem dM_placed_114 : decode prog_7_method_16_code 114 = .ok (.ireturn, 1) := by decide +kernel
abbrev yM_prepare : MethodName := ⟨"ArenaNetworkModel", "prepare", "()I"⟩
abbrev rmM_prepare : Room := { frames := 4, cells := 0, slots := 0, locals := 93 }
theorem ykM_prepare : yOk yM_prepare 0 := by decide +kernel
theorem dM_prepare_0 : decode prog_7_method_19_code 0 = .ok (.aload_n 0, 1) := by decide +kernel
theorem dM_prepare_1 : decode prog_7_method_19_code 1 = .ok (.getfield 68, 3) := by decide +kernel
theorem dM_prepare_4 : decode prog_7_method_19_code 4 = .ok (.ifCond .eq (6), 3) := by decide +kernel
theorem dM_prepare_7 : decode prog_7_method_19_code 7 = .ok (.bipush (-3), 2) := by decide +kernel
theorem dM_prepare_9 : decode prog_7_method_19_code 9 = .ok (.ireturn, 1) := by decide +kernel
theorem dM_prepare_10 : decode prog_7_method_19_code 10 = .ok (.iconst (0), 1) := by decide +kernel
theorem dM_prepare_11 : decode prog_7_method_19_code 11 = .ok (.istore_n 1, 1) := by decide +kernel
theorem dM_prepare_12 : decode prog_7_method_19_code 12 = .ok (.iload_n 1, 1) := by decide +kernel
theorem dM_prepare_13 : decode prog_7_method_19_code 13 = .ok (.aload_n 0, 1) := by decide +kernel
theorem dM_prepare_14 : decode prog_7_method_19_code 14 = .ok (.getfield 75, 3) := by decide +kernel
theorem dM_prepare_17 : decode prog_7_method_19_code 17 = .ok (.if_icmp .ge (28), 3) := by decide +kernel
theorem dM_prepare_20 : decode prog_7_method_19_code 20 = .ok (.aload_n 0, 1) := by decide +kernel
theorem dM_prepare_21 : decode prog_7_method_19_code 21 = .ok (.iload_n 1, 1) := by decide +kernel
theorem dM_prepare_22 : decode prog_7_method_19_code 22 = .ok (.invokevirtual 99, 3) := by decide +kernel
theorem dM_prepare_25 : decode prog_7_method_19_code 25 = .ok (.istore_n 2, 1) := by decide +kernel
theorem dM_prepare_26 : decode prog_7_method_19_code 26 = .ok (.iload_n 2, 1) := by decide +kernel
theorem dM_prepare_27 : decode prog_7_method_19_code 27 = .ok (.ifCond .le (12), 3) := by decide +kernel
theorem dM_prepare_30 : decode prog_7_method_19_code 30 = .ok (.bipush (-10), 2) := by decide +kernel
theorem dM_prepare_32 : decode prog_7_method_19_code 32 = .ok (.iload_n 1, 1) := by decide +kernel
theorem dM_prepare_33 : decode prog_7_method_19_code 33 = .ok (.iconst (1), 1) := by decide +kernel
theorem dM_prepare_34 : decode prog_7_method_19_code 34 = .ok (.iadd, 1) := by decide +kernel
theorem dM_prepare_35 : decode prog_7_method_19_code 35 = .ok (.imul, 1) := by decide +kernel
theorem dM_prepare_36 : decode prog_7_method_19_code 36 = .ok (.iload_n 2, 1) := by decide +kernel
theorem dM_prepare_37 : decode prog_7_method_19_code 37 = .ok (.isub, 1) := by decide +kernel
theorem dM_prepare_38 : decode prog_7_method_19_code 38 = .ok (.ireturn, 1) := by decide +kernel
theorem dM_prepare_39 : decode prog_7_method_19_code 39 = .ok (.iinc 1 (1), 3) := by decide +kernel
theorem dM_prepare_42 : decode prog_7_method_19_code 42 = .ok (.goto (-30), 3) := by decide +kernel
theorem dM_prepare_45 : decode prog_7_method_19_code 45 = .ok (.iconst (0), 1) := by decide +kernel
theorem dM_prepare_46 : decode prog_7_method_19_code 46 = .ok (.istore_n 1, 1) := by decide +kernel
theorem dM_prepare_47 : decode prog_7_method_19_code 47 = .ok (.iload_n 1, 1) := by decide +kernel
theorem dM_prepare_48 : decode prog_7_method_19_code 48 = .ok (.aload_n 0, 1) := by decide +kernel
theorem dM_prepare_49 : decode prog_7_method_19_code 49 = .ok (.getfield 61, 3) := by decide +kernel
theorem dM_prepare_52 : decode prog_7_method_19_code 52 = .ok (.if_icmp .ge (34), 3) := by decide +kernel
theorem dM_prepare_55 : decode prog_7_method_19_code 55 = .ok (.aload_n 0, 1) := by decide +kernel
theorem dM_prepare_56 : decode prog_7_method_19_code 56 = .ok (.getfield 19, 3) := by decide +kernel
theorem dM_prepare_59 : decode prog_7_method_19_code 59 = .ok (.iload_n 1, 1) := by decide +kernel
theorem dM_prepare_60 : decode prog_7_method_19_code 60 = .ok (.baload, 1) := by decide +kernel
theorem dM_prepare_61 : decode prog_7_method_19_code 61 = .ok (.ifCond .eq (19), 3) := by decide +kernel
theorem dM_prepare_64 : decode prog_7_method_19_code 64 = .ok (.aload_n 0, 1) := by decide +kernel
theorem dM_prepare_65 : decode prog_7_method_19_code 65 = .ok (.iload_n 1, 1) := by decide +kernel
theorem dM_prepare_66 : decode prog_7_method_19_code 66 = .ok (.aload_n 0, 1) := by decide +kernel
theorem dM_prepare_67 : decode prog_7_method_19_code 67 = .ok (.getfield 75, 3) := by decide +kernel
theorem dM_prepare_70 : decode prog_7_method_19_code 70 = .ok (.invokevirtual 82, 3) := by decide +kernel
theorem dM_prepare_73 : decode prog_7_method_19_code 73 = .ok (.ifCond .eq (7), 3) := by decide +kernel
theorem dM_prepare_76 : decode prog_7_method_19_code 76 = .ok (.sipush (-1000), 3) := by decide +kernel
theorem dM_prepare_79 : decode prog_7_method_19_code 79 = .ok (.ireturn, 1) := by decide +kernel
theorem dM_prepare_80 : decode prog_7_method_19_code 80 = .ok (.iinc 1 (1), 3) := by decide +kernel
theorem dM_prepare_83 : decode prog_7_method_19_code 83 = .ok (.goto (-36), 3) := by decide +kernel
theorem dM_prepare_86 : decode prog_7_method_19_code 86 = .ok (.aload_n 0, 1) := by decide +kernel
theorem dM_prepare_87 : decode prog_7_method_19_code 87 = .ok (.iconst (1), 1) := by decide +kernel
theorem dM_prepare_88 : decode prog_7_method_19_code 88 = .ok (.putfield 68, 3) := by decide +kernel
theorem dM_prepare_91 : decode prog_7_method_19_code 91 = .ok (.iconst (0), 1) := by decide +kernel
theorem dM_prepare_92 : decode prog_7_method_19_code 92 = .ok (.istore_n 1, 1) := by decide +kernel
theorem dM_prepare_93 : decode prog_7_method_19_code 93 = .ok (.iload_n 1, 1) := by decide +kernel
theorem dM_prepare_94 : decode prog_7_method_19_code 94 = .ok (.bipush (20), 2) := by decide +kernel
theorem dM_prepare_96 : decode prog_7_method_19_code 96 = .ok (.if_icmp .ge (20), 3) := by decide +kernel
theorem dM_prepare_99 : decode prog_7_method_19_code 99 = .ok (.aload_n 0, 1) := by decide +kernel
theorem dM_prepare_100 : decode prog_7_method_19_code 100 = .ok (.getfield 53, 3) := by decide +kernel
theorem dM_prepare_103 : decode prog_7_method_19_code 103 = .ok (.iload_n 1, 1) := by decide +kernel
theorem dM_prepare_104 : decode prog_7_method_19_code 104 = .ok (.aload_n 0, 1) := by decide +kernel
theorem dM_prepare_105 : decode prog_7_method_19_code 105 = .ok (.iload_n 1, 1) := by decide +kernel
theorem dM_prepare_106 : decode prog_7_method_19_code 106 = .ok (.invokevirtual 102, 3) := by decide +kernel
theorem dM_prepare_109 : decode prog_7_method_19_code 109 = .ok (.iastore, 1) := by decide +kernel
theorem dM_prepare_110 : decode prog_7_method_19_code 110 = .ok (.iinc 1 (1), 3) := by decide +kernel
theorem dM_prepare_113 : decode prog_7_method_19_code 113 = .ok (.goto (-20), 3) := by decide +kernel
theorem dM_prepare_116 : decode prog_7_method_19_code 116 = .ok (.iconst (0), 1) := by decide +kernel
theorem dM_prepare_117 : decode prog_7_method_19_code 117 = .ok (.istore_n 1, 1) := by decide +kernel
theorem dM_prepare_118 : decode prog_7_method_19_code 118 = .ok (.iload_n 1, 1) := by decide +kernel
theorem dM_prepare_119 : decode prog_7_method_19_code 119 = .ok (.bipush (20), 2) := by decide +kernel
theorem dM_prepare_121 : decode prog_7_method_19_code 121 = .ok (.if_icmp .ge (60), 3) := by decide +kernel
theorem dM_prepare_124 : decode prog_7_method_19_code 124 = .ok (.aload_n 0, 1) := by decide +kernel
theorem dM_prepare_125 : decode prog_7_method_19_code 125 = .ok (.getfield 53, 3) := by decide +kernel
theorem dM_prepare_128 : decode prog_7_method_19_code 128 = .ok (.iload_n 1, 1) := by decide +kernel
theorem dM_prepare_129 : decode prog_7_method_19_code 129 = .ok (.iaload, 1) := by decide +kernel
theorem dM_prepare_130 : decode prog_7_method_19_code 130 = .ok (.ifCond .lt (45), 3) := by decide +kernel
theorem dM_prepare_133 : decode prog_7_method_19_code 133 = .ok (.iconst (0), 1) := by decide +kernel
theorem dM_prepare_134 : decode prog_7_method_19_code 134 = .ok (.istore_n 2, 1) := by decide +kernel
theorem dM_prepare_135 : decode prog_7_method_19_code 135 = .ok (.iload_n 2, 1) := by decide +kernel
theorem dM_prepare_136 : decode prog_7_method_19_code 136 = .ok (.sipush (400), 3) := by decide +kernel
theorem dM_prepare_139 : decode prog_7_method_19_code 139 = .ok (.if_icmp .ge (24), 3) := by decide +kernel
theorem dM_prepare_142 : decode prog_7_method_19_code 142 = .ok (.aload_n 0, 1) := by decide +kernel
theorem dM_prepare_143 : decode prog_7_method_19_code 143 = .ok (.aload_n 0, 1) := by decide +kernel
theorem dM_prepare_144 : decode prog_7_method_19_code 144 = .ok (.getfield 53, 3) := by decide +kernel
theorem dM_prepare_147 : decode prog_7_method_19_code 147 = .ok (.iload_n 1, 1) := by decide +kernel
theorem dM_prepare_148 : decode prog_7_method_19_code 148 = .ok (.iaload, 1) := by decide +kernel
theorem dM_prepare_149 : decode prog_7_method_19_code 149 = .ok (.iload_n 2, 1) := by decide +kernel
theorem dM_prepare_150 : decode prog_7_method_19_code 150 = .ok (.iload_n 1, 1) := by decide +kernel
theorem dM_prepare_151 : decode prog_7_method_19_code 151 = .ok (.invokevirtual 105, 3) := by decide +kernel
theorem dM_prepare_154 : decode prog_7_method_19_code 154 = .ok (.ifCond .ne (9), 3) := by decide +kernel
theorem dM_prepare_157 : decode prog_7_method_19_code 157 = .ok (.iinc 2 (4), 3) := by decide +kernel
theorem dM_prepare_160 : decode prog_7_method_19_code 160 = .ok (.goto (-25), 3) := by decide +kernel
theorem dM_prepare_163 : decode prog_7_method_19_code 163 = .ok (.aload_n 0, 1) := by decide +kernel
theorem dM_prepare_164 : decode prog_7_method_19_code 164 = .ok (.getfield 50, 3) := by decide +kernel
theorem dM_prepare_167 : decode prog_7_method_19_code 167 = .ok (.aload_n 0, 1) := by decide +kernel
theorem dM_prepare_168 : decode prog_7_method_19_code 168 = .ok (.getfield 53, 3) := by decide +kernel
theorem dM_prepare_171 : decode prog_7_method_19_code 171 = .ok (.iload_n 1, 1) := by decide +kernel
theorem dM_prepare_172 : decode prog_7_method_19_code 172 = .ok (.iaload, 1) := by decide +kernel
theorem dM_prepare_173 : decode prog_7_method_19_code 173 = .ok (.iload_n 2, 1) := by decide +kernel
theorem dM_prepare_174 : decode prog_7_method_19_code 174 = .ok (.iastore, 1) := by decide +kernel
theorem dM_prepare_175 : decode prog_7_method_19_code 175 = .ok (.iinc 1 (1), 3) := by decide +kernel
theorem dM_prepare_178 : decode prog_7_method_19_code 178 = .ok (.goto (-60), 3) := by decide +kernel
theorem dM_prepare_181 : decode prog_7_method_19_code 181 = .ok (.aload_n 0, 1) := by decide +kernel
theorem dM_prepare_182 : decode prog_7_method_19_code 182 = .ok (.invokevirtual 109, 3) := by decide +kernel
theorem dM_prepare_185 : decode prog_7_method_19_code 185 = .ok (.ireturn, 1) := by decide +kernel
abbrev yM_made : MethodName := ⟨"ArenaNetworkModel", "made", "(II)I"⟩
abbrev rmM_made : Room := { frames := 2, cells := 0, slots := 0, locals := 56 }
theorem ykM_made : yOk yM_made 2 := by decide +kernel
theorem dM_made_0 : decode prog_7_method_27_code 0 = .ok (.aload_n 0, 1) := by decide +kernel
theorem dM_made_1 : decode prog_7_method_27_code 1 = .ok (.getfield 38, 3) := by decide +kernel
theorem dM_made_4 : decode prog_7_method_27_code 4 = .ok (.iload_n 1, 1) := by decide +kernel
theorem dM_made_5 : decode prog_7_method_27_code 5 = .ok (.iaload, 1) := by decide +kernel
theorem dM_made_6 : decode prog_7_method_27_code 6 = .ok (.istore_n 3, 1) := by decide +kernel
theorem dM_made_7 : decode prog_7_method_27_code 7 = .ok (.aload_n 0, 1) := by decide +kernel
theorem dM_made_8 : decode prog_7_method_27_code 8 = .ok (.getfield 41, 3) := by decide +kernel
theorem dM_made_11 : decode prog_7_method_27_code 11 = .ok (.iload_n 1, 1) := by decide +kernel
theorem dM_made_12 : decode prog_7_method_27_code 12 = .ok (.iaload, 1) := by decide +kernel
theorem dM_made_13 : decode prog_7_method_27_code 13 = .ok (.istore 4, 2) := by decide +kernel
theorem dM_made_15 : decode prog_7_method_27_code 15 = .ok (.aload_n 0, 1) := by decide +kernel
theorem dM_made_16 : decode prog_7_method_27_code 16 = .ok (.getfield 16, 3) := by decide +kernel
theorem dM_made_19 : decode prog_7_method_27_code 19 = .ok (.aload_n 0, 1) := by decide +kernel
theorem dM_made_20 : decode prog_7_method_27_code 20 = .ok (.getfield 44, 3) := by decide +kernel
theorem dM_made_23 : decode prog_7_method_27_code 23 = .ok (.iload_n 1, 1) := by decide +kernel
theorem dM_made_24 : decode prog_7_method_27_code 24 = .ok (.iaload, 1) := by decide +kernel
theorem dM_made_25 : decode prog_7_method_27_code 25 = .ok (.iaload, 1) := by decide +kernel
theorem dM_made_26 : decode prog_7_method_27_code 26 = .ok (.istore 5, 2) := by decide +kernel
theorem dM_made_28 : decode prog_7_method_27_code 28 = .ok (.aload_n 0, 1) := by decide +kernel
theorem dM_made_29 : decode prog_7_method_27_code 29 = .ok (.getfield 47, 3) := by decide +kernel
theorem dM_made_32 : decode prog_7_method_27_code 32 = .ok (.iload_n 1, 1) := by decide +kernel
theorem dM_made_33 : decode prog_7_method_27_code 33 = .ok (.iaload, 1) := by decide +kernel
theorem dM_made_34 : decode prog_7_method_27_code 34 = .ok (.istore 6, 2) := by decide +kernel
theorem dM_made_36 : decode prog_7_method_27_code 36 = .ok (.aload_n 0, 1) := by decide +kernel
theorem dM_made_37 : decode prog_7_method_27_code 37 = .ok (.getfield 13, 3) := by decide +kernel
theorem dM_made_40 : decode prog_7_method_27_code 40 = .ok (.iload_n 3, 1) := by decide +kernel
theorem dM_made_41 : decode prog_7_method_27_code 41 = .ok (.iaload, 1) := by decide +kernel
theorem dM_made_42 : decode prog_7_method_27_code 42 = .ok (.istore 7, 2) := by decide +kernel
theorem dM_made_44 : decode prog_7_method_27_code 44 = .ok (.aload_n 0, 1) := by decide +kernel
theorem dM_made_45 : decode prog_7_method_27_code 45 = .ok (.getfield 35, 3) := by decide +kernel
theorem dM_made_48 : decode prog_7_method_27_code 48 = .ok (.iload_n 1, 1) := by decide +kernel
theorem dM_made_49 : decode prog_7_method_27_code 49 = .ok (.iaload, 1) := by decide +kernel
theorem dM_made_50 : decode prog_7_method_27_code 50 = .ok (.ifCond .ne (64), 3) := by decide +kernel
theorem dM_made_53 : decode prog_7_method_27_code 53 = .ok (.iconst (0), 1) := by decide +kernel
theorem dM_made_54 : decode prog_7_method_27_code 54 = .ok (.istore 8, 2) := by decide +kernel
theorem dM_made_56 : decode prog_7_method_27_code 56 = .ok (.iconst (0), 1) := by decide +kernel
theorem dM_made_57 : decode prog_7_method_27_code 57 = .ok (.istore 9, 2) := by decide +kernel
theorem dM_made_59 : decode prog_7_method_27_code 59 = .ok (.iload 9, 2) := by decide +kernel
theorem dM_made_61 : decode prog_7_method_27_code 61 = .ok (.iload 7, 2) := by decide +kernel
theorem dM_made_63 : decode prog_7_method_27_code 63 = .ok (.if_icmp .ge (35), 3) := by decide +kernel
theorem dM_made_66 : decode prog_7_method_27_code 66 = .ok (.iload 8, 2) := by decide +kernel
theorem dM_made_68 : decode prog_7_method_27_code 68 = .ok (.aload_n 0, 1) := by decide +kernel
theorem dM_made_69 : decode prog_7_method_27_code 69 = .ok (.iload_n 3, 1) := by decide +kernel
theorem dM_made_70 : decode prog_7_method_27_code 70 = .ok (.iload 9, 2) := by decide +kernel
theorem dM_made_72 : decode prog_7_method_27_code 72 = .ok (.invokevirtual 121, 3) := by decide +kernel
theorem dM_made_75 : decode prog_7_method_27_code 75 = .ok (.aload_n 0, 1) := by decide +kernel
theorem dM_made_76 : decode prog_7_method_27_code 76 = .ok (.iload 4, 2) := by decide +kernel
theorem dM_made_78 : decode prog_7_method_27_code 78 = .ok (.iload_n 2, 1) := by decide +kernel
theorem dM_made_79 : decode prog_7_method_27_code 79 = .ok (.iload 7, 2) := by decide +kernel
theorem dM_made_81 : decode prog_7_method_27_code 81 = .ok (.imul, 1) := by decide +kernel
theorem dM_made_82 : decode prog_7_method_27_code 82 = .ok (.iload 9, 2) := by decide +kernel
theorem dM_made_84 : decode prog_7_method_27_code 84 = .ok (.iadd, 1) := by decide +kernel
theorem dM_made_85 : decode prog_7_method_27_code 85 = .ok (.invokevirtual 121, 3) := by decide +kernel
theorem dM_made_88 : decode prog_7_method_27_code 88 = .ok (.imul, 1) := by decide +kernel
theorem dM_made_89 : decode prog_7_method_27_code 89 = .ok (.iadd, 1) := by decide +kernel
theorem dM_made_90 : decode prog_7_method_27_code 90 = .ok (.istore 8, 2) := by decide +kernel
theorem dM_made_92 : decode prog_7_method_27_code 92 = .ok (.iinc 9 (1), 3) := by decide +kernel
theorem dM_made_95 : decode prog_7_method_27_code 95 = .ok (.goto (-36), 3) := by decide +kernel
theorem dM_made_98 : decode prog_7_method_27_code 98 = .ok (.aload_n 0, 1) := by decide +kernel
theorem dM_made_99 : decode prog_7_method_27_code 99 = .ok (.iload 5, 2) := by decide +kernel
theorem dM_made_101 : decode prog_7_method_27_code 101 = .ok (.aload_n 0, 1) := by decide +kernel
theorem dM_made_102 : decode prog_7_method_27_code 102 = .ok (.iload 6, 2) := by decide +kernel
theorem dM_made_104 : decode prog_7_method_27_code 104 = .ok (.iload 8, 2) := by decide +kernel
theorem dM_made_106 : decode prog_7_method_27_code 106 = .ok (.invokevirtual 124, 3) := by decide +kernel
theorem dM_made_109 : decode prog_7_method_27_code 109 = .ok (.iadd, 1) := by decide +kernel
theorem dM_made_110 : decode prog_7_method_27_code 110 = .ok (.invokevirtual 127, 3) := by decide +kernel
theorem dM_made_113 : decode prog_7_method_27_code 113 = .ok (.ireturn, 1) := by decide +kernel
theorem dM_made_114 : decode prog_7_method_27_code 114 = .ok (.aload_n 0, 1) := by decide +kernel
theorem dM_made_115 : decode prog_7_method_27_code 115 = .ok (.getfield 35, 3) := by decide +kernel
theorem dM_made_118 : decode prog_7_method_27_code 118 = .ok (.iload_n 1, 1) := by decide +kernel
theorem dM_made_119 : decode prog_7_method_27_code 119 = .ok (.iaload, 1) := by decide +kernel
theorem dM_made_120 : decode prog_7_method_27_code 120 = .ok (.iconst (1), 1) := by decide +kernel
theorem dM_made_121 : decode prog_7_method_27_code 121 = .ok (.if_icmp .ne (31), 3) := by decide +kernel
theorem dM_made_124 : decode prog_7_method_27_code 124 = .ok (.aload_n 0, 1) := by decide +kernel
theorem dM_made_125 : decode prog_7_method_27_code 125 = .ok (.iload 5, 2) := by decide +kernel
theorem dM_made_127 : decode prog_7_method_27_code 127 = .ok (.aload_n 0, 1) := by decide +kernel
theorem dM_made_128 : decode prog_7_method_27_code 128 = .ok (.iload 6, 2) := by decide +kernel
theorem dM_made_130 : decode prog_7_method_27_code 130 = .ok (.aload_n 0, 1) := by decide +kernel
theorem dM_made_131 : decode prog_7_method_27_code 131 = .ok (.iload_n 3, 1) := by decide +kernel
theorem dM_made_132 : decode prog_7_method_27_code 132 = .ok (.iload_n 2, 1) := by decide +kernel
theorem dM_made_133 : decode prog_7_method_27_code 133 = .ok (.invokevirtual 121, 3) := by decide +kernel
theorem dM_made_136 : decode prog_7_method_27_code 136 = .ok (.aload_n 0, 1) := by decide +kernel
theorem dM_made_137 : decode prog_7_method_27_code 137 = .ok (.iload 4, 2) := by decide +kernel
theorem dM_made_139 : decode prog_7_method_27_code 139 = .ok (.iload_n 2, 1) := by decide +kernel
theorem dM_made_140 : decode prog_7_method_27_code 140 = .ok (.invokevirtual 121, 3) := by decide +kernel
theorem dM_made_143 : decode prog_7_method_27_code 143 = .ok (.iadd, 1) := by decide +kernel
theorem dM_made_144 : decode prog_7_method_27_code 144 = .ok (.invokevirtual 124, 3) := by decide +kernel
theorem dM_made_147 : decode prog_7_method_27_code 147 = .ok (.iadd, 1) := by decide +kernel
theorem dM_made_148 : decode prog_7_method_27_code 148 = .ok (.invokevirtual 127, 3) := by decide +kernel
theorem dM_made_151 : decode prog_7_method_27_code 151 = .ok (.ireturn, 1) := by decide +kernel
theorem dM_made_152 : decode prog_7_method_27_code 152 = .ok (.aload_n 0, 1) := by decide +kernel
theorem dM_made_153 : decode prog_7_method_27_code 153 = .ok (.getfield 35, 3) := by decide +kernel
theorem dM_made_156 : decode prog_7_method_27_code 156 = .ok (.iload_n 1, 1) := by decide +kernel
theorem dM_made_157 : decode prog_7_method_27_code 157 = .ok (.iaload, 1) := by decide +kernel
theorem dM_made_158 : decode prog_7_method_27_code 158 = .ok (.iconst (2), 1) := by decide +kernel
theorem dM_made_159 : decode prog_7_method_27_code 159 = .ok (.if_icmp .ne (31), 3) := by decide +kernel
theorem dM_made_162 : decode prog_7_method_27_code 162 = .ok (.aload_n 0, 1) := by decide +kernel
theorem dM_made_163 : decode prog_7_method_27_code 163 = .ok (.iload 5, 2) := by decide +kernel
theorem dM_made_165 : decode prog_7_method_27_code 165 = .ok (.aload_n 0, 1) := by decide +kernel
theorem dM_made_166 : decode prog_7_method_27_code 166 = .ok (.iload 6, 2) := by decide +kernel
theorem dM_made_168 : decode prog_7_method_27_code 168 = .ok (.aload_n 0, 1) := by decide +kernel
theorem dM_made_169 : decode prog_7_method_27_code 169 = .ok (.iload_n 3, 1) := by decide +kernel
theorem dM_made_170 : decode prog_7_method_27_code 170 = .ok (.iload_n 2, 1) := by decide +kernel
theorem dM_made_171 : decode prog_7_method_27_code 171 = .ok (.invokevirtual 121, 3) := by decide +kernel
theorem dM_made_174 : decode prog_7_method_27_code 174 = .ok (.aload_n 0, 1) := by decide +kernel
theorem dM_made_175 : decode prog_7_method_27_code 175 = .ok (.iload 4, 2) := by decide +kernel
theorem dM_made_177 : decode prog_7_method_27_code 177 = .ok (.iload_n 2, 1) := by decide +kernel
theorem dM_made_178 : decode prog_7_method_27_code 178 = .ok (.invokevirtual 121, 3) := by decide +kernel
theorem dM_made_181 : decode prog_7_method_27_code 181 = .ok (.imul, 1) := by decide +kernel
theorem dM_made_182 : decode prog_7_method_27_code 182 = .ok (.invokevirtual 124, 3) := by decide +kernel
theorem dM_made_185 : decode prog_7_method_27_code 185 = .ok (.iadd, 1) := by decide +kernel
theorem dM_made_186 : decode prog_7_method_27_code 186 = .ok (.invokevirtual 127, 3) := by decide +kernel
theorem dM_made_189 : decode prog_7_method_27_code 189 = .ok (.ireturn, 1) := by decide +kernel
theorem dM_made_190 : decode prog_7_method_27_code 190 = .ok (.aload_n 0, 1) := by decide +kernel
theorem dM_made_191 : decode prog_7_method_27_code 191 = .ok (.getfield 35, 3) := by decide +kernel
theorem dM_made_194 : decode prog_7_method_27_code 194 = .ok (.iload_n 1, 1) := by decide +kernel
theorem dM_made_195 : decode prog_7_method_27_code 195 = .ok (.iaload, 1) := by decide +kernel
theorem dM_made_196 : decode prog_7_method_27_code 196 = .ok (.iconst (5), 1) := by decide +kernel
theorem dM_made_197 : decode prog_7_method_27_code 197 = .ok (.if_icmp .ge (30), 3) := by decide +kernel
theorem dM_made_200 : decode prog_7_method_27_code 200 = .ok (.aload_n 0, 1) := by decide +kernel
theorem dM_made_201 : decode prog_7_method_27_code 201 = .ok (.iload_n 3, 1) := by decide +kernel
theorem dM_made_202 : decode prog_7_method_27_code 202 = .ok (.iload_n 2, 1) := by decide +kernel
theorem dM_made_203 : decode prog_7_method_27_code 203 = .ok (.iload 6, 2) := by decide +kernel
theorem dM_made_205 : decode prog_7_method_27_code 205 = .ok (.imul, 1) := by decide +kernel
theorem dM_made_206 : decode prog_7_method_27_code 206 = .ok (.iload 6, 2) := by decide +kernel
theorem dM_made_208 : decode prog_7_method_27_code 208 = .ok (.aload_n 0, 1) := by decide +kernel
theorem dM_made_209 : decode prog_7_method_27_code 209 = .ok (.getfield 35, 3) := by decide +kernel
theorem dM_made_212 : decode prog_7_method_27_code 212 = .ok (.iload_n 1, 1) := by decide +kernel
theorem dM_made_213 : decode prog_7_method_27_code 213 = .ok (.iaload, 1) := by decide +kernel
theorem dM_made_214 : decode prog_7_method_27_code 214 = .ok (.iconst (3), 1) := by decide +kernel
theorem dM_made_215 : decode prog_7_method_27_code 215 = .ok (.if_icmp .ne (7), 3) := by decide +kernel
theorem dM_made_218 : decode prog_7_method_27_code 218 = .ok (.iconst (1), 1) := by decide +kernel
theorem dM_made_219 : decode prog_7_method_27_code 219 = .ok (.goto (4), 3) := by decide +kernel
theorem dM_made_222 : decode prog_7_method_27_code 222 = .ok (.iconst (0), 1) := by decide +kernel
theorem dM_made_223 : decode prog_7_method_27_code 223 = .ok (.invokevirtual 130, 3) := by decide +kernel
theorem dM_made_226 : decode prog_7_method_27_code 226 = .ok (.ireturn, 1) := by decide +kernel
theorem dM_made_227 : decode prog_7_method_27_code 227 = .ok (.aload_n 0, 1) := by decide +kernel
theorem dM_made_228 : decode prog_7_method_27_code 228 = .ok (.getfield 35, 3) := by decide +kernel
theorem dM_made_231 : decode prog_7_method_27_code 231 = .ok (.iload_n 1, 1) := by decide +kernel
theorem dM_made_232 : decode prog_7_method_27_code 232 = .ok (.iaload, 1) := by decide +kernel
theorem dM_made_233 : decode prog_7_method_27_code 233 = .ok (.iconst (5), 1) := by decide +kernel
theorem dM_made_234 : decode prog_7_method_27_code 234 = .ok (.if_icmp .ne (33), 3) := by decide +kernel
theorem dM_made_237 : decode prog_7_method_27_code 237 = .ok (.aload_n 0, 1) := by decide +kernel
theorem dM_made_238 : decode prog_7_method_27_code 238 = .ok (.getfield 26, 3) := by decide +kernel
theorem dM_made_241 : decode prog_7_method_27_code 241 = .ok (.iload 4, 2) := by decide +kernel
theorem dM_made_243 : decode prog_7_method_27_code 243 = .ok (.bipush (64), 2) := by decide +kernel
theorem dM_made_245 : decode prog_7_method_27_code 245 = .ok (.imul, 1) := by decide +kernel
theorem dM_made_246 : decode prog_7_method_27_code 246 = .ok (.aload_n 0, 1) := by decide +kernel
theorem dM_made_247 : decode prog_7_method_27_code 247 = .ok (.getfield 26, 3) := by decide +kernel
theorem dM_made_250 : decode prog_7_method_27_code 250 = .ok (.iload_n 3, 1) := by decide +kernel
theorem dM_made_251 : decode prog_7_method_27_code 251 = .ok (.bipush (64), 2) := by decide +kernel
theorem dM_made_253 : decode prog_7_method_27_code 253 = .ok (.imul, 1) := by decide +kernel
theorem dM_made_254 : decode prog_7_method_27_code 254 = .ok (.iload_n 2, 1) := by decide +kernel
theorem dM_made_255 : decode prog_7_method_27_code 255 = .ok (.iadd, 1) := by decide +kernel
theorem dM_made_256 : decode prog_7_method_27_code 256 = .ok (.iaload, 1) := by decide +kernel
theorem dM_made_257 : decode prog_7_method_27_code 257 = .ok (.sipush (128), 3) := by decide +kernel
theorem dM_made_260 : decode prog_7_method_27_code 260 = .ok (.iadd, 1) := by decide +kernel
theorem dM_made_261 : decode prog_7_method_27_code 261 = .ok (.bipush (16), 2) := by decide +kernel
theorem dM_made_263 : decode prog_7_method_27_code 263 = .ok (.idiv, 1) := by decide +kernel
theorem dM_made_264 : decode prog_7_method_27_code 264 = .ok (.iadd, 1) := by decide +kernel
theorem dM_made_265 : decode prog_7_method_27_code 265 = .ok (.iaload, 1) := by decide +kernel
theorem dM_made_266 : decode prog_7_method_27_code 266 = .ok (.ireturn, 1) := by decide +kernel
theorem dM_made_267 : decode prog_7_method_27_code 267 = .ok (.aload_n 0, 1) := by decide +kernel
theorem dM_made_268 : decode prog_7_method_27_code 268 = .ok (.getfield 35, 3) := by decide +kernel
theorem dM_made_271 : decode prog_7_method_27_code 271 = .ok (.iload_n 1, 1) := by decide +kernel
theorem dM_made_272 : decode prog_7_method_27_code 272 = .ok (.iaload, 1) := by decide +kernel
theorem dM_made_273 : decode prog_7_method_27_code 273 = .ok (.bipush (6), 2) := by decide +kernel
theorem dM_made_275 : decode prog_7_method_27_code 275 = .ok (.if_icmp .ne (39), 3) := by decide +kernel
theorem dM_made_278 : decode prog_7_method_27_code 278 = .ok (.iload_n 2, 1) := by decide +kernel
theorem dM_made_279 : decode prog_7_method_27_code 279 = .ok (.iload 7, 2) := by decide +kernel
theorem dM_made_281 : decode prog_7_method_27_code 281 = .ok (.if_icmp .ge (17), 3) := by decide +kernel
theorem dM_made_284 : decode prog_7_method_27_code 284 = .ok (.aload_n 0, 1) := by decide +kernel
theorem dM_made_285 : decode prog_7_method_27_code 285 = .ok (.getfield 26, 3) := by decide +kernel
theorem dM_made_288 : decode prog_7_method_27_code 288 = .ok (.iload_n 3, 1) := by decide +kernel
theorem dM_made_289 : decode prog_7_method_27_code 289 = .ok (.bipush (64), 2) := by decide +kernel
theorem dM_made_291 : decode prog_7_method_27_code 291 = .ok (.imul, 1) := by decide +kernel
theorem dM_made_292 : decode prog_7_method_27_code 292 = .ok (.iload_n 2, 1) := by decide +kernel
theorem dM_made_293 : decode prog_7_method_27_code 293 = .ok (.iadd, 1) := by decide +kernel
theorem dM_made_294 : decode prog_7_method_27_code 294 = .ok (.iaload, 1) := by decide +kernel
theorem dM_made_295 : decode prog_7_method_27_code 295 = .ok (.goto (18), 3) := by decide +kernel
theorem dM_made_298 : decode prog_7_method_27_code 298 = .ok (.aload_n 0, 1) := by decide +kernel
theorem dM_made_299 : decode prog_7_method_27_code 299 = .ok (.getfield 26, 3) := by decide +kernel
theorem dM_made_302 : decode prog_7_method_27_code 302 = .ok (.iload 4, 2) := by decide +kernel
theorem dM_made_304 : decode prog_7_method_27_code 304 = .ok (.bipush (64), 2) := by decide +kernel
theorem dM_made_306 : decode prog_7_method_27_code 306 = .ok (.imul, 1) := by decide +kernel
theorem dM_made_307 : decode prog_7_method_27_code 307 = .ok (.iload_n 2, 1) := by decide +kernel
theorem dM_made_308 : decode prog_7_method_27_code 308 = .ok (.iadd, 1) := by decide +kernel
theorem dM_made_309 : decode prog_7_method_27_code 309 = .ok (.iload 7, 2) := by decide +kernel
theorem dM_made_311 : decode prog_7_method_27_code 311 = .ok (.isub, 1) := by decide +kernel
theorem dM_made_312 : decode prog_7_method_27_code 312 = .ok (.iaload, 1) := by decide +kernel
theorem dM_made_313 : decode prog_7_method_27_code 313 = .ok (.ireturn, 1) := by decide +kernel
theorem dM_made_314 : decode prog_7_method_27_code 314 = .ok (.aload_n 0, 1) := by decide +kernel
theorem dM_made_315 : decode prog_7_method_27_code 315 = .ok (.getfield 26, 3) := by decide +kernel
theorem dM_made_318 : decode prog_7_method_27_code 318 = .ok (.iload_n 3, 1) := by decide +kernel
theorem dM_made_319 : decode prog_7_method_27_code 319 = .ok (.bipush (64), 2) := by decide +kernel
theorem dM_made_321 : decode prog_7_method_27_code 321 = .ok (.imul, 1) := by decide +kernel
theorem dM_made_322 : decode prog_7_method_27_code 322 = .ok (.iload 7, 2) := by decide +kernel
theorem dM_made_324 : decode prog_7_method_27_code 324 = .ok (.iadd, 1) := by decide +kernel
theorem dM_made_325 : decode prog_7_method_27_code 325 = .ok (.iconst (1), 1) := by decide +kernel
theorem dM_made_326 : decode prog_7_method_27_code 326 = .ok (.isub, 1) := by decide +kernel
theorem dM_made_327 : decode prog_7_method_27_code 327 = .ok (.iload_n 2, 1) := by decide +kernel
theorem dM_made_328 : decode prog_7_method_27_code 328 = .ok (.isub, 1) := by decide +kernel
theorem dM_made_329 : decode prog_7_method_27_code 329 = .ok (.iaload, 1) := by decide +kernel
theorem dM_made_330 : decode prog_7_method_27_code 330 = .ok (.ireturn, 1) := by decide +kernel
def fM_placed_b92 (b : Nat) (rec14 : Int32 → Int32 → cW → Option (Int32 × cW)) (a1 : Int32) (a2 : Int32) (a3 : Int32) (w : cW) : Option (Int32 × cW) :=
  (cRcv w (some b) 5).bind fun b3 => cbd (fM_lives b3 a2 w) fun x1 w2 =>
  if x1 = 0 then (
    bnd (a2 + (1 : Int32)) fun x4 =>
    rec14 a1 x4 w2) else
  if a3 = a1 then (
    some (a2, w2)) else
  bnd (a2 + (1 : Int32)) fun x5 =>
  rec14 a1 x5 w2
def fM_placed_b27 (b : Nat) (rec14 : Int32 → Int32 → cW → Option (Int32 × cW)) (rec27 : Int32 → Int32 → Int32 → Int32 → cW → Option (Int32 × cW)) (a1 : Int32) (a2 : Int32) (a3 : Int32) (a4 : Int32) (w : cW) : Option (Int32 × cW) :=
  (gI w (some b) 5 6).bind fun x1 =>
  if x1 ≤ a4 then (
    fM_placed_b92 b rec14 a1 a2 a3 w) else
  (cRcv w (some b) 5).bind fun b4 => cbd (fM_lives b4 a4 w) fun x2 w3 =>
  if x2 = 0 then (
    bnd (a4 + (1 : Int32)) fun x5 =>
    rec27 a1 a2 a3 x5 w3) else
  (gQ w3 (some b) 5 1).bind fun r6 =>
  (ldI w3 r6 .int a4).bind fun x7 =>
  (gQ w3 (some b) 5 1).bind fun r8 =>
  (ldI w3 r8 .int a2).bind fun x9 =>
  if x9 < x7 then (
    bnd (a3 + (1 : Int32)) fun x10 =>
    bnd (a4 + (1 : Int32)) fun x11 =>
    rec27 a1 a2 x10 x11 w3) else
  (gQ w3 (some b) 5 1).bind fun r12 =>
  (ldI w3 r12 .int a4).bind fun x13 =>
  (gQ w3 (some b) 5 1).bind fun r14 =>
  (ldI w3 r14 .int a2).bind fun x15 =>
  if x13 = x15 then (
    if a2 ≤ a4 then (
      bnd (a4 + (1 : Int32)) fun x17 =>
      rec27 a1 a2 a3 x17 w3) else
    bnd (a3 + (1 : Int32)) fun x18 =>
    bnd (a4 + (1 : Int32)) fun x19 =>
    rec27 a1 a2 x18 x19 w3) else
  bnd (a4 + (1 : Int32)) fun x16 =>
  rec27 a1 a2 a3 x16 w3
def fM_placed_l27 (b : Nat) (rec14 : Int32 → Int32 → cW → Option (Int32 × cW)) (n : Nat) : Int32 → Int32 → Int32 → Int32 → cW → Option (Int32 × cW) := lp (fun _ _ _ _ _ => none) (fM_placed_b27 b rec14) n
def fM_placed_b14 (b : Nat)  (rec14 : Int32 → Int32 → cW → Option (Int32 × cW)) (a1 : Int32) (a2 : Int32) (w : cW) : Option (Int32 × cW) :=
  (gI w (some b) 5 6).bind fun x1 =>
  if x1 ≤ a2 then (
    some ((-1 : Int32), w)) else
  fM_placed_l27 b rec14 FU a1 a2 (0 : Int32) (0 : Int32) w
def fM_placed_l14 (b : Nat)  (n : Nat) : Int32 → Int32 → cW → Option (Int32 × cW) := lp (fun _ _ _ => none) (fM_placed_b14 b ) n
def fM_placed (b : Nat) (a1 : Int32) (w : cW) : Option (Int32 × cW) :=
  if a1 < 0 then (
    some ((-1 : Int32), w)) else
  if a1 < (20 : Int32) then (
    fM_placed_l14 b FU a1 (0 : Int32) w) else
  some ((-1 : Int32), w)
def fM_prepare_b163 (b : Nat) (rec118 : Int32 → cW → Option (Int32 × cW)) (a1 : Int32) (a2 : Int32) (w : cW) : Option (Int32 × cW) :=
  (gQ w (some b) 5 16).bind fun r1 =>
  (gQ w (some b) 5 17).bind fun r2 =>
  (ldI w r2 .int a1).bind fun x3 =>
  (stI w r1 .int x3 a2).bind fun w4 =>
  bnd (a1 + (1 : Int32)) fun x5 =>
  rec118 x5 w4
def fM_prepare_b135 (b : Nat) (rec118 : Int32 → cW → Option (Int32 × cW)) (rec135 : Int32 → Int32 → cW → Option (Int32 × cW)) (a1 : Int32) (a2 : Int32) (w : cW) : Option (Int32 × cW) :=
  if (400 : Int32) ≤ a2 then (
    fM_prepare_b163 b rec118 a1 a2 w) else
  (gQ w (some b) 5 17).bind fun r1 =>
  (ldI w r1 .int a1).bind fun x2 =>
  (cRcv w (some b) 5).bind fun b5 => cbd (fM_apart b5 x2 a2 a1 w) fun x3 w4 =>
  if x3 = 0 then (
    bnd (a2 + (4 : Int32)) fun x6 =>
    rec135 a1 x6 w4) else
  fM_prepare_b163 b rec118 a1 a2 w4
def fM_prepare_l135 (b : Nat) (rec118 : Int32 → cW → Option (Int32 × cW)) (n : Nat) : Int32 → Int32 → cW → Option (Int32 × cW) := lp (fun _ _ _ => none) (fM_prepare_b135 b rec118) n
def fM_prepare_b118 (b : Nat)  (rec118 : Int32 → cW → Option (Int32 × cW)) (a1 : Int32) (w : cW) : Option (Int32 × cW) :=
  if (20 : Int32) ≤ a1 then (
    (cRcv w (some b) 5).bind fun b3 => cbd (fM_arena b3 w) fun x1 w2 =>
    some (x1, w2)) else
  (gQ w (some b) 5 17).bind fun r4 =>
  (ldI w r4 .int a1).bind fun x5 =>
  if x5 < 0 then (
    bnd (a1 + (1 : Int32)) fun x6 =>
    rec118 x6 w) else
  fM_prepare_l135 b rec118 FU a1 (0 : Int32) w
def fM_prepare_l118 (b : Nat)  (n : Nat) : Int32 → cW → Option (Int32 × cW) := lp (fun _ _ => none) (fM_prepare_b118 b ) n
def fM_prepare_b93 (b : Nat)  (rec93 : Int32 → cW → Option (Int32 × cW)) (a1 : Int32) (w : cW) : Option (Int32 × cW) :=
  if (20 : Int32) ≤ a1 then (
    fM_prepare_l118 b FU (0 : Int32) w) else
  (gQ w (some b) 5 17).bind fun r1 =>
  (cRcv w (some b) 5).bind fun b4 => cbd (fM_placed b4 a1 w) fun x2 w3 =>
  (stI w3 r1 .int a1 x2).bind fun w5 =>
  bnd (a1 + (1 : Int32)) fun x6 =>
  rec93 x6 w5
def fM_prepare_l93 (b : Nat)  (n : Nat) : Int32 → cW → Option (Int32 × cW) := lp (fun _ _ => none) (fM_prepare_b93 b ) n
def fM_prepare_b86 (b : Nat)   (w : cW) : Option (Int32 × cW) :=
  (pZ w (some b) 5 15 (1 : Int32)).bind fun w1 =>
  fM_prepare_l93 b FU (0 : Int32) w1
def fM_prepare_b47 (b : Nat)  (rec47 : Int32 → cW → Option (Int32 × cW)) (a1 : Int32) (w : cW) : Option (Int32 × cW) :=
  (gI w (some b) 5 6).bind fun x1 =>
  if x1 ≤ a1 then (
    fM_prepare_b86 b w) else
  (gQ w (some b) 5 3).bind fun r2 =>
  (ldI w r2 .boolean a1).bind fun x3 =>
  if x3 = 0 then (
    bnd (a1 + (1 : Int32)) fun x4 =>
    rec47 x4 w) else
  (gI w (some b) 5 14).bind fun x5 =>
  (cRcv w (some b) 5).bind fun b8 => cbd (fM_unmade b8 a1 x5 w) fun x6 w7 =>
  if x6 = 0 then (
    bnd (a1 + (1 : Int32)) fun x9 =>
    rec47 x9 w7) else
  some ((-1000 : Int32), w7)
def fM_prepare_l47 (b : Nat)  (n : Nat) : Int32 → cW → Option (Int32 × cW) := lp (fun _ _ => none) (fM_prepare_b47 b ) n
def fM_prepare_b30 (b : Nat)  (a1 : Int32) (a2 : Int32) (w : cW) : Option (Int32 × cW) :=
  some ((((-10 : Int32) * (a1 + (1 : Int32))) - a2), w)
def fM_prepare_b12 (b : Nat)  (rec12 : Int32 → cW → Option (Int32 × cW)) (a1 : Int32) (w : cW) : Option (Int32 × cW) :=
  (gI w (some b) 5 14).bind fun x1 =>
  if x1 ≤ a1 then (
    fM_prepare_l47 b FU (0 : Int32) w) else
  (cRcv w (some b) 5).bind fun b4 => cbd (fM_fault b4 a1 w) fun x2 w3 =>
  if x2 ≤ 0 then (
    bnd (a1 + (1 : Int32)) fun x5 =>
    rec12 x5 w3) else
  fM_prepare_b30 b a1 x2 w3
def fM_prepare_l12 (b : Nat)  (n : Nat) : Int32 → cW → Option (Int32 × cW) := lp (fun _ _ => none) (fM_prepare_b12 b ) n
def fM_prepare (b : Nat)  (w : cW) : Option (Int32 × cW) :=
  (gI w (some b) 5 15).bind fun x1 =>
  if x1 = 0 then (
    fM_prepare_l12 b FU (0 : Int32) w) else
  some ((-3 : Int32), w)
def fM_made_b98 (b : Nat)  (a5 : Int32) (a6 : Int32) (a8 : Int32) (w : cW) : Option (Int32 × cW) :=
  (cRcv w (some b) 5).bind fun b3 => cbd (fM_scaling b3 a6 a8 w) fun x1 w2 =>
  (cRcv w2 (some b) 5).bind fun b6 => cbd (fM_clamped b6 (a5 + x1) w2) fun x4 w5 =>
  some (x4, w5)
def fM_made_b59 (b : Nat)  (rec59 : Int32 → Int32 → Int32 → Int32 → Int32 → Int32 → Int32 → Int32 → cW → Option (Int32 × cW)) (a2 : Int32) (a3 : Int32) (a4 : Int32) (a5 : Int32) (a6 : Int32) (a7 : Int32) (a8 : Int32) (a9 : Int32) (w : cW) : Option (Int32 × cW) :=
  if a7 ≤ a9 then (
    fM_made_b98 b a5 a6 a8 w) else
  (cRcv w (some b) 5).bind fun b3 => cbd (fM_difference b3 a3 a9 w) fun x1 w2 =>
  (cRcv w2 (some b) 5).bind fun b6 => cbd (fM_difference b6 a4 ((a2 * a7) + a9) w2) fun x4 w5 =>
  bnd (a8 + (x1 * x4)) fun x7 =>
  bnd (a9 + (1 : Int32)) fun x8 =>
  rec59 a2 a3 a4 a5 a6 a7 x7 x8 w5
def fM_made_l59 (b : Nat)  (n : Nat) : Int32 → Int32 → Int32 → Int32 → Int32 → Int32 → Int32 → Int32 → cW → Option (Int32 × cW) := lp (fun _ _ _ _ _ _ _ _ _ => none) (fM_made_b59 b ) n
def fM_made (b : Nat) (a1 : Int32) (a2 : Int32) (w : cW) : Option (Int32 × cW) :=
  (gQ w (some b) 5 10).bind fun r1 =>
  (ldI w r1 .int a1).bind fun x2 =>
  (gQ w (some b) 5 11).bind fun r3 =>
  (ldI w r3 .int a1).bind fun x4 =>
  (gQ w (some b) 5 2).bind fun r5 =>
  (gQ w (some b) 5 12).bind fun r6 =>
  (ldI w r6 .int a1).bind fun x7 =>
  (ldI w r5 .int x7).bind fun x8 =>
  (gQ w (some b) 5 13).bind fun r9 =>
  (ldI w r9 .int a1).bind fun x10 =>
  (gQ w (some b) 5 1).bind fun r11 =>
  (ldI w r11 .int x2).bind fun x12 =>
  (gQ w (some b) 5 9).bind fun r13 =>
  (ldI w r13 .int a1).bind fun x14 =>
  if x14 = 0 then (
    fM_made_l59 b FU a2 x2 x4 x8 x10 x12 (0 : Int32) (0 : Int32) w) else
  (gQ w (some b) 5 9).bind fun r15 =>
  (ldI w r15 .int a1).bind fun x16 =>
  if x16 = (1 : Int32) then (
    (cRcv w (some b) 5).bind fun b57 => cbd (fM_difference b57 x2 a2 w) fun x55 w56 =>
    (cRcv w56 (some b) 5).bind fun b60 => cbd (fM_difference b60 x4 a2 w56) fun x58 w59 =>
    (cRcv w59 (some b) 5).bind fun b63 => cbd (fM_scaling b63 x10 (x55 + x58) w59) fun x61 w62 =>
    (cRcv w62 (some b) 5).bind fun b66 => cbd (fM_clamped b66 (x8 + x61) w62) fun x64 w65 =>
    some (x64, w65)) else
  (gQ w (some b) 5 9).bind fun r17 =>
  (ldI w r17 .int a1).bind fun x18 =>
  if x18 = (2 : Int32) then (
    (cRcv w (some b) 5).bind fun b45 => cbd (fM_difference b45 x2 a2 w) fun x43 w44 =>
    (cRcv w44 (some b) 5).bind fun b48 => cbd (fM_difference b48 x4 a2 w44) fun x46 w47 =>
    (cRcv w47 (some b) 5).bind fun b51 => cbd (fM_scaling b51 x10 (x43 * x46) w47) fun x49 w50 =>
    (cRcv w50 (some b) 5).bind fun b54 => cbd (fM_clamped b54 (x8 + x49) w50) fun x52 w53 =>
    some (x52, w53)) else
  (gQ w (some b) 5 9).bind fun r19 =>
  (ldI w r19 .int a1).bind fun x20 =>
  if (5 : Int32) ≤ x20 then (
    (gQ w (some b) 5 9).bind fun r21 =>
    (ldI w r21 .int a1).bind fun x22 =>
    if x22 = (5 : Int32) then (
      (gQ w (some b) 5 5).bind fun r31 =>
      (gQ w (some b) 5 5).bind fun r32 =>
      (ldI w r32 .int ((x2 * (64 : Int32)) + a2)).bind fun x33 =>
      (ldI w r31 .int ((x4 * (64 : Int32)) + ((x33 + (128 : Int32)) / (16 : Int32)))).bind fun x34 =>
      some (x34, w)) else
    (gQ w (some b) 5 9).bind fun r23 =>
    (ldI w r23 .int a1).bind fun x24 =>
    if x24 = (6 : Int32) then (
      if x12 ≤ a2 then (
        (gQ w (some b) 5 5).bind fun r27 =>
        (ldI w r27 .int (((x4 * (64 : Int32)) + a2) - x12)).bind fun x28 =>
        some (x28, w)) else
      (gQ w (some b) 5 5).bind fun r29 =>
      (ldI w r29 .int ((x2 * (64 : Int32)) + a2)).bind fun x30 =>
      some (x30, w)) else
    (gQ w (some b) 5 5).bind fun r25 =>
    (ldI w r25 .int ((((x2 * (64 : Int32)) + x12) - (1 : Int32)) - a2)).bind fun x26 =>
    some (x26, w)) else
  (gQ w (some b) 5 9).bind fun r35 =>
  (ldI w r35 .int a1).bind fun x36 =>
  if x36 = (3 : Int32) then (
    (cRcv w (some b) 5).bind fun b42 => cbd (fM_window b42 x2 (a2 * x10) x10 (1 : Int32) w) fun x40 w41 =>
    some (x40, w41)) else
  (cRcv w (some b) 5).bind fun b39 => cbd (fM_window b39 x2 (a2 * x10) x10 (0 : Int32) w) fun x37 w38 =>
  some (x37, w38)
set_option maxHeartbeats 4000000 in
set_option maxRecDepth 100000 in
theorem tM_placed_b92 {C : xC} {G : cG} {w0 w' : cW} {r : Int32} {b : Nat} (hC : okC C prog_7_method_16_code 5 "ArenaNetworkModel" lw_gd) (hE : xE C (some .int) mkI G w0 w' r) (hR : xR C = rmM_placed) {rec14 : Int32 → Int32 → cW → Option (Int32 × cW)} (hrec14 : ∀ (a1 : Int32) (a2 : Int32) (w : cW), rec14 a1 a2 w = some (r, w') → V C w 0 0 14 [(0, va_rf (some b)), (1, .int a1), (2, .int a2)] []) (a1 : Int32) (a2 : Int32) (a3 : Int32) (w : cW) (hf : fM_placed_b92 b rec14 a1 a2 a3 w = some (r, w')) : V C w 0 0 92 [(0, va_rf (some b)), (1, .int a1), (2, .int a2), (3, .int a3)] [] := by
  unfold fM_placed_b92 at hf
  refine v_aload_n (pc := 92) (i := 0) (r := (some b)) hC dM_placed_92 rfl 0 rfl ?_
  refine v_iload_n (pc := 93) (i := 2) (x := a2) hC dM_placed_93 rfl 2 rfl ?_
  refine v_callV (pc := 94) (r := (some b)) (As := [.int a2]) (rest := []) (k' := 0) (n' := 0) (st1 := (fun yq => [.int yq])) hC dM_placed_94 q566 q568 p20 q7 q569 ykM_lives rfl rfl (fun bq rq wq hq => mM_lives _ _ bq a2 _ rq wq hq) (by rw [hR]; decide) (by simp only [List.map_cons, List.map_nil, va_cat]; exact Nat.le_of_ble_eq_true rfl) (by decide) (by rw [hR]; decide) hf rfl (fun _ => rfl) (fun x1 w2 hf => ?_)
  refine v_if_eq (pc := 97) (tgt := 107) hC dM_placed_97 (by decide) hf (fun hf => ?_) (fun hf => ?_)
  · refine v_iincB (pc := 107) (i := 2) (x := a2) (v := (1 : Int32)) hC dM_placed_107 2 rfl (by decide) (by decide) (fun x4 => [(2, .int x4), (0, va_rf (some b)), (1, .int a1), (3, .int a3)]) (fun _ => rfl) hf (fun x4 hf => ?_)
    refine v_goto (pc := 110) (tgt := 14) hC dM_placed_110 (by decide) ?_
    exact V.sub [1, 2, 0] rfl (hrec14 _ _ _ hf)
  · refine v_iload_n (pc := 100) (i := 3) (x := a3) hC dM_placed_100 rfl 3 rfl ?_
    refine v_iload_n (pc := 101) (i := 1) (x := a1) hC dM_placed_101 rfl 1 rfl ?_
    refine v_icmp_ne (pc := 102) (tgt := 107) hC dM_placed_102 (by decide) hf (fun hf => ?_) (fun hf => ?_)
    · refine v_iincB (pc := 107) (i := 2) (x := a2) (v := (1 : Int32)) hC dM_placed_107 2 rfl (by decide) (by decide) (fun x5 => [(2, .int x5), (0, va_rf (some b)), (1, .int a1), (3, .int a3)]) (fun _ => rfl) hf (fun x5 hf => ?_)
      refine v_goto (pc := 110) (tgt := 14) hC dM_placed_110 (by decide) ?_
      exact V.sub [1, 2, 0] rfl (hrec14 _ _ _ hf)
    · refine v_iload_n (pc := 105) (i := 2) (x := a2) hC dM_placed_105 rfl 2 rfl ?_
      exact v_iret (pc := 106) hC hE dM_placed_106 (by rw [hR]; decide) (by rw [hR]; decide) hf
set_option maxHeartbeats 4000000 in
set_option maxRecDepth 100000 in
theorem tM_placed_l27 {C : xC} {G : cG} {w0 w' : cW} {r : Int32} {b : Nat} (hC : okC C prog_7_method_16_code 5 "ArenaNetworkModel" lw_gd) (hE : xE C (some .int) mkI G w0 w' r) (hR : xR C = rmM_placed) {rec14 : Int32 → Int32 → cW → Option (Int32 × cW)} (hrec14 : ∀ (a1 : Int32) (a2 : Int32) (w : cW), rec14 a1 a2 w = some (r, w') → V C w 0 0 14 [(0, va_rf (some b)), (1, .int a1), (2, .int a2)] []) : ∀ n : Nat, ∀ (a1 : Int32) (a2 : Int32) (a3 : Int32) (a4 : Int32) (w : cW), fM_placed_l27 b rec14 n a1 a2 a3 a4 w = some (r, w') → V C w 0 0 27 [(0, va_rf (some b)), (1, .int a1), (2, .int a2), (3, .int a3), (4, .int a4)] [] := by
  refine lp_P (P := fun (f : Int32 → Int32 → Int32 → Int32 → cW → Option (Int32 × cW)) => ∀ (a1 : Int32) (a2 : Int32) (a3 : Int32) (a4 : Int32) (w : cW), f a1 a2 a3 a4 w = some (r, w') → V C w 0 0 27 [(0, va_rf (some b)), (1, .int a1), (2, .int a2), (3, .int a3), (4, .int a4)] []) ?_ ?_
  · intro a1 a2 a3 a4 w hf
    cases hf
  · intro rec27 hrec27 a1 a2 a3 a4 w hf
    unfold fM_placed_b27 at hf
    refine v_iload (pc := 27) (i := 4) (x := a4) hC dM_placed_27 4 rfl ?_
    refine v_aload_n (pc := 29) (i := 0) (r := (some b)) hC dM_placed_29 rfl 0 rfl ?_
    refine v_getI (pc := 30) (r := (some b)) hC dM_placed_30 inM rfl 6 (by decide) q481 (Or.inl rfl) hf (fun x1 hf => ?_)
    refine v_icmp_ge (pc := 33) (tgt := 92) hC dM_placed_33 (by decide) hf (fun hf => ?_) (fun hf => ?_)
    · exact V.sub [0, 1, 2, 3] rfl (tM_placed_b92 hC hE hR hrec14 _ _ _ _ hf)
    · refine v_aload_n (pc := 36) (i := 0) (r := (some b)) hC dM_placed_36 rfl 0 rfl ?_
      refine v_iload (pc := 37) (i := 4) (x := a4) hC dM_placed_37 4 rfl ?_
      refine v_callV (pc := 39) (r := (some b)) (As := [.int a4]) (rest := []) (k' := 0) (n' := 0) (st1 := (fun yq => [.int yq])) hC dM_placed_39 q566 q568 p20 q7 q569 ykM_lives rfl rfl (fun bq rq wq hq => mM_lives _ _ bq a4 _ rq wq hq) (by rw [hR]; decide) (by simp only [List.map_cons, List.map_nil, va_cat]; exact Nat.le_of_ble_eq_true rfl) (by decide) (by rw [hR]; decide) hf rfl (fun _ => rfl) (fun x2 w3 hf => ?_)
      refine v_if_eq (pc := 42) (tgt := 86) hC dM_placed_42 (by decide) hf (fun hf => ?_) (fun hf => ?_)
      · refine v_iincB (pc := 86) (i := 4) (x := a4) (v := (1 : Int32)) hC dM_placed_86 4 rfl (by decide) (by decide) (fun x5 => [(4, .int x5), (0, va_rf (some b)), (1, .int a1), (2, .int a2), (3, .int a3)]) (fun _ => rfl) hf (fun x5 hf => ?_)
        refine v_goto (pc := 89) (tgt := 27) hC dM_placed_89 (by decide) ?_
        exact V.sub [1, 2, 3, 4, 0] rfl (hrec27 _ _ _ _ _ hf)
      · refine v_aload_n (pc := 45) (i := 0) (r := (some b)) hC dM_placed_45 rfl 0 rfl ?_
        refine v_getQ (pc := 46) (r := (some b)) hC dM_placed_46 inM rfl 1 (by decide) q476 (Or.inl rfl) hf (fun r6 hf => ?_)
        refine v_iload (pc := 49) (i := 4) (x := a4) hC dM_placed_49 4 rfl ?_
        refine v_iald (pc := 51) hC dM_placed_51 hf (fun x7 hf => ?_)
        refine v_aload_n (pc := 52) (i := 0) (r := (some b)) hC dM_placed_52 rfl 0 rfl ?_
        refine v_getQ (pc := 53) (r := (some b)) hC dM_placed_53 inM rfl 1 (by decide) q476 (Or.inl rfl) hf (fun r8 hf => ?_)
        refine v_iload_n (pc := 56) (i := 2) (x := a2) hC dM_placed_56 rfl 2 rfl ?_
        refine v_iald (pc := 57) hC dM_placed_57 hf (fun x9 hf => ?_)
        refine v_icmp_gt (pc := 58) (tgt := 83) hC dM_placed_58 (by decide) hf (fun hf => ?_) (fun hf => ?_)
        · refine v_iincB (pc := 83) (i := 3) (x := a3) (v := (1 : Int32)) hC dM_placed_83 3 rfl (by decide) (by decide) (fun x10 => [(3, .int x10), (0, va_rf (some b)), (1, .int a1), (2, .int a2), (4, .int a4)]) (fun _ => rfl) hf (fun x10 hf => ?_)
          refine v_iincB (pc := 86) (i := 4) (x := a4) (v := (1 : Int32)) hC dM_placed_86 4 rfl (by decide) (by decide) (fun x11 => [(4, .int x11), (3, .int x10), (0, va_rf (some b)), (1, .int a1), (2, .int a2)]) (fun _ => rfl) hf (fun x11 hf => ?_)
          refine v_goto (pc := 89) (tgt := 27) hC dM_placed_89 (by decide) ?_
          exact V.sub [2, 3, 4, 1, 0] rfl (hrec27 _ _ _ _ _ hf)
        · refine v_aload_n (pc := 61) (i := 0) (r := (some b)) hC dM_placed_61 rfl 0 rfl ?_
          refine v_getQ (pc := 62) (r := (some b)) hC dM_placed_62 inM rfl 1 (by decide) q476 (Or.inl rfl) hf (fun r12 hf => ?_)
          refine v_iload (pc := 65) (i := 4) (x := a4) hC dM_placed_65 4 rfl ?_
          refine v_iald (pc := 67) hC dM_placed_67 hf (fun x13 hf => ?_)
          refine v_aload_n (pc := 68) (i := 0) (r := (some b)) hC dM_placed_68 rfl 0 rfl ?_
          refine v_getQ (pc := 69) (r := (some b)) hC dM_placed_69 inM rfl 1 (by decide) q476 (Or.inl rfl) hf (fun r14 hf => ?_)
          refine v_iload_n (pc := 72) (i := 2) (x := a2) hC dM_placed_72 rfl 2 rfl ?_
          refine v_iald (pc := 73) hC dM_placed_73 hf (fun x15 hf => ?_)
          refine v_icmp_ne (pc := 74) (tgt := 86) hC dM_placed_74 (by decide) hf (fun hf => ?_) (fun hf => ?_)
          · refine v_iincB (pc := 86) (i := 4) (x := a4) (v := (1 : Int32)) hC dM_placed_86 4 rfl (by decide) (by decide) (fun x16 => [(4, .int x16), (0, va_rf (some b)), (1, .int a1), (2, .int a2), (3, .int a3)]) (fun _ => rfl) hf (fun x16 hf => ?_)
            refine v_goto (pc := 89) (tgt := 27) hC dM_placed_89 (by decide) ?_
            exact V.sub [1, 2, 3, 4, 0] rfl (hrec27 _ _ _ _ _ hf)
          · refine v_iload (pc := 77) (i := 4) (x := a4) hC dM_placed_77 4 rfl ?_
            refine v_iload_n (pc := 79) (i := 2) (x := a2) hC dM_placed_79 rfl 2 rfl ?_
            refine v_icmp_ge (pc := 80) (tgt := 86) hC dM_placed_80 (by decide) hf (fun hf => ?_) (fun hf => ?_)
            · refine v_iincB (pc := 86) (i := 4) (x := a4) (v := (1 : Int32)) hC dM_placed_86 4 rfl (by decide) (by decide) (fun x17 => [(4, .int x17), (0, va_rf (some b)), (1, .int a1), (2, .int a2), (3, .int a3)]) (fun _ => rfl) hf (fun x17 hf => ?_)
              refine v_goto (pc := 89) (tgt := 27) hC dM_placed_89 (by decide) ?_
              exact V.sub [1, 2, 3, 4, 0] rfl (hrec27 _ _ _ _ _ hf)
            · refine v_iincB (pc := 83) (i := 3) (x := a3) (v := (1 : Int32)) hC dM_placed_83 3 rfl (by decide) (by decide) (fun x18 => [(3, .int x18), (0, va_rf (some b)), (1, .int a1), (2, .int a2), (4, .int a4)]) (fun _ => rfl) hf (fun x18 hf => ?_)
              refine v_iincB (pc := 86) (i := 4) (x := a4) (v := (1 : Int32)) hC dM_placed_86 4 rfl (by decide) (by decide) (fun x19 => [(4, .int x19), (3, .int x18), (0, va_rf (some b)), (1, .int a1), (2, .int a2)]) (fun _ => rfl) hf (fun x19 hf => ?_)
              refine v_goto (pc := 89) (tgt := 27) hC dM_placed_89 (by decide) ?_
              exact V.sub [2, 3, 4, 1, 0] rfl (hrec27 _ _ _ _ _ hf)
set_option maxHeartbeats 4000000 in
set_option maxRecDepth 100000 in
theorem tM_placed_l14 {C : xC} {G : cG} {w0 w' : cW} {r : Int32} {b : Nat} (hC : okC C prog_7_method_16_code 5 "ArenaNetworkModel" lw_gd) (hE : xE C (some .int) mkI G w0 w' r) (hR : xR C = rmM_placed)  : ∀ n : Nat, ∀ (a1 : Int32) (a2 : Int32) (w : cW), fM_placed_l14 b n a1 a2 w = some (r, w') → V C w 0 0 14 [(0, va_rf (some b)), (1, .int a1), (2, .int a2)] [] := by
  refine lp_P (P := fun (f : Int32 → Int32 → cW → Option (Int32 × cW)) => ∀ (a1 : Int32) (a2 : Int32) (w : cW), f a1 a2 w = some (r, w') → V C w 0 0 14 [(0, va_rf (some b)), (1, .int a1), (2, .int a2)] []) ?_ ?_
  · intro a1 a2 w hf
    cases hf
  · intro rec14 hrec14 a1 a2 w hf
    unfold fM_placed_b14 at hf
    refine v_iload_n (pc := 14) (i := 2) (x := a2) hC dM_placed_14 rfl 2 rfl ?_
    refine v_aload_n (pc := 15) (i := 0) (r := (some b)) hC dM_placed_15 rfl 0 rfl ?_
    refine v_getI (pc := 16) (r := (some b)) hC dM_placed_16 inM rfl 6 (by decide) q481 (Or.inl rfl) hf (fun x1 hf => ?_)
    refine v_icmp_ge (pc := 19) (tgt := 113) hC dM_placed_19 (by decide) hf (fun hf => ?_) (fun hf => ?_)
    · refine v_iconst (pc := 113) (v := (-1 : Int32)) hC dM_placed_113 (by decide) ?_
      exact v_iret (pc := 114) hC hE dM_placed_114 (by rw [hR]; decide) (by rw [hR]; decide) hf
    · refine v_iconst (pc := 22) (v := (0 : Int32)) hC dM_placed_22 (by decide) ?_
      refine v_istore_n (pc := 23) (i := 3) (x := (0 : Int32)) hC dM_placed_23 rfl (by decide) [(3, .int (0 : Int32)), (0, va_rf (some b)), (1, .int a1), (2, .int a2)] rfl ?_
      refine v_iconst (pc := 24) (v := (0 : Int32)) hC dM_placed_24 (by decide) ?_
      refine v_istore (pc := 25) (i := 4) (x := (0 : Int32)) hC dM_placed_25 (by decide) [(4, .int (0 : Int32)), (3, .int (0 : Int32)), (0, va_rf (some b)), (1, .int a1), (2, .int a2)] rfl ?_
      exact V.sub [2, 3, 4, 1, 0] rfl (tM_placed_l27 hC hE hR hrec14 FU _ _ _ _ _ hf)
set_option maxHeartbeats 4000000 in
set_option maxRecDepth 100000 in
theorem tM_placed {C : xC} {G : cG} {w0 w' : cW} {r : Int32} {b : Nat} (hC : okC C prog_7_method_16_code 5 "ArenaNetworkModel" lw_gd) (hE : xE C (some .int) mkI G w0 w' r) (hR : xR C = rmM_placed) (a1 : Int32) (w : cW) (hf : fM_placed b a1 w = some (r, w')) : V C w 0 0 0 [(0, va_rf (some b)), (1, .int a1)] [] := by
  unfold fM_placed at hf
  refine v_iload_n (pc := 0) (i := 1) (x := a1) hC dM_placed_0 rfl 1 rfl ?_
  refine v_if_lt (pc := 1) (tgt := 10) hC dM_placed_1 (by decide) hf (fun hf => ?_) (fun hf => ?_)
  · refine v_iconst (pc := 10) (v := (-1 : Int32)) hC dM_placed_10 (by decide) ?_
    exact v_iret (pc := 11) hC hE dM_placed_11 (by rw [hR]; decide) (by rw [hR]; decide) hf
  · refine v_iload_n (pc := 4) (i := 1) (x := a1) hC dM_placed_4 rfl 1 rfl ?_
    refine v_bipush (pc := 5) (v := (20 : Int32)) hC dM_placed_5 (by decide) ?_
    refine v_icmp_lt (pc := 7) (tgt := 12) hC dM_placed_7 (by decide) hf (fun hf => ?_) (fun hf => ?_)
    · refine v_iconst (pc := 12) (v := (0 : Int32)) hC dM_placed_12 (by decide) ?_
      refine v_istore_n (pc := 13) (i := 2) (x := (0 : Int32)) hC dM_placed_13 rfl (by decide) [(2, .int (0 : Int32)), (0, va_rf (some b)), (1, .int a1)] rfl ?_
      exact V.sub [1, 2, 0] rfl (tM_placed_l14 hC hE hR  FU _ _ _ hf)
    · refine v_iconst (pc := 10) (v := (-1 : Int32)) hC dM_placed_10 (by decide) ?_
      exact v_iret (pc := 11) hC hE dM_placed_11 (by rw [hR]; decide) (by rw [hR]; decide) hf
theorem mM_placed (l : Launch) (G : cG) (b : Nat) (a1 : Int32) (w : cW) (r : Int32) (w' : cW) (hf : fM_placed b a1 w = some (r, w')) : Met l yM_placed (wsM yM_placed prog_7_method_16_code 5 (some .int)) rmM_placed (mP G w [va_rf (some b), .int a1]) (mQ mkI G w w' r) (rmM_placed).cells (rmM_placed).slots (Aw w) :=
  met_of (by decide +kernel) rfl (Nat.le_of_ble_eq_true rfl) (fun C hC hR _ _ _ hts hE => tM_placed (okC.tbl hC) hE hR a1 w hf)
set_option maxHeartbeats 4000000 in
set_option maxRecDepth 100000 in
theorem tM_prepare_b163 {C : xC} {G : cG} {w0 w' : cW} {r : Int32} {b : Nat} (hC : okC C prog_7_method_19_code 3 "ArenaNetworkModel" lw_gd) (hE : xE C (some .int) mkI G w0 w' r) (hR : xR C = rmM_prepare) {rec118 : Int32 → cW → Option (Int32 × cW)} (hrec118 : ∀ (a1 : Int32) (w : cW), rec118 a1 w = some (r, w') → V C w 0 0 118 [(0, va_rf (some b)), (1, .int a1)] []) (a1 : Int32) (a2 : Int32) (w : cW) (hf : fM_prepare_b163 b rec118 a1 a2 w = some (r, w')) : V C w 0 0 163 [(0, va_rf (some b)), (1, .int a1), (2, .int a2)] [] := by
  unfold fM_prepare_b163 at hf
  refine v_aload_n (pc := 163) (i := 0) (r := (some b)) hC dM_prepare_163 rfl 0 rfl ?_
  refine v_getQ (pc := 164) (r := (some b)) hC dM_prepare_164 inM rfl 16 (by decide) q491 (Or.inl rfl) hf (fun r1 hf => ?_)
  refine v_aload_n (pc := 167) (i := 0) (r := (some b)) hC dM_prepare_167 rfl 0 rfl ?_
  refine v_getQ (pc := 168) (r := (some b)) hC dM_prepare_168 inM rfl 17 (by decide) q492 (Or.inl rfl) hf (fun r2 hf => ?_)
  refine v_iload_n (pc := 171) (i := 1) (x := a1) hC dM_prepare_171 rfl 1 rfl ?_
  refine v_iald (pc := 172) hC dM_prepare_172 hf (fun x3 hf => ?_)
  refine v_iload_n (pc := 173) (i := 2) (x := a2) hC dM_prepare_173 rfl 2 rfl ?_
  refine v_iast (pc := 174) hC dM_prepare_174 hf (fun w4 hf => ?_)
  refine v_iincB (pc := 175) (i := 1) (x := a1) (v := (1 : Int32)) hC dM_prepare_175 1 rfl (by decide) (by decide) (fun x5 => [(1, .int x5), (0, va_rf (some b)), (2, .int a2)]) (fun _ => rfl) hf (fun x5 hf => ?_)
  refine v_goto (pc := 178) (tgt := 118) hC dM_prepare_178 (by decide) ?_
  exact V.sub [1, 0] rfl (hrec118 _ _ hf)
set_option maxHeartbeats 4000000 in
set_option maxRecDepth 100000 in
theorem tM_prepare_l135 {C : xC} {G : cG} {w0 w' : cW} {r : Int32} {b : Nat} (hC : okC C prog_7_method_19_code 3 "ArenaNetworkModel" lw_gd) (hE : xE C (some .int) mkI G w0 w' r) (hR : xR C = rmM_prepare) {rec118 : Int32 → cW → Option (Int32 × cW)} (hrec118 : ∀ (a1 : Int32) (w : cW), rec118 a1 w = some (r, w') → V C w 0 0 118 [(0, va_rf (some b)), (1, .int a1)] []) : ∀ n : Nat, ∀ (a1 : Int32) (a2 : Int32) (w : cW), fM_prepare_l135 b rec118 n a1 a2 w = some (r, w') → V C w 0 0 135 [(0, va_rf (some b)), (1, .int a1), (2, .int a2)] [] := by
  refine lp_P (P := fun (f : Int32 → Int32 → cW → Option (Int32 × cW)) => ∀ (a1 : Int32) (a2 : Int32) (w : cW), f a1 a2 w = some (r, w') → V C w 0 0 135 [(0, va_rf (some b)), (1, .int a1), (2, .int a2)] []) ?_ ?_
  · intro a1 a2 w hf
    cases hf
  · intro rec135 hrec135 a1 a2 w hf
    unfold fM_prepare_b135 at hf
    refine v_iload_n (pc := 135) (i := 2) (x := a2) hC dM_prepare_135 rfl 2 rfl ?_
    refine v_sipush (pc := 136) (v := (400 : Int32)) hC dM_prepare_136 (by decide) ?_
    refine v_icmp_ge (pc := 139) (tgt := 163) hC dM_prepare_139 (by decide) hf (fun hf => ?_) (fun hf => ?_)
    · exact V.sub [0, 1, 2] rfl (tM_prepare_b163 hC hE hR hrec118 _ _ _ hf)
    · refine v_aload_n (pc := 142) (i := 0) (r := (some b)) hC dM_prepare_142 rfl 0 rfl ?_
      refine v_aload_n (pc := 143) (i := 0) (r := (some b)) hC dM_prepare_143 rfl 0 rfl ?_
      refine v_getQ (pc := 144) (r := (some b)) hC dM_prepare_144 inM rfl 17 (by decide) q492 (Or.inl rfl) hf (fun r1 hf => ?_)
      refine v_iload_n (pc := 147) (i := 1) (x := a1) hC dM_prepare_147 rfl 1 rfl ?_
      refine v_iald (pc := 148) hC dM_prepare_148 hf (fun x2 hf => ?_)
      refine v_iload_n (pc := 149) (i := 2) (x := a2) hC dM_prepare_149 rfl 2 rfl ?_
      refine v_iload_n (pc := 150) (i := 1) (x := a1) hC dM_prepare_150 rfl 1 rfl ?_
      refine v_callV (pc := 151) (r := (some b)) (As := [.int x2, .int a2, .int a1]) (rest := []) (k' := 0) (n' := 0) (st1 := (fun yq => [.int yq])) hC dM_prepare_151 q591 q593 p25 q7 q594 ykM_apart rfl rfl (fun bq rq wq hq => mM_apart _ _ bq x2 a2 a1 _ rq wq hq) (by rw [hR]; decide) (by simp only [List.map_cons, List.map_nil, va_cat]; exact Nat.le_of_ble_eq_true rfl) (by decide) (by rw [hR]; decide) hf rfl (fun _ => rfl) (fun x3 w4 hf => ?_)
      refine v_if_ne (pc := 154) (tgt := 163) hC dM_prepare_154 (by decide) hf (fun hf => ?_) (fun hf => ?_)
      · exact V.sub [0, 1, 2] rfl (tM_prepare_b163 hC hE hR hrec118 _ _ _ hf)
      · refine v_iincB (pc := 157) (i := 2) (x := a2) (v := (4 : Int32)) hC dM_prepare_157 2 rfl (by decide) (by decide) (fun x6 => [(2, .int x6), (0, va_rf (some b)), (1, .int a1)]) (fun _ => rfl) hf (fun x6 hf => ?_)
        refine v_goto (pc := 160) (tgt := 135) hC dM_prepare_160 (by decide) ?_
        exact V.sub [1, 2, 0] rfl (hrec135 _ _ _ hf)
set_option maxHeartbeats 4000000 in
set_option maxRecDepth 100000 in
theorem tM_prepare_l118 {C : xC} {G : cG} {w0 w' : cW} {r : Int32} {b : Nat} (hC : okC C prog_7_method_19_code 3 "ArenaNetworkModel" lw_gd) (hE : xE C (some .int) mkI G w0 w' r) (hR : xR C = rmM_prepare)  : ∀ n : Nat, ∀ (a1 : Int32) (w : cW), fM_prepare_l118 b n a1 w = some (r, w') → V C w 0 0 118 [(0, va_rf (some b)), (1, .int a1)] [] := by
  refine lp_P (P := fun (f : Int32 → cW → Option (Int32 × cW)) => ∀ (a1 : Int32) (w : cW), f a1 w = some (r, w') → V C w 0 0 118 [(0, va_rf (some b)), (1, .int a1)] []) ?_ ?_
  · intro a1 w hf
    cases hf
  · intro rec118 hrec118 a1 w hf
    unfold fM_prepare_b118 at hf
    refine v_iload_n (pc := 118) (i := 1) (x := a1) hC dM_prepare_118 rfl 1 rfl ?_
    refine v_bipush (pc := 119) (v := (20 : Int32)) hC dM_prepare_119 (by decide) ?_
    refine v_icmp_ge (pc := 121) (tgt := 181) hC dM_prepare_121 (by decide) hf (fun hf => ?_) (fun hf => ?_)
    · refine v_aload_n (pc := 181) (i := 0) (r := (some b)) hC dM_prepare_181 rfl 0 rfl ?_
      refine v_callV (pc := 182) (r := (some b)) (As := []) (rest := []) (k' := 0) (n' := 0) (st1 := (fun yq => [.int yq])) hC dM_prepare_182 q603 q605 p28 q7 q606 ykM_arena rfl rfl (fun bq rq wq hq => mM_arena _ _ bq  _ rq wq hq) (by rw [hR]; decide) (by simp only [List.map_cons, List.map_nil, va_cat]; exact Nat.le_of_ble_eq_true rfl) (by decide) (by rw [hR]; decide) hf rfl (fun _ => rfl) (fun x1 w2 hf => ?_)
      exact v_iret (pc := 185) hC hE dM_prepare_185 (by rw [hR]; decide) (by rw [hR]; decide) hf
    · refine v_aload_n (pc := 124) (i := 0) (r := (some b)) hC dM_prepare_124 rfl 0 rfl ?_
      refine v_getQ (pc := 125) (r := (some b)) hC dM_prepare_125 inM rfl 17 (by decide) q492 (Or.inl rfl) hf (fun r4 hf => ?_)
      refine v_iload_n (pc := 128) (i := 1) (x := a1) hC dM_prepare_128 rfl 1 rfl ?_
      refine v_iald (pc := 129) hC dM_prepare_129 hf (fun x5 hf => ?_)
      refine v_if_lt (pc := 130) (tgt := 175) hC dM_prepare_130 (by decide) hf (fun hf => ?_) (fun hf => ?_)
      · refine v_iincB (pc := 175) (i := 1) (x := a1) (v := (1 : Int32)) hC dM_prepare_175 1 rfl (by decide) (by decide) (fun x6 => [(1, .int x6), (0, va_rf (some b))]) (fun _ => rfl) hf (fun x6 hf => ?_)
        refine v_goto (pc := 178) (tgt := 118) hC dM_prepare_178 (by decide) ?_
        exact V.sub [1, 0] rfl (hrec118 _ _ hf)
      · refine v_iconst (pc := 133) (v := (0 : Int32)) hC dM_prepare_133 (by decide) ?_
        refine v_istore_n (pc := 134) (i := 2) (x := (0 : Int32)) hC dM_prepare_134 rfl (by decide) [(2, .int (0 : Int32)), (0, va_rf (some b)), (1, .int a1)] rfl ?_
        exact V.sub [1, 2, 0] rfl (tM_prepare_l135 hC hE hR hrec118 FU _ _ _ hf)
set_option maxHeartbeats 4000000 in
set_option maxRecDepth 100000 in
theorem tM_prepare_l93 {C : xC} {G : cG} {w0 w' : cW} {r : Int32} {b : Nat} (hC : okC C prog_7_method_19_code 3 "ArenaNetworkModel" lw_gd) (hE : xE C (some .int) mkI G w0 w' r) (hR : xR C = rmM_prepare)  : ∀ n : Nat, ∀ (a1 : Int32) (w : cW), fM_prepare_l93 b n a1 w = some (r, w') → V C w 0 0 93 [(0, va_rf (some b)), (1, .int a1)] [] := by
  refine lp_P (P := fun (f : Int32 → cW → Option (Int32 × cW)) => ∀ (a1 : Int32) (w : cW), f a1 w = some (r, w') → V C w 0 0 93 [(0, va_rf (some b)), (1, .int a1)] []) ?_ ?_
  · intro a1 w hf
    cases hf
  · intro rec93 hrec93 a1 w hf
    unfold fM_prepare_b93 at hf
    refine v_iload_n (pc := 93) (i := 1) (x := a1) hC dM_prepare_93 rfl 1 rfl ?_
    refine v_bipush (pc := 94) (v := (20 : Int32)) hC dM_prepare_94 (by decide) ?_
    refine v_icmp_ge (pc := 96) (tgt := 116) hC dM_prepare_96 (by decide) hf (fun hf => ?_) (fun hf => ?_)
    · refine v_iconst (pc := 116) (v := (0 : Int32)) hC dM_prepare_116 (by decide) ?_
      refine v_istore_n (pc := 117) (i := 1) (x := (0 : Int32)) hC dM_prepare_117 rfl (by decide) [(1, .int (0 : Int32)), (0, va_rf (some b))] rfl ?_
      exact V.sub [1, 0] rfl (tM_prepare_l118 hC hE hR  FU _ _ hf)
    · refine v_aload_n (pc := 99) (i := 0) (r := (some b)) hC dM_prepare_99 rfl 0 rfl ?_
      refine v_getQ (pc := 100) (r := (some b)) hC dM_prepare_100 inM rfl 17 (by decide) q492 (Or.inl rfl) hf (fun r1 hf => ?_)
      refine v_iload_n (pc := 103) (i := 1) (x := a1) hC dM_prepare_103 rfl 1 rfl ?_
      refine v_aload_n (pc := 104) (i := 0) (r := (some b)) hC dM_prepare_104 rfl 0 rfl ?_
      refine v_iload_n (pc := 105) (i := 1) (x := a1) hC dM_prepare_105 rfl 1 rfl ?_
      refine v_callV (pc := 106) (r := (some b)) (As := [.int a1]) (rest := [.int a1, va_rf r1]) (k' := 0) (n' := 0) (st1 := (fun yq => [.int yq, .int a1, va_rf r1])) hC dM_prepare_106 q590 q563 q564 q7 q565 ykM_placed rfl rfl (fun bq rq wq hq => mM_placed _ _ bq a1 _ rq wq hq) (by rw [hR]; decide) (by simp only [List.map_cons, List.map_nil, va_cat]; exact Nat.le_of_ble_eq_true rfl) (by decide) (by rw [hR]; decide) hf rfl (fun _ => rfl) (fun x2 w3 hf => ?_)
      refine v_iast (pc := 109) hC dM_prepare_109 hf (fun w5 hf => ?_)
      refine v_iincB (pc := 110) (i := 1) (x := a1) (v := (1 : Int32)) hC dM_prepare_110 1 rfl (by decide) (by decide) (fun x6 => [(1, .int x6), (0, va_rf (some b))]) (fun _ => rfl) hf (fun x6 hf => ?_)
      refine v_goto (pc := 113) (tgt := 93) hC dM_prepare_113 (by decide) ?_
      exact V.sub [1, 0] rfl (hrec93 _ _ hf)
set_option maxHeartbeats 4000000 in
set_option maxRecDepth 100000 in
theorem tM_prepare_b86 {C : xC} {G : cG} {w0 w' : cW} {r : Int32} {b : Nat} (hC : okC C prog_7_method_19_code 3 "ArenaNetworkModel" lw_gd) (hE : xE C (some .int) mkI G w0 w' r) (hR : xR C = rmM_prepare)   (w : cW) (hf : fM_prepare_b86 b w = some (r, w')) : V C w 0 0 86 [(0, va_rf (some b))] [] := by
  unfold fM_prepare_b86 at hf
  refine v_aload_n (pc := 86) (i := 0) (r := (some b)) hC dM_prepare_86 rfl 0 rfl ?_
  refine v_iconst (pc := 87) (v := (1 : Int32)) hC dM_prepare_87 (by decide) ?_
  refine v_putZ (pc := 88) (r := (some b)) hC dM_prepare_88 inM rfl tyM tkM nmM 15 (by decide) q490 (Or.inl rfl) rfl (tkM 15 (by decide)) hf (fun w1 hf => ?_)
  refine v_iconst (pc := 91) (v := (0 : Int32)) hC dM_prepare_91 (by decide) ?_
  refine v_istore_n (pc := 92) (i := 1) (x := (0 : Int32)) hC dM_prepare_92 rfl (by decide) [(1, .int (0 : Int32)), (0, va_rf (some b))] rfl ?_
  exact V.sub [1, 0] rfl (tM_prepare_l93 hC hE hR  FU _ _ hf)
set_option maxHeartbeats 4000000 in
set_option maxRecDepth 100000 in
theorem tM_prepare_l47 {C : xC} {G : cG} {w0 w' : cW} {r : Int32} {b : Nat} (hC : okC C prog_7_method_19_code 3 "ArenaNetworkModel" lw_gd) (hE : xE C (some .int) mkI G w0 w' r) (hR : xR C = rmM_prepare)  : ∀ n : Nat, ∀ (a1 : Int32) (w : cW), fM_prepare_l47 b n a1 w = some (r, w') → V C w 0 0 47 [(0, va_rf (some b)), (1, .int a1)] [] := by
  refine lp_P (P := fun (f : Int32 → cW → Option (Int32 × cW)) => ∀ (a1 : Int32) (w : cW), f a1 w = some (r, w') → V C w 0 0 47 [(0, va_rf (some b)), (1, .int a1)] []) ?_ ?_
  · intro a1 w hf
    cases hf
  · intro rec47 hrec47 a1 w hf
    unfold fM_prepare_b47 at hf
    refine v_iload_n (pc := 47) (i := 1) (x := a1) hC dM_prepare_47 rfl 1 rfl ?_
    refine v_aload_n (pc := 48) (i := 0) (r := (some b)) hC dM_prepare_48 rfl 0 rfl ?_
    refine v_getI (pc := 49) (r := (some b)) hC dM_prepare_49 inM rfl 6 (by decide) q481 (Or.inl rfl) hf (fun x1 hf => ?_)
    refine v_icmp_ge (pc := 52) (tgt := 86) hC dM_prepare_52 (by decide) hf (fun hf => ?_) (fun hf => ?_)
    · exact V.sub [0] rfl (tM_prepare_b86 hC hE hR  _ hf)
    · refine v_aload_n (pc := 55) (i := 0) (r := (some b)) hC dM_prepare_55 rfl 0 rfl ?_
      refine v_getQ (pc := 56) (r := (some b)) hC dM_prepare_56 inM rfl 3 (by decide) q478 (Or.inl rfl) hf (fun r2 hf => ?_)
      refine v_iload_n (pc := 59) (i := 1) (x := a1) hC dM_prepare_59 rfl 1 rfl ?_
      refine v_zald (pc := 60) hC dM_prepare_60 hf (fun x3 hf => ?_)
      refine v_if_eq (pc := 61) (tgt := 80) hC dM_prepare_61 (by decide) hf (fun hf => ?_) (fun hf => ?_)
      · refine v_iincB (pc := 80) (i := 1) (x := a1) (v := (1 : Int32)) hC dM_prepare_80 1 rfl (by decide) (by decide) (fun x4 => [(1, .int x4), (0, va_rf (some b))]) (fun _ => rfl) hf (fun x4 hf => ?_)
        refine v_goto (pc := 83) (tgt := 47) hC dM_prepare_83 (by decide) ?_
        exact V.sub [1, 0] rfl (hrec47 _ _ hf)
      · refine v_aload_n (pc := 64) (i := 0) (r := (some b)) hC dM_prepare_64 rfl 0 rfl ?_
        refine v_iload_n (pc := 65) (i := 1) (x := a1) hC dM_prepare_65 rfl 1 rfl ?_
        refine v_aload_n (pc := 66) (i := 0) (r := (some b)) hC dM_prepare_66 rfl 0 rfl ?_
        refine v_getI (pc := 67) (r := (some b)) hC dM_prepare_67 inM rfl 14 (by decide) q489 (Or.inl rfl) hf (fun x5 hf => ?_)
        refine v_callV (pc := 70) (r := (some b)) (As := [.int a1, .int x5]) (rest := []) (k' := 0) (n' := 0) (st1 := (fun yq => [.int yq])) hC dM_prepare_70 q582 q584 p23 q7 q585 ykM_unmade rfl rfl (fun bq rq wq hq => mM_unmade _ _ bq a1 x5 _ rq wq hq) (by rw [hR]; decide) (by simp only [List.map_cons, List.map_nil, va_cat]; exact Nat.le_of_ble_eq_true rfl) (by decide) (by rw [hR]; decide) hf rfl (fun _ => rfl) (fun x6 w7 hf => ?_)
        refine v_if_eq (pc := 73) (tgt := 80) hC dM_prepare_73 (by decide) hf (fun hf => ?_) (fun hf => ?_)
        · refine v_iincB (pc := 80) (i := 1) (x := a1) (v := (1 : Int32)) hC dM_prepare_80 1 rfl (by decide) (by decide) (fun x9 => [(1, .int x9), (0, va_rf (some b))]) (fun _ => rfl) hf (fun x9 hf => ?_)
          refine v_goto (pc := 83) (tgt := 47) hC dM_prepare_83 (by decide) ?_
          exact V.sub [1, 0] rfl (hrec47 _ _ hf)
        · refine v_sipush (pc := 76) (v := (-1000 : Int32)) hC dM_prepare_76 (by decide) ?_
          exact v_iret (pc := 79) hC hE dM_prepare_79 (by rw [hR]; decide) (by rw [hR]; decide) hf
set_option maxHeartbeats 4000000 in
set_option maxRecDepth 100000 in
theorem tM_prepare_b30 {C : xC} {G : cG} {w0 w' : cW} {r : Int32} {b : Nat} (hC : okC C prog_7_method_19_code 3 "ArenaNetworkModel" lw_gd) (hE : xE C (some .int) mkI G w0 w' r) (hR : xR C = rmM_prepare)  (a1 : Int32) (a2 : Int32) (w : cW) (hf : fM_prepare_b30 b a1 a2 w = some (r, w')) : V C w 0 0 30 [(1, .int a1), (2, .int a2)] [] := by
  unfold fM_prepare_b30 at hf
  refine v_bipush (pc := 30) (v := (-10 : Int32)) hC dM_prepare_30 (by decide) ?_
  refine v_iload_n (pc := 32) (i := 1) (x := a1) hC dM_prepare_32 rfl 0 rfl ?_
  refine v_iconst (pc := 33) (v := (1 : Int32)) hC dM_prepare_33 (by decide) ?_
  refine v_iadd (pc := 34) hC dM_prepare_34 ?_
  refine v_imul (pc := 35) hC dM_prepare_35 ?_
  refine v_iload_n (pc := 36) (i := 2) (x := a2) hC dM_prepare_36 rfl 1 rfl ?_
  refine v_isub (pc := 37) hC dM_prepare_37 ?_
  exact v_iret (pc := 38) hC hE dM_prepare_38 (by rw [hR]; decide) (by rw [hR]; decide) hf
set_option maxHeartbeats 4000000 in
set_option maxRecDepth 100000 in
theorem tM_prepare_l12 {C : xC} {G : cG} {w0 w' : cW} {r : Int32} {b : Nat} (hC : okC C prog_7_method_19_code 3 "ArenaNetworkModel" lw_gd) (hE : xE C (some .int) mkI G w0 w' r) (hR : xR C = rmM_prepare)  : ∀ n : Nat, ∀ (a1 : Int32) (w : cW), fM_prepare_l12 b n a1 w = some (r, w') → V C w 0 0 12 [(0, va_rf (some b)), (1, .int a1)] [] := by
  refine lp_P (P := fun (f : Int32 → cW → Option (Int32 × cW)) => ∀ (a1 : Int32) (w : cW), f a1 w = some (r, w') → V C w 0 0 12 [(0, va_rf (some b)), (1, .int a1)] []) ?_ ?_
  · intro a1 w hf
    cases hf
  · intro rec12 hrec12 a1 w hf
    unfold fM_prepare_b12 at hf
    refine v_iload_n (pc := 12) (i := 1) (x := a1) hC dM_prepare_12 rfl 1 rfl ?_
    refine v_aload_n (pc := 13) (i := 0) (r := (some b)) hC dM_prepare_13 rfl 0 rfl ?_
    refine v_getI (pc := 14) (r := (some b)) hC dM_prepare_14 inM rfl 14 (by decide) q489 (Or.inl rfl) hf (fun x1 hf => ?_)
    refine v_icmp_ge (pc := 17) (tgt := 45) hC dM_prepare_17 (by decide) hf (fun hf => ?_) (fun hf => ?_)
    · refine v_iconst (pc := 45) (v := (0 : Int32)) hC dM_prepare_45 (by decide) ?_
      refine v_istore_n (pc := 46) (i := 1) (x := (0 : Int32)) hC dM_prepare_46 rfl (by decide) [(1, .int (0 : Int32)), (0, va_rf (some b))] rfl ?_
      exact V.sub [1, 0] rfl (tM_prepare_l47 hC hE hR  FU _ _ hf)
    · refine v_aload_n (pc := 20) (i := 0) (r := (some b)) hC dM_prepare_20 rfl 0 rfl ?_
      refine v_iload_n (pc := 21) (i := 1) (x := a1) hC dM_prepare_21 rfl 1 rfl ?_
      refine v_callV (pc := 22) (r := (some b)) (As := [.int a1]) (rest := []) (k' := 0) (n' := 0) (st1 := (fun yq => [.int yq])) hC dM_prepare_22 q578 q580 p22 q7 q581 ykM_fault rfl rfl (fun bq rq wq hq => mM_fault _ _ bq a1 _ rq wq hq) (by rw [hR]; decide) (by simp only [List.map_cons, List.map_nil, va_cat]; exact Nat.le_of_ble_eq_true rfl) (by decide) (by rw [hR]; decide) hf rfl (fun _ => rfl) (fun x2 w3 hf => ?_)
      refine v_istore_n (pc := 25) (i := 2) (x := x2) hC dM_prepare_25 rfl (by decide) [(2, .int x2), (0, va_rf (some b)), (1, .int a1)] rfl ?_
      refine v_iload_n (pc := 26) (i := 2) (x := x2) hC dM_prepare_26 rfl 0 rfl ?_
      refine v_if_le (pc := 27) (tgt := 39) hC dM_prepare_27 (by decide) hf (fun hf => ?_) (fun hf => ?_)
      · refine v_iincB (pc := 39) (i := 1) (x := a1) (v := (1 : Int32)) hC dM_prepare_39 2 rfl (by decide) (by decide) (fun x5 => [(1, .int x5), (2, .int x2), (0, va_rf (some b))]) (fun _ => rfl) hf (fun x5 hf => ?_)
        refine v_goto (pc := 42) (tgt := 12) hC dM_prepare_42 (by decide) ?_
        exact V.sub [2, 0] rfl (hrec12 _ _ hf)
      · exact V.sub [2, 0] rfl (tM_prepare_b30 hC hE hR  _ _ _ hf)
set_option maxHeartbeats 4000000 in
set_option maxRecDepth 100000 in
theorem tM_prepare {C : xC} {G : cG} {w0 w' : cW} {r : Int32} {b : Nat} (hC : okC C prog_7_method_19_code 3 "ArenaNetworkModel" lw_gd) (hE : xE C (some .int) mkI G w0 w' r) (hR : xR C = rmM_prepare)  (w : cW) (hf : fM_prepare b w = some (r, w')) : V C w 0 0 0 [(0, va_rf (some b))] [] := by
  unfold fM_prepare at hf
  refine v_aload_n (pc := 0) (i := 0) (r := (some b)) hC dM_prepare_0 rfl 0 rfl ?_
  refine v_getI (pc := 1) (r := (some b)) hC dM_prepare_1 inM rfl 15 (by decide) q490 (Or.inl rfl) hf (fun x1 hf => ?_)
  refine v_if_eq (pc := 4) (tgt := 10) hC dM_prepare_4 (by decide) hf (fun hf => ?_) (fun hf => ?_)
  · refine v_iconst (pc := 10) (v := (0 : Int32)) hC dM_prepare_10 (by decide) ?_
    refine v_istore_n (pc := 11) (i := 1) (x := (0 : Int32)) hC dM_prepare_11 rfl (by decide) [(1, .int (0 : Int32)), (0, va_rf (some b))] rfl ?_
    exact V.sub [1, 0] rfl (tM_prepare_l12 hC hE hR  FU _ _ hf)
  · refine v_bipush (pc := 7) (v := (-3 : Int32)) hC dM_prepare_7 (by decide) ?_
    exact v_iret (pc := 9) hC hE dM_prepare_9 (by rw [hR]; decide) (by rw [hR]; decide) hf
theorem mM_prepare (l : Launch) (G : cG) (b : Nat)  (w : cW) (r : Int32) (w' : cW) (hf : fM_prepare b w = some (r, w')) : Met l yM_prepare (wsM yM_prepare prog_7_method_19_code 3 (some .int)) rmM_prepare (mP G w [va_rf (some b)]) (mQ mkI G w w' r) (rmM_prepare).cells (rmM_prepare).slots (Aw w) :=
  met_of (by decide +kernel) rfl (Nat.le_of_ble_eq_true rfl) (fun C hC hR _ _ _ hts hE => tM_prepare (okC.tbl hC) hE hR  w hf)
set_option maxHeartbeats 4000000 in
set_option maxRecDepth 100000 in
theorem tM_made_b98 {C : xC} {G : cG} {w0 w' : cW} {r : Int32} {b : Nat} (hC : okC C prog_7_method_27_code 10 "ArenaNetworkModel" lw_gd) (hE : xE C (some .int) mkI G w0 w' r) (hR : xR C = rmM_made)  (a5 : Int32) (a6 : Int32) (a8 : Int32) (w : cW) (hf : fM_made_b98 b a5 a6 a8 w = some (r, w')) : V C w 0 0 98 [(0, va_rf (some b)), (5, .int a5), (6, .int a6), (8, .int a8)] [] := by
  unfold fM_made_b98 at hf
  refine v_aload_n (pc := 98) (i := 0) (r := (some b)) hC dM_made_98 rfl 0 rfl ?_
  refine v_iload (pc := 99) (i := 5) (x := a5) hC dM_made_99 1 rfl ?_
  refine v_aload_n (pc := 101) (i := 0) (r := (some b)) hC dM_made_101 rfl 0 rfl ?_
  refine v_iload (pc := 102) (i := 6) (x := a6) hC dM_made_102 2 rfl ?_
  refine v_iload (pc := 104) (i := 8) (x := a8) hC dM_made_104 3 rfl ?_
  refine v_callV (pc := 106) (r := (some b)) (As := [.int a6, .int a8]) (rest := [.int a5, va_rf (some b)]) (k' := 0) (n' := 0) (st1 := (fun yq => [.int yq, .int a5, va_rf (some b)])) hC dM_made_106 q627 q629 p31 q7 q630 ykM_scaling rfl rfl (fun bq rq wq hq => mM_scaling _ _ bq a6 a8 _ rq wq hq) (by rw [hR]; decide) (by simp only [List.map_cons, List.map_nil, va_cat]; exact Nat.le_of_ble_eq_true rfl) (by decide) (by rw [hR]; decide) hf rfl (fun _ => rfl) (fun x1 w2 hf => ?_)
  refine v_iadd (pc := 109) hC dM_made_109 ?_
  refine v_callV (pc := 110) (r := (some b)) (As := [.int (a5 + x1)]) (rest := []) (k' := 0) (n' := 0) (st1 := (fun yq => [.int yq])) hC dM_made_110 q637 q639 p33 q7 q640 ykM_clamped rfl rfl (fun bq rq wq hq => mM_clamped _ _ bq (a5 + x1) _ rq wq hq) (by rw [hR]; decide) (by simp only [List.map_cons, List.map_nil, va_cat]; exact Nat.le_of_ble_eq_true rfl) (by decide) (by rw [hR]; decide) hf rfl (fun _ => rfl) (fun x4 w5 hf => ?_)
  exact v_iret (pc := 113) hC hE dM_made_113 (by rw [hR]; decide) (by rw [hR]; decide) hf
set_option maxHeartbeats 4000000 in
set_option maxRecDepth 100000 in
theorem tM_made_l59 {C : xC} {G : cG} {w0 w' : cW} {r : Int32} {b : Nat} (hC : okC C prog_7_method_27_code 10 "ArenaNetworkModel" lw_gd) (hE : xE C (some .int) mkI G w0 w' r) (hR : xR C = rmM_made)  : ∀ n : Nat, ∀ (a2 : Int32) (a3 : Int32) (a4 : Int32) (a5 : Int32) (a6 : Int32) (a7 : Int32) (a8 : Int32) (a9 : Int32) (w : cW), fM_made_l59 b n a2 a3 a4 a5 a6 a7 a8 a9 w = some (r, w') → V C w 0 0 59 [(0, va_rf (some b)), (2, .int a2), (3, .int a3), (4, .int a4), (5, .int a5), (6, .int a6), (7, .int a7), (8, .int a8), (9, .int a9)] [] := by
  refine lp_P (P := fun (f : Int32 → Int32 → Int32 → Int32 → Int32 → Int32 → Int32 → Int32 → cW → Option (Int32 × cW)) => ∀ (a2 : Int32) (a3 : Int32) (a4 : Int32) (a5 : Int32) (a6 : Int32) (a7 : Int32) (a8 : Int32) (a9 : Int32) (w : cW), f a2 a3 a4 a5 a6 a7 a8 a9 w = some (r, w') → V C w 0 0 59 [(0, va_rf (some b)), (2, .int a2), (3, .int a3), (4, .int a4), (5, .int a5), (6, .int a6), (7, .int a7), (8, .int a8), (9, .int a9)] []) ?_ ?_
  · intro a2 a3 a4 a5 a6 a7 a8 a9 w hf
    cases hf
  · intro rec59 hrec59 a2 a3 a4 a5 a6 a7 a8 a9 w hf
    unfold fM_made_b59 at hf
    refine v_iload (pc := 59) (i := 9) (x := a9) hC dM_made_59 8 rfl ?_
    refine v_iload (pc := 61) (i := 7) (x := a7) hC dM_made_61 6 rfl ?_
    refine v_icmp_ge (pc := 63) (tgt := 98) hC dM_made_63 (by decide) hf (fun hf => ?_) (fun hf => ?_)
    · exact V.sub [0, 4, 5, 7] rfl (tM_made_b98 hC hE hR  _ _ _ _ hf)
    · refine v_iload (pc := 66) (i := 8) (x := a8) hC dM_made_66 7 rfl ?_
      refine v_aload_n (pc := 68) (i := 0) (r := (some b)) hC dM_made_68 rfl 0 rfl ?_
      refine v_iload_n (pc := 69) (i := 3) (x := a3) hC dM_made_69 rfl 2 rfl ?_
      refine v_iload (pc := 70) (i := 9) (x := a9) hC dM_made_70 8 rfl ?_
      refine v_callV (pc := 72) (r := (some b)) (As := [.int a3, .int a9]) (rest := [.int a8]) (k' := 0) (n' := 0) (st1 := (fun yq => [.int yq, .int a8])) hC dM_made_72 q623 q625 p30 q7 q626 ykM_difference rfl rfl (fun bq rq wq hq => mM_difference _ _ bq a3 a9 _ rq wq hq) (by rw [hR]; decide) (by simp only [List.map_cons, List.map_nil, va_cat]; exact Nat.le_of_ble_eq_true rfl) (by decide) (by rw [hR]; decide) hf rfl (fun _ => rfl) (fun x1 w2 hf => ?_)
      refine v_aload_n (pc := 75) (i := 0) (r := (some b)) hC dM_made_75 rfl 0 rfl ?_
      refine v_iload (pc := 76) (i := 4) (x := a4) hC dM_made_76 3 rfl ?_
      refine v_iload_n (pc := 78) (i := 2) (x := a2) hC dM_made_78 rfl 1 rfl ?_
      refine v_iload (pc := 79) (i := 7) (x := a7) hC dM_made_79 6 rfl ?_
      refine v_imul (pc := 81) hC dM_made_81 ?_
      refine v_iload (pc := 82) (i := 9) (x := a9) hC dM_made_82 8 rfl ?_
      refine v_iadd (pc := 84) hC dM_made_84 ?_
      refine v_callV (pc := 85) (r := (some b)) (As := [.int a4, .int ((a2 * a7) + a9)]) (rest := [.int x1, .int a8]) (k' := 0) (n' := 0) (st1 := (fun yq => [.int yq, .int x1, .int a8])) hC dM_made_85 q623 q625 p30 q7 q626 ykM_difference rfl rfl (fun bq rq wq hq => mM_difference _ _ bq a4 ((a2 * a7) + a9) _ rq wq hq) (by rw [hR]; decide) (by simp only [List.map_cons, List.map_nil, va_cat]; exact Nat.le_of_ble_eq_true rfl) (by decide) (by rw [hR]; decide) hf rfl (fun _ => rfl) (fun x4 w5 hf => ?_)
      refine v_imul (pc := 88) hC dM_made_88 ?_
      refine v_iadd (pc := 89) hC dM_made_89 ?_
      refine v_bndi hf (fun x7 hf => ?_)
      refine v_istore (pc := 90) (i := 8) (x := x7) hC dM_made_90 (by decide) [(8, .int x7), (0, va_rf (some b)), (2, .int a2), (3, .int a3), (4, .int a4), (5, .int a5), (6, .int a6), (7, .int a7), (9, .int a9)] rfl ?_
      refine v_iincB (pc := 92) (i := 9) (x := a9) (v := (1 : Int32)) hC dM_made_92 8 rfl (by decide) (by decide) (fun x8 => [(9, .int x8), (8, .int x7), (0, va_rf (some b)), (2, .int a2), (3, .int a3), (4, .int a4), (5, .int a5), (6, .int a6), (7, .int a7)]) (fun _ => rfl) hf (fun x8 hf => ?_)
      refine v_goto (pc := 95) (tgt := 59) hC dM_made_95 (by decide) ?_
      exact V.sub [2, 3, 4, 5, 6, 7, 8, 1, 0] rfl (hrec59 _ _ _ _ _ _ _ _ _ hf)
set_option maxHeartbeats 4000000 in
set_option maxRecDepth 100000 in
theorem tM_made {C : xC} {G : cG} {w0 w' : cW} {r : Int32} {b : Nat} (hC : okC C prog_7_method_27_code 10 "ArenaNetworkModel" lw_gd) (hE : xE C (some .int) mkI G w0 w' r) (hR : xR C = rmM_made) (a1 : Int32) (a2 : Int32) (w : cW) (hf : fM_made b a1 a2 w = some (r, w')) : V C w 0 0 0 [(0, va_rf (some b)), (1, .int a1), (2, .int a2)] [] := by
  unfold fM_made at hf
  refine v_aload_n (pc := 0) (i := 0) (r := (some b)) hC dM_made_0 rfl 0 rfl ?_
  refine v_getQ (pc := 1) (r := (some b)) hC dM_made_1 inM rfl 10 (by decide) q485 (Or.inl rfl) hf (fun r1 hf => ?_)
  refine v_iload_n (pc := 4) (i := 1) (x := a1) hC dM_made_4 rfl 1 rfl ?_
  refine v_iald (pc := 5) hC dM_made_5 hf (fun x2 hf => ?_)
  refine v_istore_n (pc := 6) (i := 3) (x := x2) hC dM_made_6 rfl (by decide) [(3, .int x2), (0, va_rf (some b)), (1, .int a1), (2, .int a2)] rfl ?_
  refine v_aload_n (pc := 7) (i := 0) (r := (some b)) hC dM_made_7 rfl 1 rfl ?_
  refine v_getQ (pc := 8) (r := (some b)) hC dM_made_8 inM rfl 11 (by decide) q486 (Or.inl rfl) hf (fun r3 hf => ?_)
  refine v_iload_n (pc := 11) (i := 1) (x := a1) hC dM_made_11 rfl 2 rfl ?_
  refine v_iald (pc := 12) hC dM_made_12 hf (fun x4 hf => ?_)
  refine v_istore (pc := 13) (i := 4) (x := x4) hC dM_made_13 (by decide) [(4, .int x4), (3, .int x2), (0, va_rf (some b)), (1, .int a1), (2, .int a2)] rfl ?_
  refine v_aload_n (pc := 15) (i := 0) (r := (some b)) hC dM_made_15 rfl 2 rfl ?_
  refine v_getQ (pc := 16) (r := (some b)) hC dM_made_16 inM rfl 2 (by decide) q477 (Or.inl rfl) hf (fun r5 hf => ?_)
  refine v_aload_n (pc := 19) (i := 0) (r := (some b)) hC dM_made_19 rfl 2 rfl ?_
  refine v_getQ (pc := 20) (r := (some b)) hC dM_made_20 inM rfl 12 (by decide) q487 (Or.inl rfl) hf (fun r6 hf => ?_)
  refine v_iload_n (pc := 23) (i := 1) (x := a1) hC dM_made_23 rfl 3 rfl ?_
  refine v_iald (pc := 24) hC dM_made_24 hf (fun x7 hf => ?_)
  refine v_iald (pc := 25) hC dM_made_25 hf (fun x8 hf => ?_)
  refine v_istore (pc := 26) (i := 5) (x := x8) hC dM_made_26 (by decide) [(5, .int x8), (4, .int x4), (3, .int x2), (0, va_rf (some b)), (1, .int a1), (2, .int a2)] rfl ?_
  refine v_aload_n (pc := 28) (i := 0) (r := (some b)) hC dM_made_28 rfl 3 rfl ?_
  refine v_getQ (pc := 29) (r := (some b)) hC dM_made_29 inM rfl 13 (by decide) q488 (Or.inl rfl) hf (fun r9 hf => ?_)
  refine v_iload_n (pc := 32) (i := 1) (x := a1) hC dM_made_32 rfl 4 rfl ?_
  refine v_iald (pc := 33) hC dM_made_33 hf (fun x10 hf => ?_)
  refine v_istore (pc := 34) (i := 6) (x := x10) hC dM_made_34 (by decide) [(6, .int x10), (5, .int x8), (4, .int x4), (3, .int x2), (0, va_rf (some b)), (1, .int a1), (2, .int a2)] rfl ?_
  refine v_aload_n (pc := 36) (i := 0) (r := (some b)) hC dM_made_36 rfl 4 rfl ?_
  refine v_getQ (pc := 37) (r := (some b)) hC dM_made_37 inM rfl 1 (by decide) q476 (Or.inl rfl) hf (fun r11 hf => ?_)
  refine v_iload_n (pc := 40) (i := 3) (x := x2) hC dM_made_40 rfl 3 rfl ?_
  refine v_iald (pc := 41) hC dM_made_41 hf (fun x12 hf => ?_)
  refine v_istore (pc := 42) (i := 7) (x := x12) hC dM_made_42 (by decide) [(7, .int x12), (6, .int x10), (5, .int x8), (4, .int x4), (3, .int x2), (0, va_rf (some b)), (1, .int a1), (2, .int a2)] rfl ?_
  refine v_aload_n (pc := 44) (i := 0) (r := (some b)) hC dM_made_44 rfl 5 rfl ?_
  refine v_getQ (pc := 45) (r := (some b)) hC dM_made_45 inM rfl 9 (by decide) q484 (Or.inl rfl) hf (fun r13 hf => ?_)
  refine v_iload_n (pc := 48) (i := 1) (x := a1) hC dM_made_48 rfl 6 rfl ?_
  refine v_iald (pc := 49) hC dM_made_49 hf (fun x14 hf => ?_)
  refine v_if_ne (pc := 50) (tgt := 114) hC dM_made_50 (by decide) hf (fun hf => ?_) (fun hf => ?_)
  · refine v_aload_n (pc := 114) (i := 0) (r := (some b)) hC dM_made_114 rfl 5 rfl ?_
    refine v_getQ (pc := 115) (r := (some b)) hC dM_made_115 inM rfl 9 (by decide) q484 (Or.inl rfl) hf (fun r15 hf => ?_)
    refine v_iload_n (pc := 118) (i := 1) (x := a1) hC dM_made_118 rfl 6 rfl ?_
    refine v_iald (pc := 119) hC dM_made_119 hf (fun x16 hf => ?_)
    refine v_iconst (pc := 120) (v := (1 : Int32)) hC dM_made_120 (by decide) ?_
    refine v_icmp_ne (pc := 121) (tgt := 152) hC dM_made_121 (by decide) hf (fun hf => ?_) (fun hf => ?_)
    · refine v_aload_n (pc := 152) (i := 0) (r := (some b)) hC dM_made_152 rfl 5 rfl ?_
      refine v_getQ (pc := 153) (r := (some b)) hC dM_made_153 inM rfl 9 (by decide) q484 (Or.inl rfl) hf (fun r17 hf => ?_)
      refine v_iload_n (pc := 156) (i := 1) (x := a1) hC dM_made_156 rfl 6 rfl ?_
      refine v_iald (pc := 157) hC dM_made_157 hf (fun x18 hf => ?_)
      refine v_iconst (pc := 158) (v := (2 : Int32)) hC dM_made_158 (by decide) ?_
      refine v_icmp_ne (pc := 159) (tgt := 190) hC dM_made_159 (by decide) hf (fun hf => ?_) (fun hf => ?_)
      · refine v_aload_n (pc := 190) (i := 0) (r := (some b)) hC dM_made_190 rfl 5 rfl ?_
        refine v_getQ (pc := 191) (r := (some b)) hC dM_made_191 inM rfl 9 (by decide) q484 (Or.inl rfl) hf (fun r19 hf => ?_)
        refine v_iload_n (pc := 194) (i := 1) (x := a1) hC dM_made_194 rfl 6 rfl ?_
        refine v_iald (pc := 195) hC dM_made_195 hf (fun x20 hf => ?_)
        refine v_iconst (pc := 196) (v := (5 : Int32)) hC dM_made_196 (by decide) ?_
        refine v_icmp_ge (pc := 197) (tgt := 227) hC dM_made_197 (by decide) hf (fun hf => ?_) (fun hf => ?_)
        · refine v_aload_n (pc := 227) (i := 0) (r := (some b)) hC dM_made_227 rfl 5 rfl ?_
          refine v_getQ (pc := 228) (r := (some b)) hC dM_made_228 inM rfl 9 (by decide) q484 (Or.inl rfl) hf (fun r21 hf => ?_)
          refine v_iload_n (pc := 231) (i := 1) (x := a1) hC dM_made_231 rfl 6 rfl ?_
          refine v_iald (pc := 232) hC dM_made_232 hf (fun x22 hf => ?_)
          refine v_iconst (pc := 233) (v := (5 : Int32)) hC dM_made_233 (by decide) ?_
          refine v_icmp_ne (pc := 234) (tgt := 267) hC dM_made_234 (by decide) hf (fun hf => ?_) (fun hf => ?_)
          · refine v_aload_n (pc := 267) (i := 0) (r := (some b)) hC dM_made_267 rfl 5 rfl ?_
            refine v_getQ (pc := 268) (r := (some b)) hC dM_made_268 inM rfl 9 (by decide) q484 (Or.inl rfl) hf (fun r23 hf => ?_)
            refine v_iload_n (pc := 271) (i := 1) (x := a1) hC dM_made_271 rfl 6 rfl ?_
            refine v_iald (pc := 272) hC dM_made_272 hf (fun x24 hf => ?_)
            refine v_bipush (pc := 273) (v := (6 : Int32)) hC dM_made_273 (by decide) ?_
            refine v_icmp_ne (pc := 275) (tgt := 314) hC dM_made_275 (by decide) hf (fun hf => ?_) (fun hf => ?_)
            · refine v_aload_n (pc := 314) (i := 0) (r := (some b)) hC dM_made_314 rfl 5 rfl ?_
              refine v_getQ (pc := 315) (r := (some b)) hC dM_made_315 inM rfl 5 (by decide) q480 (Or.inl rfl) hf (fun r25 hf => ?_)
              refine v_iload_n (pc := 318) (i := 3) (x := x2) hC dM_made_318 rfl 4 rfl ?_
              refine v_bipush (pc := 319) (v := (64 : Int32)) hC dM_made_319 (by decide) ?_
              refine v_imul (pc := 321) hC dM_made_321 ?_
              refine v_iload (pc := 322) (i := 7) (x := x12) hC dM_made_322 0 rfl ?_
              refine v_iadd (pc := 324) hC dM_made_324 ?_
              refine v_iconst (pc := 325) (v := (1 : Int32)) hC dM_made_325 (by decide) ?_
              refine v_isub (pc := 326) hC dM_made_326 ?_
              refine v_iload_n (pc := 327) (i := 2) (x := a2) hC dM_made_327 rfl 7 rfl ?_
              refine v_isub (pc := 328) hC dM_made_328 ?_
              refine v_iald (pc := 329) hC dM_made_329 hf (fun x26 hf => ?_)
              exact v_iret (pc := 330) hC hE dM_made_330 (by rw [hR]; decide) (by rw [hR]; decide) hf
            · refine v_iload_n (pc := 278) (i := 2) (x := a2) hC dM_made_278 rfl 7 rfl ?_
              refine v_iload (pc := 279) (i := 7) (x := x12) hC dM_made_279 0 rfl ?_
              refine v_icmp_ge (pc := 281) (tgt := 298) hC dM_made_281 (by decide) hf (fun hf => ?_) (fun hf => ?_)
              · refine v_aload_n (pc := 298) (i := 0) (r := (some b)) hC dM_made_298 rfl 5 rfl ?_
                refine v_getQ (pc := 299) (r := (some b)) hC dM_made_299 inM rfl 5 (by decide) q480 (Or.inl rfl) hf (fun r27 hf => ?_)
                refine v_iload (pc := 302) (i := 4) (x := x4) hC dM_made_302 3 rfl ?_
                refine v_bipush (pc := 304) (v := (64 : Int32)) hC dM_made_304 (by decide) ?_
                refine v_imul (pc := 306) hC dM_made_306 ?_
                refine v_iload_n (pc := 307) (i := 2) (x := a2) hC dM_made_307 rfl 7 rfl ?_
                refine v_iadd (pc := 308) hC dM_made_308 ?_
                refine v_iload (pc := 309) (i := 7) (x := x12) hC dM_made_309 0 rfl ?_
                refine v_isub (pc := 311) hC dM_made_311 ?_
                refine v_iald (pc := 312) hC dM_made_312 hf (fun x28 hf => ?_)
                exact v_iret (pc := 313) hC hE dM_made_313 (by rw [hR]; decide) (by rw [hR]; decide) hf
              · refine v_aload_n (pc := 284) (i := 0) (r := (some b)) hC dM_made_284 rfl 5 rfl ?_
                refine v_getQ (pc := 285) (r := (some b)) hC dM_made_285 inM rfl 5 (by decide) q480 (Or.inl rfl) hf (fun r29 hf => ?_)
                refine v_iload_n (pc := 288) (i := 3) (x := x2) hC dM_made_288 rfl 4 rfl ?_
                refine v_bipush (pc := 289) (v := (64 : Int32)) hC dM_made_289 (by decide) ?_
                refine v_imul (pc := 291) hC dM_made_291 ?_
                refine v_iload_n (pc := 292) (i := 2) (x := a2) hC dM_made_292 rfl 7 rfl ?_
                refine v_iadd (pc := 293) hC dM_made_293 ?_
                refine v_iald (pc := 294) hC dM_made_294 hf (fun x30 hf => ?_)
                refine v_goto (pc := 295) (tgt := 313) hC dM_made_295 (by decide) ?_
                exact v_iret (pc := 313) hC hE dM_made_313 (by rw [hR]; decide) (by rw [hR]; decide) hf
          · refine v_aload_n (pc := 237) (i := 0) (r := (some b)) hC dM_made_237 rfl 5 rfl ?_
            refine v_getQ (pc := 238) (r := (some b)) hC dM_made_238 inM rfl 5 (by decide) q480 (Or.inl rfl) hf (fun r31 hf => ?_)
            refine v_iload (pc := 241) (i := 4) (x := x4) hC dM_made_241 3 rfl ?_
            refine v_bipush (pc := 243) (v := (64 : Int32)) hC dM_made_243 (by decide) ?_
            refine v_imul (pc := 245) hC dM_made_245 ?_
            refine v_aload_n (pc := 246) (i := 0) (r := (some b)) hC dM_made_246 rfl 5 rfl ?_
            refine v_getQ (pc := 247) (r := (some b)) hC dM_made_247 inM rfl 5 (by decide) q480 (Or.inl rfl) hf (fun r32 hf => ?_)
            refine v_iload_n (pc := 250) (i := 3) (x := x2) hC dM_made_250 rfl 4 rfl ?_
            refine v_bipush (pc := 251) (v := (64 : Int32)) hC dM_made_251 (by decide) ?_
            refine v_imul (pc := 253) hC dM_made_253 ?_
            refine v_iload_n (pc := 254) (i := 2) (x := a2) hC dM_made_254 rfl 7 rfl ?_
            refine v_iadd (pc := 255) hC dM_made_255 ?_
            refine v_iald (pc := 256) hC dM_made_256 hf (fun x33 hf => ?_)
            refine v_sipush (pc := 257) (v := (128 : Int32)) hC dM_made_257 (by decide) ?_
            refine v_iadd (pc := 260) hC dM_made_260 ?_
            refine v_bipush (pc := 261) (v := (16 : Int32)) hC dM_made_261 (by decide) ?_
            refine v_idiv (pc := 263) hC dM_made_263 (by decide) ?_
            refine v_iadd (pc := 264) hC dM_made_264 ?_
            refine v_iald (pc := 265) hC dM_made_265 hf (fun x34 hf => ?_)
            exact v_iret (pc := 266) hC hE dM_made_266 (by rw [hR]; decide) (by rw [hR]; decide) hf
        · refine v_aload_n (pc := 200) (i := 0) (r := (some b)) hC dM_made_200 rfl 5 rfl ?_
          refine v_iload_n (pc := 201) (i := 3) (x := x2) hC dM_made_201 rfl 4 rfl ?_
          refine v_iload_n (pc := 202) (i := 2) (x := a2) hC dM_made_202 rfl 7 rfl ?_
          refine v_iload (pc := 203) (i := 6) (x := x10) hC dM_made_203 1 rfl ?_
          refine v_imul (pc := 205) hC dM_made_205 ?_
          refine v_iload (pc := 206) (i := 6) (x := x10) hC dM_made_206 1 rfl ?_
          refine v_aload_n (pc := 208) (i := 0) (r := (some b)) hC dM_made_208 rfl 5 rfl ?_
          refine v_getQ (pc := 209) (r := (some b)) hC dM_made_209 inM rfl 9 (by decide) q484 (Or.inl rfl) hf (fun r35 hf => ?_)
          refine v_iload_n (pc := 212) (i := 1) (x := a1) hC dM_made_212 rfl 6 rfl ?_
          refine v_iald (pc := 213) hC dM_made_213 hf (fun x36 hf => ?_)
          refine v_iconst (pc := 214) (v := (3 : Int32)) hC dM_made_214 (by decide) ?_
          refine v_icmp_ne (pc := 215) (tgt := 222) hC dM_made_215 (by decide) hf (fun hf => ?_) (fun hf => ?_)
          · refine v_iconst (pc := 222) (v := (0 : Int32)) hC dM_made_222 (by decide) ?_
            refine v_callV (pc := 223) (r := (some b)) (As := [.int x2, .int (a2 * x10), .int x10, .int (0 : Int32)]) (rest := []) (k' := 0) (n' := 0) (st1 := (fun yq => [.int yq])) hC dM_made_223 q641 q643 p34 q7 q644 ykM_window rfl rfl (fun bq rq wq hq => mM_window _ _ bq x2 (a2 * x10) x10 (0 : Int32) _ rq wq hq) (by rw [hR]; decide) (by simp only [List.map_cons, List.map_nil, va_cat]; exact Nat.le_of_ble_eq_true rfl) (by decide) (by rw [hR]; decide) hf rfl (fun _ => rfl) (fun x37 w38 hf => ?_)
            exact v_iret (pc := 226) hC hE dM_made_226 (by rw [hR]; decide) (by rw [hR]; decide) hf
          · refine v_iconst (pc := 218) (v := (1 : Int32)) hC dM_made_218 (by decide) ?_
            refine v_goto (pc := 219) (tgt := 223) hC dM_made_219 (by decide) ?_
            refine v_callV (pc := 223) (r := (some b)) (As := [.int x2, .int (a2 * x10), .int x10, .int (1 : Int32)]) (rest := []) (k' := 0) (n' := 0) (st1 := (fun yq => [.int yq])) hC dM_made_223 q641 q643 p34 q7 q644 ykM_window rfl rfl (fun bq rq wq hq => mM_window _ _ bq x2 (a2 * x10) x10 (1 : Int32) _ rq wq hq) (by rw [hR]; decide) (by simp only [List.map_cons, List.map_nil, va_cat]; exact Nat.le_of_ble_eq_true rfl) (by decide) (by rw [hR]; decide) hf rfl (fun _ => rfl) (fun x40 w41 hf => ?_)
            exact v_iret (pc := 226) hC hE dM_made_226 (by rw [hR]; decide) (by rw [hR]; decide) hf
      · refine v_aload_n (pc := 162) (i := 0) (r := (some b)) hC dM_made_162 rfl 5 rfl ?_
        refine v_iload (pc := 163) (i := 5) (x := x8) hC dM_made_163 2 rfl ?_
        refine v_aload_n (pc := 165) (i := 0) (r := (some b)) hC dM_made_165 rfl 5 rfl ?_
        refine v_iload (pc := 166) (i := 6) (x := x10) hC dM_made_166 1 rfl ?_
        refine v_aload_n (pc := 168) (i := 0) (r := (some b)) hC dM_made_168 rfl 5 rfl ?_
        refine v_iload_n (pc := 169) (i := 3) (x := x2) hC dM_made_169 rfl 4 rfl ?_
        refine v_iload_n (pc := 170) (i := 2) (x := a2) hC dM_made_170 rfl 7 rfl ?_
        refine v_callV (pc := 171) (r := (some b)) (As := [.int x2, .int a2]) (rest := [.int x10, va_rf (some b), .int x8, va_rf (some b)]) (k' := 0) (n' := 0) (st1 := (fun yq => [.int yq, .int x10, va_rf (some b), .int x8, va_rf (some b)])) hC dM_made_171 q623 q625 p30 q7 q626 ykM_difference rfl rfl (fun bq rq wq hq => mM_difference _ _ bq x2 a2 _ rq wq hq) (by rw [hR]; decide) (by simp only [List.map_cons, List.map_nil, va_cat]; exact Nat.le_of_ble_eq_true rfl) (by decide) (by rw [hR]; decide) hf rfl (fun _ => rfl) (fun x43 w44 hf => ?_)
        refine v_aload_n (pc := 174) (i := 0) (r := (some b)) hC dM_made_174 rfl 5 rfl ?_
        refine v_iload (pc := 175) (i := 4) (x := x4) hC dM_made_175 3 rfl ?_
        refine v_iload_n (pc := 177) (i := 2) (x := a2) hC dM_made_177 rfl 7 rfl ?_
        refine v_callV (pc := 178) (r := (some b)) (As := [.int x4, .int a2]) (rest := [.int x43, .int x10, va_rf (some b), .int x8, va_rf (some b)]) (k' := 0) (n' := 0) (st1 := (fun yq => [.int yq, .int x43, .int x10, va_rf (some b), .int x8, va_rf (some b)])) hC dM_made_178 q623 q625 p30 q7 q626 ykM_difference rfl rfl (fun bq rq wq hq => mM_difference _ _ bq x4 a2 _ rq wq hq) (by rw [hR]; decide) (by simp only [List.map_cons, List.map_nil, va_cat]; exact Nat.le_of_ble_eq_true rfl) (by decide) (by rw [hR]; decide) hf rfl (fun _ => rfl) (fun x46 w47 hf => ?_)
        refine v_imul (pc := 181) hC dM_made_181 ?_
        refine v_callV (pc := 182) (r := (some b)) (As := [.int x10, .int (x43 * x46)]) (rest := [.int x8, va_rf (some b)]) (k' := 0) (n' := 0) (st1 := (fun yq => [.int yq, .int x8, va_rf (some b)])) hC dM_made_182 q627 q629 p31 q7 q630 ykM_scaling rfl rfl (fun bq rq wq hq => mM_scaling _ _ bq x10 (x43 * x46) _ rq wq hq) (by rw [hR]; decide) (by simp only [List.map_cons, List.map_nil, va_cat]; exact Nat.le_of_ble_eq_true rfl) (by decide) (by rw [hR]; decide) hf rfl (fun _ => rfl) (fun x49 w50 hf => ?_)
        refine v_iadd (pc := 185) hC dM_made_185 ?_
        refine v_callV (pc := 186) (r := (some b)) (As := [.int (x8 + x49)]) (rest := []) (k' := 0) (n' := 0) (st1 := (fun yq => [.int yq])) hC dM_made_186 q637 q639 p33 q7 q640 ykM_clamped rfl rfl (fun bq rq wq hq => mM_clamped _ _ bq (x8 + x49) _ rq wq hq) (by rw [hR]; decide) (by simp only [List.map_cons, List.map_nil, va_cat]; exact Nat.le_of_ble_eq_true rfl) (by decide) (by rw [hR]; decide) hf rfl (fun _ => rfl) (fun x52 w53 hf => ?_)
        exact v_iret (pc := 189) hC hE dM_made_189 (by rw [hR]; decide) (by rw [hR]; decide) hf
    · refine v_aload_n (pc := 124) (i := 0) (r := (some b)) hC dM_made_124 rfl 5 rfl ?_
      refine v_iload (pc := 125) (i := 5) (x := x8) hC dM_made_125 2 rfl ?_
      refine v_aload_n (pc := 127) (i := 0) (r := (some b)) hC dM_made_127 rfl 5 rfl ?_
      refine v_iload (pc := 128) (i := 6) (x := x10) hC dM_made_128 1 rfl ?_
      refine v_aload_n (pc := 130) (i := 0) (r := (some b)) hC dM_made_130 rfl 5 rfl ?_
      refine v_iload_n (pc := 131) (i := 3) (x := x2) hC dM_made_131 rfl 4 rfl ?_
      refine v_iload_n (pc := 132) (i := 2) (x := a2) hC dM_made_132 rfl 7 rfl ?_
      refine v_callV (pc := 133) (r := (some b)) (As := [.int x2, .int a2]) (rest := [.int x10, va_rf (some b), .int x8, va_rf (some b)]) (k' := 0) (n' := 0) (st1 := (fun yq => [.int yq, .int x10, va_rf (some b), .int x8, va_rf (some b)])) hC dM_made_133 q623 q625 p30 q7 q626 ykM_difference rfl rfl (fun bq rq wq hq => mM_difference _ _ bq x2 a2 _ rq wq hq) (by rw [hR]; decide) (by simp only [List.map_cons, List.map_nil, va_cat]; exact Nat.le_of_ble_eq_true rfl) (by decide) (by rw [hR]; decide) hf rfl (fun _ => rfl) (fun x55 w56 hf => ?_)
      refine v_aload_n (pc := 136) (i := 0) (r := (some b)) hC dM_made_136 rfl 5 rfl ?_
      refine v_iload (pc := 137) (i := 4) (x := x4) hC dM_made_137 3 rfl ?_
      refine v_iload_n (pc := 139) (i := 2) (x := a2) hC dM_made_139 rfl 7 rfl ?_
      refine v_callV (pc := 140) (r := (some b)) (As := [.int x4, .int a2]) (rest := [.int x55, .int x10, va_rf (some b), .int x8, va_rf (some b)]) (k' := 0) (n' := 0) (st1 := (fun yq => [.int yq, .int x55, .int x10, va_rf (some b), .int x8, va_rf (some b)])) hC dM_made_140 q623 q625 p30 q7 q626 ykM_difference rfl rfl (fun bq rq wq hq => mM_difference _ _ bq x4 a2 _ rq wq hq) (by rw [hR]; decide) (by simp only [List.map_cons, List.map_nil, va_cat]; exact Nat.le_of_ble_eq_true rfl) (by decide) (by rw [hR]; decide) hf rfl (fun _ => rfl) (fun x58 w59 hf => ?_)
      refine v_iadd (pc := 143) hC dM_made_143 ?_
      refine v_callV (pc := 144) (r := (some b)) (As := [.int x10, .int (x55 + x58)]) (rest := [.int x8, va_rf (some b)]) (k' := 0) (n' := 0) (st1 := (fun yq => [.int yq, .int x8, va_rf (some b)])) hC dM_made_144 q627 q629 p31 q7 q630 ykM_scaling rfl rfl (fun bq rq wq hq => mM_scaling _ _ bq x10 (x55 + x58) _ rq wq hq) (by rw [hR]; decide) (by simp only [List.map_cons, List.map_nil, va_cat]; exact Nat.le_of_ble_eq_true rfl) (by decide) (by rw [hR]; decide) hf rfl (fun _ => rfl) (fun x61 w62 hf => ?_)
      refine v_iadd (pc := 147) hC dM_made_147 ?_
      refine v_callV (pc := 148) (r := (some b)) (As := [.int (x8 + x61)]) (rest := []) (k' := 0) (n' := 0) (st1 := (fun yq => [.int yq])) hC dM_made_148 q637 q639 p33 q7 q640 ykM_clamped rfl rfl (fun bq rq wq hq => mM_clamped _ _ bq (x8 + x61) _ rq wq hq) (by rw [hR]; decide) (by simp only [List.map_cons, List.map_nil, va_cat]; exact Nat.le_of_ble_eq_true rfl) (by decide) (by rw [hR]; decide) hf rfl (fun _ => rfl) (fun x64 w65 hf => ?_)
      exact v_iret (pc := 151) hC hE dM_made_151 (by rw [hR]; decide) (by rw [hR]; decide) hf
  · refine v_iconst (pc := 53) (v := (0 : Int32)) hC dM_made_53 (by decide) ?_
    refine v_istore (pc := 54) (i := 8) (x := (0 : Int32)) hC dM_made_54 (by decide) [(8, .int (0 : Int32)), (7, .int x12), (6, .int x10), (5, .int x8), (4, .int x4), (3, .int x2), (0, va_rf (some b)), (1, .int a1), (2, .int a2)] rfl ?_
    refine v_iconst (pc := 56) (v := (0 : Int32)) hC dM_made_56 (by decide) ?_
    refine v_istore (pc := 57) (i := 9) (x := (0 : Int32)) hC dM_made_57 (by decide) [(9, .int (0 : Int32)), (8, .int (0 : Int32)), (7, .int x12), (6, .int x10), (5, .int x8), (4, .int x4), (3, .int x2), (0, va_rf (some b)), (1, .int a1), (2, .int a2)] rfl ?_
    exact V.sub [7, 9, 6, 5, 4, 3, 2, 1, 0] rfl (tM_made_l59 hC hE hR  FU _ _ _ _ _ _ _ _ _ hf)
theorem mM_made (l : Launch) (G : cG) (b : Nat) (a1 : Int32) (a2 : Int32) (w : cW) (r : Int32) (w' : cW) (hf : fM_made b a1 a2 w = some (r, w')) : Met l yM_made (wsM yM_made prog_7_method_27_code 10 (some .int)) rmM_made (mP G w [va_rf (some b), .int a1, .int a2]) (mQ mkI G w w' r) (rmM_made).cells (rmM_made).slots (Aw w) :=
  met_of (by decide +kernel) rfl (Nat.le_of_ble_eq_true rfl) (fun C hC hR _ _ _ hts hE => tM_made (okC.tbl hC) hE hR a1 a2 w hf)
