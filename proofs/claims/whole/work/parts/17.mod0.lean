abbrev yM_init : MethodName := ⟨"ArenaNetworkModel", "<init>", "()V"⟩
abbrev rmM_init : Room := { frames := 1, cells := 20, slots := 26000, locals := 20 }
theorem ykM_init : yOk yM_init 0 := by decide +kernel
theorem dM_init_0 : decode prog_7_method_1_code 0 = .ok (.aload_n 0, 1) := by decide +kernel
theorem dM_init_1 : decode prog_7_method_1_code 1 = .ok (.invokespecial 1, 3) := by decide +kernel
theorem dM_init_4 : decode prog_7_method_1_code 4 = .ok (.aload_n 0, 1) := by decide +kernel
theorem dM_init_5 : decode prog_7_method_1_code 5 = .ok (.bipush (20), 2) := by decide +kernel
theorem dM_init_7 : decode prog_7_method_1_code 7 = .ok (.newarray .int, 2) := by decide +kernel
theorem dM_init_9 : decode prog_7_method_1_code 9 = .ok (.putfield 7, 3) := by decide +kernel
theorem dM_init_12 : decode prog_7_method_1_code 12 = .ok (.aload_n 0, 1) := by decide +kernel
theorem dM_init_13 : decode prog_7_method_1_code 13 = .ok (.bipush (20), 2) := by decide +kernel
theorem dM_init_15 : decode prog_7_method_1_code 15 = .ok (.newarray .int, 2) := by decide +kernel
theorem dM_init_17 : decode prog_7_method_1_code 17 = .ok (.putfield 13, 3) := by decide +kernel
theorem dM_init_20 : decode prog_7_method_1_code 20 = .ok (.aload_n 0, 1) := by decide +kernel
theorem dM_init_21 : decode prog_7_method_1_code 21 = .ok (.bipush (20), 2) := by decide +kernel
theorem dM_init_23 : decode prog_7_method_1_code 23 = .ok (.newarray .int, 2) := by decide +kernel
theorem dM_init_25 : decode prog_7_method_1_code 25 = .ok (.putfield 16, 3) := by decide +kernel
theorem dM_init_28 : decode prog_7_method_1_code 28 = .ok (.aload_n 0, 1) := by decide +kernel
theorem dM_init_29 : decode prog_7_method_1_code 29 = .ok (.bipush (20), 2) := by decide +kernel
theorem dM_init_31 : decode prog_7_method_1_code 31 = .ok (.newarray .boolean, 2) := by decide +kernel
theorem dM_init_33 : decode prog_7_method_1_code 33 = .ok (.putfield 19, 3) := by decide +kernel
theorem dM_init_36 : decode prog_7_method_1_code 36 = .ok (.aload_n 0, 1) := by decide +kernel
theorem dM_init_37 : decode prog_7_method_1_code 37 = .ok (.sipush (1280), 3) := by decide +kernel
theorem dM_init_40 : decode prog_7_method_1_code 40 = .ok (.newarray .int, 2) := by decide +kernel
theorem dM_init_42 : decode prog_7_method_1_code 42 = .ok (.putfield 23, 3) := by decide +kernel
theorem dM_init_45 : decode prog_7_method_1_code 45 = .ok (.aload_n 0, 1) := by decide +kernel
theorem dM_init_46 : decode prog_7_method_1_code 46 = .ok (.sipush (1280), 3) := by decide +kernel
theorem dM_init_49 : decode prog_7_method_1_code 49 = .ok (.newarray .int, 2) := by decide +kernel
theorem dM_init_51 : decode prog_7_method_1_code 51 = .ok (.putfield 26, 3) := by decide +kernel
theorem dM_init_54 : decode prog_7_method_1_code 54 = .ok (.aload_n 0, 1) := by decide +kernel
theorem dM_init_55 : decode prog_7_method_1_code 55 = .ok (.bipush (8), 2) := by decide +kernel
theorem dM_init_57 : decode prog_7_method_1_code 57 = .ok (.newarray .int, 2) := by decide +kernel
theorem dM_init_59 : decode prog_7_method_1_code 59 = .ok (.putfield 29, 3) := by decide +kernel
theorem dM_init_62 : decode prog_7_method_1_code 62 = .ok (.aload_n 0, 1) := by decide +kernel
theorem dM_init_63 : decode prog_7_method_1_code 63 = .ok (.bipush (8), 2) := by decide +kernel
theorem dM_init_65 : decode prog_7_method_1_code 65 = .ok (.newarray .int, 2) := by decide +kernel
theorem dM_init_67 : decode prog_7_method_1_code 67 = .ok (.putfield 32, 3) := by decide +kernel
theorem dM_init_70 : decode prog_7_method_1_code 70 = .ok (.aload_n 0, 1) := by decide +kernel
theorem dM_init_71 : decode prog_7_method_1_code 71 = .ok (.bipush (14), 2) := by decide +kernel
theorem dM_init_73 : decode prog_7_method_1_code 73 = .ok (.newarray .int, 2) := by decide +kernel
theorem dM_init_75 : decode prog_7_method_1_code 75 = .ok (.putfield 35, 3) := by decide +kernel
theorem dM_init_78 : decode prog_7_method_1_code 78 = .ok (.aload_n 0, 1) := by decide +kernel
theorem dM_init_79 : decode prog_7_method_1_code 79 = .ok (.bipush (14), 2) := by decide +kernel
theorem dM_init_81 : decode prog_7_method_1_code 81 = .ok (.newarray .int, 2) := by decide +kernel
theorem dM_init_83 : decode prog_7_method_1_code 83 = .ok (.putfield 38, 3) := by decide +kernel
theorem dM_init_86 : decode prog_7_method_1_code 86 = .ok (.aload_n 0, 1) := by decide +kernel
theorem dM_init_87 : decode prog_7_method_1_code 87 = .ok (.bipush (14), 2) := by decide +kernel
theorem dM_init_89 : decode prog_7_method_1_code 89 = .ok (.newarray .int, 2) := by decide +kernel
theorem dM_init_91 : decode prog_7_method_1_code 91 = .ok (.putfield 41, 3) := by decide +kernel
theorem dM_init_94 : decode prog_7_method_1_code 94 = .ok (.aload_n 0, 1) := by decide +kernel
theorem dM_init_95 : decode prog_7_method_1_code 95 = .ok (.bipush (14), 2) := by decide +kernel
theorem dM_init_97 : decode prog_7_method_1_code 97 = .ok (.newarray .int, 2) := by decide +kernel
theorem dM_init_99 : decode prog_7_method_1_code 99 = .ok (.putfield 44, 3) := by decide +kernel
theorem dM_init_102 : decode prog_7_method_1_code 102 = .ok (.aload_n 0, 1) := by decide +kernel
theorem dM_init_103 : decode prog_7_method_1_code 103 = .ok (.bipush (14), 2) := by decide +kernel
theorem dM_init_105 : decode prog_7_method_1_code 105 = .ok (.newarray .int, 2) := by decide +kernel
theorem dM_init_107 : decode prog_7_method_1_code 107 = .ok (.putfield 47, 3) := by decide +kernel
theorem dM_init_110 : decode prog_7_method_1_code 110 = .ok (.aload_n 0, 1) := by decide +kernel
theorem dM_init_111 : decode prog_7_method_1_code 111 = .ok (.bipush (20), 2) := by decide +kernel
theorem dM_init_113 : decode prog_7_method_1_code 113 = .ok (.newarray .int, 2) := by decide +kernel
theorem dM_init_115 : decode prog_7_method_1_code 115 = .ok (.putfield 50, 3) := by decide +kernel
theorem dM_init_118 : decode prog_7_method_1_code 118 = .ok (.aload_n 0, 1) := by decide +kernel
theorem dM_init_119 : decode prog_7_method_1_code 119 = .ok (.bipush (20), 2) := by decide +kernel
theorem dM_init_121 : decode prog_7_method_1_code 121 = .ok (.newarray .int, 2) := by decide +kernel
theorem dM_init_123 : decode prog_7_method_1_code 123 = .ok (.putfield 53, 3) := by decide +kernel
theorem dM_init_126 : decode prog_7_method_1_code 126 = .ok (.aload_n 0, 1) := by decide +kernel
theorem dM_init_127 : decode prog_7_method_1_code 127 = .ok (.iconst (-1), 1) := by decide +kernel
theorem dM_init_128 : decode prog_7_method_1_code 128 = .ok (.putfield 56, 3) := by decide +kernel
theorem dM_init_131 : decode prog_7_method_1_code 131 = .ok (.iconst (0), 1) := by decide +kernel
theorem dM_init_132 : decode prog_7_method_1_code 132 = .ok (.istore_n 1, 1) := by decide +kernel
theorem dM_init_133 : decode prog_7_method_1_code 133 = .ok (.iload_n 1, 1) := by decide +kernel
theorem dM_init_134 : decode prog_7_method_1_code 134 = .ok (.bipush (8), 2) := by decide +kernel
theorem dM_init_136 : decode prog_7_method_1_code 136 = .ok (.if_icmp .ge (17), 3) := by decide +kernel
theorem dM_init_139 : decode prog_7_method_1_code 139 = .ok (.aload_n 0, 1) := by decide +kernel
theorem dM_init_140 : decode prog_7_method_1_code 140 = .ok (.getfield 29, 3) := by decide +kernel
theorem dM_init_143 : decode prog_7_method_1_code 143 = .ok (.iload_n 1, 1) := by decide +kernel
theorem dM_init_144 : decode prog_7_method_1_code 144 = .ok (.ldc 60, 2) := by decide +kernel
theorem dM_init_146 : decode prog_7_method_1_code 146 = .ok (.iastore, 1) := by decide +kernel
theorem dM_init_147 : decode prog_7_method_1_code 147 = .ok (.iinc 1 (1), 3) := by decide +kernel
theorem dM_init_150 : decode prog_7_method_1_code 150 = .ok (.goto (-17), 3) := by decide +kernel
theorem dM_init_153 : decode prog_7_method_1_code 153 = .ok (.return_, 1) := by decide +kernel
abbrev yM_noByte : MethodName := ⟨"ArenaNetworkModel", "noByte", "(I)Z"⟩
abbrev rmM_noByte : Room := { frames := 0, cells := 0, slots := 0, locals := 0 }
theorem ykM_noByte : yOk yM_noByte 1 := by decide +kernel
theorem dM_noByte_0 : decode prog_7_method_3_code 0 = .ok (.iload_n 1, 1) := by decide +kernel
theorem dM_noByte_1 : decode prog_7_method_3_code 1 = .ok (.bipush (-128), 2) := by decide +kernel
theorem dM_noByte_3 : decode prog_7_method_3_code 3 = .ok (.if_icmp .lt (9), 3) := by decide +kernel
theorem dM_noByte_6 : decode prog_7_method_3_code 6 = .ok (.iload_n 1, 1) := by decide +kernel
theorem dM_noByte_7 : decode prog_7_method_3_code 7 = .ok (.bipush (127), 2) := by decide +kernel
theorem dM_noByte_9 : decode prog_7_method_3_code 9 = .ok (.if_icmp .le (7), 3) := by decide +kernel
theorem dM_noByte_12 : decode prog_7_method_3_code 12 = .ok (.iconst (1), 1) := by decide +kernel
theorem dM_noByte_13 : decode prog_7_method_3_code 13 = .ok (.goto (4), 3) := by decide +kernel
theorem dM_noByte_16 : decode prog_7_method_3_code 16 = .ok (.iconst (0), 1) := by decide +kernel
theorem dM_noByte_17 : decode prog_7_method_3_code 17 = .ok (.ireturn, 1) := by decide +kernel
abbrev yM_noTensor : MethodName := ⟨"ArenaNetworkModel", "noTensor", "(I)Z"⟩
abbrev rmM_noTensor : Room := { frames := 0, cells := 0, slots := 0, locals := 0 }
theorem ykM_noTensor : yOk yM_noTensor 1 := by decide +kernel
theorem dM_noTensor_0 : decode prog_7_method_2_code 0 = .ok (.iload_n 1, 1) := by decide +kernel
theorem dM_noTensor_1 : decode prog_7_method_2_code 1 = .ok (.ifCond .lt (11), 3) := by decide +kernel
theorem dM_noTensor_4 : decode prog_7_method_2_code 4 = .ok (.iload_n 1, 1) := by decide +kernel
theorem dM_noTensor_5 : decode prog_7_method_2_code 5 = .ok (.aload_n 0, 1) := by decide +kernel
theorem dM_noTensor_6 : decode prog_7_method_2_code 6 = .ok (.getfield 61, 3) := by decide +kernel
theorem dM_noTensor_9 : decode prog_7_method_2_code 9 = .ok (.if_icmp .lt (7), 3) := by decide +kernel
theorem dM_noTensor_12 : decode prog_7_method_2_code 12 = .ok (.iconst (1), 1) := by decide +kernel
theorem dM_noTensor_13 : decode prog_7_method_2_code 13 = .ok (.goto (4), 3) := by decide +kernel
theorem dM_noTensor_16 : decode prog_7_method_2_code 16 = .ok (.iconst (0), 1) := by decide +kernel
theorem dM_noTensor_17 : decode prog_7_method_2_code 17 = .ok (.ireturn, 1) := by decide +kernel
abbrev yM_scale : MethodName := ⟨"ArenaNetworkModel", "scale", "(III)I"⟩
abbrev rmM_scale : Room := { frames := 0, cells := 0, slots := 0, locals := 0 }
theorem ykM_scale : yOk yM_scale 3 := by decide +kernel
theorem dM_scale_0 : decode prog_7_method_6_code 0 = .ok (.iload_n 1, 1) := by decide +kernel
theorem dM_scale_1 : decode prog_7_method_6_code 1 = .ok (.ifCond .lt (23), 3) := by decide +kernel
theorem dM_scale_4 : decode prog_7_method_6_code 4 = .ok (.iload_n 1, 1) := by decide +kernel
theorem dM_scale_5 : decode prog_7_method_6_code 5 = .ok (.bipush (7), 2) := by decide +kernel
theorem dM_scale_7 : decode prog_7_method_6_code 7 = .ok (.if_icmp .gt (17), 3) := by decide +kernel
theorem dM_scale_10 : decode prog_7_method_6_code 10 = .ok (.iload_n 2, 1) := by decide +kernel
theorem dM_scale_11 : decode prog_7_method_6_code 11 = .ok (.ifCond .lt (13), 3) := by decide +kernel
theorem dM_scale_14 : decode prog_7_method_6_code 14 = .ok (.iload_n 3, 1) := by decide +kernel
theorem dM_scale_15 : decode prog_7_method_6_code 15 = .ok (.ifCond .lt (9), 3) := by decide +kernel
theorem dM_scale_18 : decode prog_7_method_6_code 18 = .ok (.iload_n 3, 1) := by decide +kernel
theorem dM_scale_19 : decode prog_7_method_6_code 19 = .ok (.bipush (30), 2) := by decide +kernel
theorem dM_scale_21 : decode prog_7_method_6_code 21 = .ok (.if_icmp .le (5), 3) := by decide +kernel
theorem dM_scale_24 : decode prog_7_method_6_code 24 = .ok (.iconst (-1), 1) := by decide +kernel
theorem dM_scale_25 : decode prog_7_method_6_code 25 = .ok (.ireturn, 1) := by decide +kernel
theorem dM_scale_26 : decode prog_7_method_6_code 26 = .ok (.aload_n 0, 1) := by decide +kernel
theorem dM_scale_27 : decode prog_7_method_6_code 27 = .ok (.getfield 68, 3) := by decide +kernel
theorem dM_scale_30 : decode prog_7_method_6_code 30 = .ok (.ifCond .eq (6), 3) := by decide +kernel
theorem dM_scale_33 : decode prog_7_method_6_code 33 = .ok (.bipush (-3), 2) := by decide +kernel
theorem dM_scale_35 : decode prog_7_method_6_code 35 = .ok (.ireturn, 1) := by decide +kernel
theorem dM_scale_36 : decode prog_7_method_6_code 36 = .ok (.aload_n 0, 1) := by decide +kernel
theorem dM_scale_37 : decode prog_7_method_6_code 37 = .ok (.getfield 29, 3) := by decide +kernel
theorem dM_scale_40 : decode prog_7_method_6_code 40 = .ok (.iload_n 1, 1) := by decide +kernel
theorem dM_scale_41 : decode prog_7_method_6_code 41 = .ok (.iload_n 2, 1) := by decide +kernel
theorem dM_scale_42 : decode prog_7_method_6_code 42 = .ok (.iastore, 1) := by decide +kernel
theorem dM_scale_43 : decode prog_7_method_6_code 43 = .ok (.aload_n 0, 1) := by decide +kernel
theorem dM_scale_44 : decode prog_7_method_6_code 44 = .ok (.getfield 32, 3) := by decide +kernel
theorem dM_scale_47 : decode prog_7_method_6_code 47 = .ok (.iload_n 1, 1) := by decide +kernel
theorem dM_scale_48 : decode prog_7_method_6_code 48 = .ok (.iload_n 3, 1) := by decide +kernel
theorem dM_scale_49 : decode prog_7_method_6_code 49 = .ok (.iastore, 1) := by decide +kernel
theorem dM_scale_50 : decode prog_7_method_6_code 50 = .ok (.iconst (0), 1) := by decide +kernel
theorem dM_scale_51 : decode prog_7_method_6_code 51 = .ok (.ireturn, 1) := by decide +kernel
abbrev yM_operator : MethodName := ⟨"ArenaNetworkModel", "operator", "(IIIII)I"⟩
abbrev rmM_operator : Room := { frames := 1, cells := 0, slots := 0, locals := 21 }
theorem ykM_operator : yOk yM_operator 5 := by decide +kernel
theorem dM_operator_0 : decode prog_7_method_7_code 0 = .ok (.iload_n 1, 1) := by decide +kernel
theorem dM_operator_1 : decode prog_7_method_7_code 1 = .ok (.ifCond .lt (46), 3) := by decide +kernel
theorem dM_operator_4 : decode prog_7_method_7_code 4 = .ok (.iload_n 1, 1) := by decide +kernel
theorem dM_operator_5 : decode prog_7_method_7_code 5 = .ok (.bipush (7), 2) := by decide +kernel
theorem dM_operator_7 : decode prog_7_method_7_code 7 = .ok (.if_icmp .gt (40), 3) := by decide +kernel
theorem dM_operator_10 : decode prog_7_method_7_code 10 = .ok (.aload_n 0, 1) := by decide +kernel
theorem dM_operator_11 : decode prog_7_method_7_code 11 = .ok (.iload_n 2, 1) := by decide +kernel
theorem dM_operator_12 : decode prog_7_method_7_code 12 = .ok (.invokevirtual 72, 3) := by decide +kernel
theorem dM_operator_15 : decode prog_7_method_7_code 15 = .ok (.ifCond .ne (32), 3) := by decide +kernel
theorem dM_operator_18 : decode prog_7_method_7_code 18 = .ok (.aload_n 0, 1) := by decide +kernel
theorem dM_operator_19 : decode prog_7_method_7_code 19 = .ok (.iload_n 3, 1) := by decide +kernel
theorem dM_operator_20 : decode prog_7_method_7_code 20 = .ok (.invokevirtual 72, 3) := by decide +kernel
theorem dM_operator_23 : decode prog_7_method_7_code 23 = .ok (.ifCond .ne (24), 3) := by decide +kernel
theorem dM_operator_26 : decode prog_7_method_7_code 26 = .ok (.aload_n 0, 1) := by decide +kernel
theorem dM_operator_27 : decode prog_7_method_7_code 27 = .ok (.iload 4, 2) := by decide +kernel
theorem dM_operator_29 : decode prog_7_method_7_code 29 = .ok (.invokevirtual 72, 3) := by decide +kernel
theorem dM_operator_32 : decode prog_7_method_7_code 32 = .ok (.ifCond .ne (15), 3) := by decide +kernel
theorem dM_operator_35 : decode prog_7_method_7_code 35 = .ok (.iload 5, 2) := by decide +kernel
theorem dM_operator_37 : decode prog_7_method_7_code 37 = .ok (.ifCond .lt (10), 3) := by decide +kernel
theorem dM_operator_40 : decode prog_7_method_7_code 40 = .ok (.iload 5, 2) := by decide +kernel
theorem dM_operator_42 : decode prog_7_method_7_code 42 = .ok (.bipush (7), 2) := by decide +kernel
theorem dM_operator_44 : decode prog_7_method_7_code 44 = .ok (.if_icmp .le (5), 3) := by decide +kernel
theorem dM_operator_47 : decode prog_7_method_7_code 47 = .ok (.iconst (-1), 1) := by decide +kernel
theorem dM_operator_48 : decode prog_7_method_7_code 48 = .ok (.ireturn, 1) := by decide +kernel
theorem dM_operator_49 : decode prog_7_method_7_code 49 = .ok (.aload_n 0, 1) := by decide +kernel
theorem dM_operator_50 : decode prog_7_method_7_code 50 = .ok (.getfield 68, 3) := by decide +kernel
theorem dM_operator_53 : decode prog_7_method_7_code 53 = .ok (.ifCond .eq (6), 3) := by decide +kernel
theorem dM_operator_56 : decode prog_7_method_7_code 56 = .ok (.bipush (-3), 2) := by decide +kernel
theorem dM_operator_58 : decode prog_7_method_7_code 58 = .ok (.ireturn, 1) := by decide +kernel
theorem dM_operator_59 : decode prog_7_method_7_code 59 = .ok (.aload_n 0, 1) := by decide +kernel
theorem dM_operator_60 : decode prog_7_method_7_code 60 = .ok (.getfield 75, 3) := by decide +kernel
theorem dM_operator_63 : decode prog_7_method_7_code 63 = .ok (.bipush (14), 2) := by decide +kernel
theorem dM_operator_65 : decode prog_7_method_7_code 65 = .ok (.if_icmp .ne (6), 3) := by decide +kernel
theorem dM_operator_68 : decode prog_7_method_7_code 68 = .ok (.bipush (-2), 2) := by decide +kernel
theorem dM_operator_70 : decode prog_7_method_7_code 70 = .ok (.ireturn, 1) := by decide +kernel
theorem dM_operator_71 : decode prog_7_method_7_code 71 = .ok (.aload_n 0, 1) := by decide +kernel
theorem dM_operator_72 : decode prog_7_method_7_code 72 = .ok (.getfield 35, 3) := by decide +kernel
theorem dM_operator_75 : decode prog_7_method_7_code 75 = .ok (.aload_n 0, 1) := by decide +kernel
theorem dM_operator_76 : decode prog_7_method_7_code 76 = .ok (.getfield 75, 3) := by decide +kernel
theorem dM_operator_79 : decode prog_7_method_7_code 79 = .ok (.iload_n 1, 1) := by decide +kernel
theorem dM_operator_80 : decode prog_7_method_7_code 80 = .ok (.iastore, 1) := by decide +kernel
theorem dM_operator_81 : decode prog_7_method_7_code 81 = .ok (.aload_n 0, 1) := by decide +kernel
theorem dM_operator_82 : decode prog_7_method_7_code 82 = .ok (.getfield 38, 3) := by decide +kernel
theorem dM_operator_85 : decode prog_7_method_7_code 85 = .ok (.aload_n 0, 1) := by decide +kernel
theorem dM_operator_86 : decode prog_7_method_7_code 86 = .ok (.getfield 75, 3) := by decide +kernel
theorem dM_operator_89 : decode prog_7_method_7_code 89 = .ok (.iload_n 2, 1) := by decide +kernel
theorem dM_operator_90 : decode prog_7_method_7_code 90 = .ok (.iastore, 1) := by decide +kernel
theorem dM_operator_91 : decode prog_7_method_7_code 91 = .ok (.aload_n 0, 1) := by decide +kernel
theorem dM_operator_92 : decode prog_7_method_7_code 92 = .ok (.getfield 41, 3) := by decide +kernel
theorem dM_operator_95 : decode prog_7_method_7_code 95 = .ok (.aload_n 0, 1) := by decide +kernel
theorem dM_operator_96 : decode prog_7_method_7_code 96 = .ok (.getfield 75, 3) := by decide +kernel
theorem dM_operator_99 : decode prog_7_method_7_code 99 = .ok (.iload_n 3, 1) := by decide +kernel
theorem dM_operator_100 : decode prog_7_method_7_code 100 = .ok (.iastore, 1) := by decide +kernel
theorem dM_operator_101 : decode prog_7_method_7_code 101 = .ok (.aload_n 0, 1) := by decide +kernel
theorem dM_operator_102 : decode prog_7_method_7_code 102 = .ok (.getfield 44, 3) := by decide +kernel
theorem dM_operator_105 : decode prog_7_method_7_code 105 = .ok (.aload_n 0, 1) := by decide +kernel
theorem dM_operator_106 : decode prog_7_method_7_code 106 = .ok (.getfield 75, 3) := by decide +kernel
theorem dM_operator_109 : decode prog_7_method_7_code 109 = .ok (.iload 4, 2) := by decide +kernel
theorem dM_operator_111 : decode prog_7_method_7_code 111 = .ok (.iastore, 1) := by decide +kernel
theorem dM_operator_112 : decode prog_7_method_7_code 112 = .ok (.aload_n 0, 1) := by decide +kernel
theorem dM_operator_113 : decode prog_7_method_7_code 113 = .ok (.getfield 47, 3) := by decide +kernel
theorem dM_operator_116 : decode prog_7_method_7_code 116 = .ok (.aload_n 0, 1) := by decide +kernel
theorem dM_operator_117 : decode prog_7_method_7_code 117 = .ok (.getfield 75, 3) := by decide +kernel
theorem dM_operator_120 : decode prog_7_method_7_code 120 = .ok (.iload 5, 2) := by decide +kernel
theorem dM_operator_122 : decode prog_7_method_7_code 122 = .ok (.iastore, 1) := by decide +kernel
theorem dM_operator_123 : decode prog_7_method_7_code 123 = .ok (.aload_n 0, 1) := by decide +kernel
theorem dM_operator_124 : decode prog_7_method_7_code 124 = .ok (.dup, 1) := by decide +kernel
theorem dM_operator_125 : decode prog_7_method_7_code 125 = .ok (.getfield 75, 3) := by decide +kernel
theorem dM_operator_128 : decode prog_7_method_7_code 128 = .ok (.iconst (1), 1) := by decide +kernel
theorem dM_operator_129 : decode prog_7_method_7_code 129 = .ok (.iadd, 1) := by decide +kernel
theorem dM_operator_130 : decode prog_7_method_7_code 130 = .ok (.putfield 75, 3) := by decide +kernel
theorem dM_operator_133 : decode prog_7_method_7_code 133 = .ok (.aload_n 0, 1) := by decide +kernel
theorem dM_operator_134 : decode prog_7_method_7_code 134 = .ok (.getfield 75, 3) := by decide +kernel
theorem dM_operator_137 : decode prog_7_method_7_code 137 = .ok (.iconst (1), 1) := by decide +kernel
theorem dM_operator_138 : decode prog_7_method_7_code 138 = .ok (.isub, 1) := by decide +kernel
theorem dM_operator_139 : decode prog_7_method_7_code 139 = .ok (.ireturn, 1) := by decide +kernel
abbrev yM_keep : MethodName := ⟨"ArenaNetworkModel", "keep", "(IZ)I"⟩
abbrev rmM_keep : Room := { frames := 1, cells := 0, slots := 0, locals := 21 }
theorem ykM_keep : yOk yM_keep 2 := by decide +kernel
theorem dM_keep_0 : decode prog_7_method_8_code 0 = .ok (.aload_n 0, 1) := by decide +kernel
theorem dM_keep_1 : decode prog_7_method_8_code 1 = .ok (.iload_n 1, 1) := by decide +kernel
theorem dM_keep_2 : decode prog_7_method_8_code 2 = .ok (.invokevirtual 72, 3) := by decide +kernel
theorem dM_keep_5 : decode prog_7_method_8_code 5 = .ok (.ifCond .ne (12), 3) := by decide +kernel
theorem dM_keep_8 : decode prog_7_method_8_code 8 = .ok (.aload_n 0, 1) := by decide +kernel
theorem dM_keep_9 : decode prog_7_method_8_code 9 = .ok (.getfield 7, 3) := by decide +kernel
theorem dM_keep_12 : decode prog_7_method_8_code 12 = .ok (.iload_n 1, 1) := by decide +kernel
theorem dM_keep_13 : decode prog_7_method_8_code 13 = .ok (.iaload, 1) := by decide +kernel
theorem dM_keep_14 : decode prog_7_method_8_code 14 = .ok (.ifCond .ne (5), 3) := by decide +kernel
theorem dM_keep_17 : decode prog_7_method_8_code 17 = .ok (.iconst (-1), 1) := by decide +kernel
theorem dM_keep_18 : decode prog_7_method_8_code 18 = .ok (.ireturn, 1) := by decide +kernel
theorem dM_keep_19 : decode prog_7_method_8_code 19 = .ok (.aload_n 0, 1) := by decide +kernel
theorem dM_keep_20 : decode prog_7_method_8_code 20 = .ok (.getfield 68, 3) := by decide +kernel
theorem dM_keep_23 : decode prog_7_method_8_code 23 = .ok (.ifCond .eq (6), 3) := by decide +kernel
theorem dM_keep_26 : decode prog_7_method_8_code 26 = .ok (.bipush (-3), 2) := by decide +kernel
theorem dM_keep_28 : decode prog_7_method_8_code 28 = .ok (.ireturn, 1) := by decide +kernel
theorem dM_keep_29 : decode prog_7_method_8_code 29 = .ok (.aload_n 0, 1) := by decide +kernel
theorem dM_keep_30 : decode prog_7_method_8_code 30 = .ok (.getfield 19, 3) := by decide +kernel
theorem dM_keep_33 : decode prog_7_method_8_code 33 = .ok (.iload_n 1, 1) := by decide +kernel
theorem dM_keep_34 : decode prog_7_method_8_code 34 = .ok (.iload_n 2, 1) := by decide +kernel
theorem dM_keep_35 : decode prog_7_method_8_code 35 = .ok (.bastore, 1) := by decide +kernel
theorem dM_keep_36 : decode prog_7_method_8_code 36 = .ok (.iconst (0), 1) := by decide +kernel
theorem dM_keep_37 : decode prog_7_method_8_code 37 = .ok (.ireturn, 1) := by decide +kernel
abbrev yM_maker : MethodName := ⟨"ArenaNetworkModel", "maker", "(II)I"⟩
abbrev rmM_maker : Room := { frames := 0, cells := 0, slots := 0, locals := 0 }
theorem ykM_maker : yOk yM_maker 2 := by decide +kernel
theorem dM_maker_0 : decode prog_7_method_9_code 0 = .ok (.iconst (0), 1) := by decide +kernel
theorem dM_maker_1 : decode prog_7_method_9_code 1 = .ok (.istore_n 3, 1) := by decide +kernel
theorem dM_maker_2 : decode prog_7_method_9_code 2 = .ok (.iload_n 3, 1) := by decide +kernel
theorem dM_maker_3 : decode prog_7_method_9_code 3 = .ok (.iload_n 2, 1) := by decide +kernel
theorem dM_maker_4 : decode prog_7_method_9_code 4 = .ok (.if_icmp .ge (21), 3) := by decide +kernel
theorem dM_maker_7 : decode prog_7_method_9_code 7 = .ok (.aload_n 0, 1) := by decide +kernel
theorem dM_maker_8 : decode prog_7_method_9_code 8 = .ok (.getfield 44, 3) := by decide +kernel
theorem dM_maker_11 : decode prog_7_method_9_code 11 = .ok (.iload_n 3, 1) := by decide +kernel
theorem dM_maker_12 : decode prog_7_method_9_code 12 = .ok (.iaload, 1) := by decide +kernel
theorem dM_maker_13 : decode prog_7_method_9_code 13 = .ok (.iload_n 1, 1) := by decide +kernel
theorem dM_maker_14 : decode prog_7_method_9_code 14 = .ok (.if_icmp .ne (5), 3) := by decide +kernel
theorem dM_maker_17 : decode prog_7_method_9_code 17 = .ok (.iload_n 3, 1) := by decide +kernel
theorem dM_maker_18 : decode prog_7_method_9_code 18 = .ok (.ireturn, 1) := by decide +kernel
theorem dM_maker_19 : decode prog_7_method_9_code 19 = .ok (.iinc 3 (1), 3) := by decide +kernel
theorem dM_maker_22 : decode prog_7_method_9_code 22 = .ok (.goto (-20), 3) := by decide +kernel
theorem dM_maker_25 : decode prog_7_method_9_code 25 = .ok (.iconst (-1), 1) := by decide +kernel
theorem dM_maker_26 : decode prog_7_method_9_code 26 = .ok (.ireturn, 1) := by decide +kernel
abbrev yM_unmade : MethodName := ⟨"ArenaNetworkModel", "unmade", "(II)Z"⟩
abbrev rmM_unmade : Room := { frames := 1, cells := 0, slots := 0, locals := 23 }
theorem ykM_unmade : yOk yM_unmade 2 := by decide +kernel
theorem dM_unmade_0 : decode prog_7_method_11_code 0 = .ok (.aload_n 0, 1) := by decide +kernel
theorem dM_unmade_1 : decode prog_7_method_11_code 1 = .ok (.getfield 7, 3) := by decide +kernel
theorem dM_unmade_4 : decode prog_7_method_11_code 4 = .ok (.iload_n 1, 1) := by decide +kernel
theorem dM_unmade_5 : decode prog_7_method_11_code 5 = .ok (.iaload, 1) := by decide +kernel
theorem dM_unmade_6 : decode prog_7_method_11_code 6 = .ok (.iconst (2), 1) := by decide +kernel
theorem dM_unmade_7 : decode prog_7_method_11_code 7 = .ok (.if_icmp .ne (16), 3) := by decide +kernel
theorem dM_unmade_10 : decode prog_7_method_11_code 10 = .ok (.aload_n 0, 1) := by decide +kernel
theorem dM_unmade_11 : decode prog_7_method_11_code 11 = .ok (.iload_n 1, 1) := by decide +kernel
theorem dM_unmade_12 : decode prog_7_method_11_code 12 = .ok (.iload_n 2, 1) := by decide +kernel
theorem dM_unmade_13 : decode prog_7_method_11_code 13 = .ok (.invokevirtual 78, 3) := by decide +kernel
theorem dM_unmade_16 : decode prog_7_method_11_code 16 = .ok (.ifCond .ge (7), 3) := by decide +kernel
theorem dM_unmade_19 : decode prog_7_method_11_code 19 = .ok (.iconst (1), 1) := by decide +kernel
theorem dM_unmade_20 : decode prog_7_method_11_code 20 = .ok (.goto (4), 3) := by decide +kernel
theorem dM_unmade_23 : decode prog_7_method_11_code 23 = .ok (.iconst (0), 1) := by decide +kernel
theorem dM_unmade_24 : decode prog_7_method_11_code 24 = .ok (.ireturn, 1) := by decide +kernel
def fM_init_b133 (b : Nat)  (rec133 : Int32 → Nat → cW → Option (Unit × cW)) (a1 : Int32) (c : Nat) (w : cW) : Option (Unit × cW) :=
  if (8 : Int32) ≤ a1 then (
    if c < 21 then (
    some ((), w)) else none) else
  (gQ w (some b) 5 7).bind fun r2 =>
  (stI w r2 .int a1 (1073741824 : Int32)).bind fun w3 =>
  bnd (a1 + (1 : Int32)) fun x4 =>
  rec133 x4 c w3
def fM_init_l133 (b : Nat)  (n : Nat) : Int32 → Nat → cW → Option (Unit × cW) := lp (fun _ _ _ => none) (fM_init_b133 b ) n
def fM_init (b : Nat)  (w : cW) : Option (Unit × cW) :=
  (alI w 0 (20 : Int32) 1300).bind fun w1 =>
  (pQ w1 (some b) 5 0 (some w.2.1)).bind fun w2 =>
  (alI w2 0 (20 : Int32) 1300).bind fun w3 =>
  (pQ w3 (some b) 5 1 (some w2.2.1)).bind fun w4 =>
  (alI w4 0 (20 : Int32) 1300).bind fun w5 =>
  (pQ w5 (some b) 5 2 (some w4.2.1)).bind fun w6 =>
  (alI w6 1 (20 : Int32) 1300).bind fun w7 =>
  (pQ w7 (some b) 5 3 (some w6.2.1)).bind fun w8 =>
  (alI w8 0 (1280 : Int32) 1300).bind fun w9 =>
  (pQ w9 (some b) 5 4 (some w8.2.1)).bind fun w10 =>
  (alI w10 0 (1280 : Int32) 1300).bind fun w11 =>
  (pQ w11 (some b) 5 5 (some w10.2.1)).bind fun w12 =>
  (alI w12 0 (8 : Int32) 1300).bind fun w13 =>
  (pQ w13 (some b) 5 7 (some w12.2.1)).bind fun w14 =>
  (alI w14 0 (8 : Int32) 1300).bind fun w15 =>
  (pQ w15 (some b) 5 8 (some w14.2.1)).bind fun w16 =>
  (alI w16 0 (14 : Int32) 1300).bind fun w17 =>
  (pQ w17 (some b) 5 9 (some w16.2.1)).bind fun w18 =>
  (alI w18 0 (14 : Int32) 1300).bind fun w19 =>
  (pQ w19 (some b) 5 10 (some w18.2.1)).bind fun w20 =>
  (alI w20 0 (14 : Int32) 1300).bind fun w21 =>
  (pQ w21 (some b) 5 11 (some w20.2.1)).bind fun w22 =>
  (alI w22 0 (14 : Int32) 1300).bind fun w23 =>
  (pQ w23 (some b) 5 12 (some w22.2.1)).bind fun w24 =>
  (alI w24 0 (14 : Int32) 1300).bind fun w25 =>
  (pQ w25 (some b) 5 13 (some w24.2.1)).bind fun w26 =>
  (alI w26 0 (20 : Int32) 1300).bind fun w27 =>
  (pQ w27 (some b) 5 16 (some w26.2.1)).bind fun w28 =>
  (alI w28 0 (20 : Int32) 1300).bind fun w29 =>
  (pQ w29 (some b) 5 17 (some w28.2.1)).bind fun w30 =>
  (pI w30 (some b) 5 18 (-1 : Int32)).bind fun w31 =>
  fM_init_l133 b FU (0 : Int32) (15) w31
def fM_noByte (b : Nat) (a1 : Int32) (w : cW) : Option (Int32 × cW) :=
  if a1 < (-128 : Int32) then (
    some ((1 : Int32), w)) else
  if a1 ≤ (127 : Int32) then (
    some ((0 : Int32), w)) else
  some ((1 : Int32), w)
def fM_noTensor (b : Nat) (a1 : Int32) (w : cW) : Option (Int32 × cW) :=
  if a1 < 0 then (
    some ((1 : Int32), w)) else
  (gI w (some b) 5 6).bind fun x1 =>
  if a1 < x1 then (
    some ((0 : Int32), w)) else
  some ((1 : Int32), w)
def fM_scale (b : Nat) (a1 : Int32) (a2 : Int32) (a3 : Int32) (w : cW) : Option (Int32 × cW) :=
  if a1 < 0 then (
    some ((-1 : Int32), w)) else
  if (7 : Int32) < a1 then (
    some ((-1 : Int32), w)) else
  if a2 < 0 then (
    some ((-1 : Int32), w)) else
  if a3 < 0 then (
    some ((-1 : Int32), w)) else
  if a3 ≤ (30 : Int32) then (
    (gI w (some b) 5 15).bind fun x1 =>
    if x1 = 0 then (
      (gQ w (some b) 5 7).bind fun r2 =>
      (stI w r2 .int a1 a2).bind fun w3 =>
      (gQ w3 (some b) 5 8).bind fun r4 =>
      (stI w3 r4 .int a1 a3).bind fun w5 =>
      some ((0 : Int32), w5)) else
    some ((-3 : Int32), w)) else
  some ((-1 : Int32), w)
def fM_operator (b : Nat) (a1 : Int32) (a2 : Int32) (a3 : Int32) (a4 : Int32) (a5 : Int32) (w : cW) : Option (Int32 × cW) :=
  if a1 < 0 then (
    some ((-1 : Int32), w)) else
  if (7 : Int32) < a1 then (
    some ((-1 : Int32), w)) else
  (cRcv w (some b) 5).bind fun b3 => cbd (fM_noTensor b3 a2 w) fun x1 w2 =>
  if x1 = 0 then (
    (cRcv w2 (some b) 5).bind fun b6 => cbd (fM_noTensor b6 a3 w2) fun x4 w5 =>
    if x4 = 0 then (
      (cRcv w5 (some b) 5).bind fun b9 => cbd (fM_noTensor b9 a4 w5) fun x7 w8 =>
      if x7 = 0 then (
        if a5 < 0 then (
          some ((-1 : Int32), w8)) else
        if a5 ≤ (7 : Int32) then (
          (gI w8 (some b) 5 15).bind fun x10 =>
          if x10 = 0 then (
            (gI w8 (some b) 5 14).bind fun x11 =>
            if x11 = (14 : Int32) then (
              some ((-2 : Int32), w8)) else
            (gQ w8 (some b) 5 9).bind fun r12 =>
            (gI w8 (some b) 5 14).bind fun x13 =>
            (stI w8 r12 .int x13 a1).bind fun w14 =>
            (gQ w14 (some b) 5 10).bind fun r15 =>
            (gI w14 (some b) 5 14).bind fun x16 =>
            (stI w14 r15 .int x16 a2).bind fun w17 =>
            (gQ w17 (some b) 5 11).bind fun r18 =>
            (gI w17 (some b) 5 14).bind fun x19 =>
            (stI w17 r18 .int x19 a3).bind fun w20 =>
            (gQ w20 (some b) 5 12).bind fun r21 =>
            (gI w20 (some b) 5 14).bind fun x22 =>
            (stI w20 r21 .int x22 a4).bind fun w23 =>
            (gQ w23 (some b) 5 13).bind fun r24 =>
            (gI w23 (some b) 5 14).bind fun x25 =>
            (stI w23 r24 .int x25 a5).bind fun w26 =>
            (gI w26 (some b) 5 14).bind fun x27 =>
            (pI w26 (some b) 5 14 (x27 + (1 : Int32))).bind fun w28 =>
            (gI w28 (some b) 5 14).bind fun x29 =>
            some ((x29 - (1 : Int32)), w28)) else
          some ((-3 : Int32), w8)) else
        some ((-1 : Int32), w8)) else
      some ((-1 : Int32), w8)) else
    some ((-1 : Int32), w5)) else
  some ((-1 : Int32), w2)
def fM_keep (b : Nat) (a1 : Int32) (a2 : Int32) (w : cW) : Option (Int32 × cW) :=
  (cRcv w (some b) 5).bind fun b3 => cbd (fM_noTensor b3 a1 w) fun x1 w2 =>
  if x1 = 0 then (
    (gQ w2 (some b) 5 0).bind fun r4 =>
    (ldI w2 r4 .int a1).bind fun x5 =>
    if x5 = 0 then (
      some ((-1 : Int32), w2)) else
    (gI w2 (some b) 5 15).bind fun x6 =>
    if x6 = 0 then (
      (gQ w2 (some b) 5 3).bind fun r7 =>
      (stI w2 r7 .boolean a1 a2).bind fun w8 =>
      some ((0 : Int32), w8)) else
    some ((-3 : Int32), w2)) else
  some ((-1 : Int32), w2)
def fM_maker_b2 (b : Nat)  (rec2 : Int32 → Int32 → Int32 → cW → Option (Int32 × cW)) (a1 : Int32) (a2 : Int32) (a3 : Int32) (w : cW) : Option (Int32 × cW) :=
  if a2 ≤ a3 then (
    some ((-1 : Int32), w)) else
  (gQ w (some b) 5 12).bind fun r1 =>
  (ldI w r1 .int a3).bind fun x2 =>
  if x2 = a1 then (
    some (a3, w)) else
  bnd (a3 + (1 : Int32)) fun x3 =>
  rec2 a1 a2 x3 w
def fM_maker_l2 (b : Nat)  (n : Nat) : Int32 → Int32 → Int32 → cW → Option (Int32 × cW) := lp (fun _ _ _ _ => none) (fM_maker_b2 b ) n
def fM_maker (b : Nat) (a1 : Int32) (a2 : Int32) (w : cW) : Option (Int32 × cW) :=
  fM_maker_l2 b FU a1 a2 (0 : Int32) w
def fM_unmade (b : Nat) (a1 : Int32) (a2 : Int32) (w : cW) : Option (Int32 × cW) :=
  (gQ w (some b) 5 0).bind fun r1 =>
  (ldI w r1 .int a1).bind fun x2 =>
  if x2 = (2 : Int32) then (
    (cRcv w (some b) 5).bind fun b5 => cbd (fM_maker b5 a1 a2 w) fun x3 w4 =>
    if 0 ≤ x3 then (
      some ((0 : Int32), w4)) else
    some ((1 : Int32), w4)) else
  some ((0 : Int32), w)
set_option maxHeartbeats 4000000 in
set_option maxRecDepth 100000 in
theorem tM_init_l133 {C : xC} {G : cG} {w0 w' : cW} {r : Unit} {b : Nat} (hC : okC C prog_7_method_1_code 2 "ArenaNetworkModel" lw_gd) (hE : xE C none mkV G w0 w' r) (hR : xR C = rmM_init) (hN : (xmeth C).name = "<init>")  : ∀ n : Nat, ∀ (a1 : Int32) (c : Nat) (w : cW), fM_init_l133 b n a1 c w = some (r, w') → V C w (1 * c) (1300 * c) 133 [(0, va_rf (some b)), (1, .int a1)] [] := by
  refine lp_P (P := fun (f : Int32 → Nat → cW → Option (Unit × cW)) => ∀ (a1 : Int32) (c : Nat) (w : cW), f a1 c w = some (r, w') → V C w (1 * c) (1300 * c) 133 [(0, va_rf (some b)), (1, .int a1)] []) ?_ ?_
  · intro a1 c w hf
    cases hf
  · intro rec133 hrec133 a1 c w hf
    unfold fM_init_b133 at hf
    refine v_iload_n (pc := 133) (i := 1) (x := a1) hC dM_init_133 rfl 1 rfl ?_
    refine v_bipush (pc := 134) (v := (8 : Int32)) hC dM_init_134 (by decide) ?_
    refine v_icmp_ge (pc := 136) (tgt := 153) hC dM_init_136 (by decide) hf (fun hf => ?_) (fun hf => ?_)
    · by_cases ec1 : c < 21
      rotate_left
      · rw [if_neg ec1] at hf; cases hf
      rw [if_pos ec1] at hf
      exact v_vret (pc := 153) hC hE dM_init_153 (by rw [hR]; simp only [rmM_init]; omega) (by rw [hR]; simp only [rmM_init]; omega) hf
    · refine v_aload_n (pc := 139) (i := 0) (r := (some b)) hC dM_init_139 rfl 0 rfl ?_
      refine v_getQ (pc := 140) (r := (some b)) hC dM_init_140 inM rfl 7 (by decide) q482 (Or.inl rfl) hf (fun r2 hf => ?_)
      refine v_iload_n (pc := 143) (i := 1) (x := a1) hC dM_init_143 rfl 1 rfl ?_
      refine v_ldc (pc := 144) (v := (1073741824 : Int32)) hC dM_init_144 q474 ?_
      refine v_iast (pc := 146) hC dM_init_146 hf (fun w3 hf => ?_)
      refine v_iincB (pc := 147) (i := 1) (x := a1) (v := (1 : Int32)) hC dM_init_147 1 rfl (by decide) (by decide) (fun x4 => [(1, .int x4), (0, va_rf (some b))]) (fun _ => rfl) hf (fun x4 hf => ?_)
      refine v_goto (pc := 150) (tgt := 133) hC dM_init_150 (by decide) ?_
      exact V.sub [1, 0] rfl (hrec133 _ _ _ hf)
set_option maxHeartbeats 4000000 in
set_option maxRecDepth 100000 in
theorem tM_init {C : xC} {G : cG} {w0 w' : cW} {r : Unit} {b : Nat} (hC : okC C prog_7_method_1_code 2 "ArenaNetworkModel" lw_gd) (hE : xE C none mkV G w0 w' r) (hR : xR C = rmM_init) (hN : (xmeth C).name = "<init>")  (w : cW) (hf : fM_init b w = some (r, w')) : V C w 0 0 0 [(0, va_rf (some b))] [] := by
  unfold fM_init at hf
  refine v_aload_n (pc := 0) (i := 0) (r := (some b)) hC dM_init_0 rfl 0 rfl ?_
  refine v_objInit (pc := 1) (b := b) (rest := []) hC dM_init_1 q473 q22 q23 (by simp only [List.map_cons, List.map_nil, va_cat]; exact Nat.le_of_ble_eq_true rfl) (by rw [hR]; decide) ?_
  refine v_aload_n (pc := 4) (i := 0) (r := (some b)) hC dM_init_4 rfl 0 rfl ?_
  refine v_bipush (pc := 5) (v := (20 : Int32)) hC dM_init_5 (by decide) ?_
  refine v_newa (pc := 7) (t := 0) (b := 1300) hC dM_init_7 q176 rfl (by decide) (fun _ _ => rfl) (by decide) (fun _ _ h => h) (by rw [hR]; decide) (by rw [hR]; decide) hf (fun w1 hf => ?_)
  refine V.widen (k' := 1) (n' := 1300) (by omega) (by omega) ?_
  refine v_putCQ (pc := 9) (r := (some b)) hC dM_init_9 inM rfl tyM tkM nmM 0 (by decide) q475 rfl hN rfl (tkM 0 (by decide)) (Or.inr ⟨_, rfl⟩) hf (fun w2 hf => ?_)
  refine v_aload_n (pc := 12) (i := 0) (r := (some b)) hC dM_init_12 rfl 0 rfl ?_
  refine v_bipush (pc := 13) (v := (20 : Int32)) hC dM_init_13 (by decide) ?_
  refine v_newa (pc := 15) (t := 0) (b := 1300) hC dM_init_15 q176 rfl (by decide) (fun _ _ => rfl) (by decide) (fun _ _ h => h) (by rw [hR]; decide) (by rw [hR]; decide) hf (fun w3 hf => ?_)
  refine V.widen (k' := 2) (n' := 2600) (by omega) (by omega) ?_
  refine v_putCQ (pc := 17) (r := (some b)) hC dM_init_17 inM rfl tyM tkM nmM 1 (by decide) q476 rfl hN rfl (tkM 1 (by decide)) (Or.inr ⟨_, rfl⟩) hf (fun w4 hf => ?_)
  refine v_aload_n (pc := 20) (i := 0) (r := (some b)) hC dM_init_20 rfl 0 rfl ?_
  refine v_bipush (pc := 21) (v := (20 : Int32)) hC dM_init_21 (by decide) ?_
  refine v_newa (pc := 23) (t := 0) (b := 1300) hC dM_init_23 q176 rfl (by decide) (fun _ _ => rfl) (by decide) (fun _ _ h => h) (by rw [hR]; decide) (by rw [hR]; decide) hf (fun w5 hf => ?_)
  refine V.widen (k' := 3) (n' := 3900) (by omega) (by omega) ?_
  refine v_putCQ (pc := 25) (r := (some b)) hC dM_init_25 inM rfl tyM tkM nmM 2 (by decide) q477 rfl hN rfl (tkM 2 (by decide)) (Or.inr ⟨_, rfl⟩) hf (fun w6 hf => ?_)
  refine v_aload_n (pc := 28) (i := 0) (r := (some b)) hC dM_init_28 rfl 0 rfl ?_
  refine v_bipush (pc := 29) (v := (20 : Int32)) hC dM_init_29 (by decide) ?_
  refine v_newa (pc := 31) (t := 1) (b := 1300) hC dM_init_31 q533 rfl (by decide) (fun _ _ => rfl) (by decide) (fun _ _ h => h) (by rw [hR]; decide) (by rw [hR]; decide) hf (fun w7 hf => ?_)
  refine V.widen (k' := 4) (n' := 5200) (by omega) (by omega) ?_
  refine v_putCQ (pc := 33) (r := (some b)) hC dM_init_33 inM rfl tyM tkM nmM 3 (by decide) q478 rfl hN rfl (tkM 3 (by decide)) (Or.inr ⟨_, rfl⟩) hf (fun w8 hf => ?_)
  refine v_aload_n (pc := 36) (i := 0) (r := (some b)) hC dM_init_36 rfl 0 rfl ?_
  refine v_sipush (pc := 37) (v := (1280 : Int32)) hC dM_init_37 (by decide) ?_
  refine v_newa (pc := 40) (t := 0) (b := 1300) hC dM_init_40 q176 rfl (by decide) (fun _ _ => rfl) (by decide) (fun _ _ h => h) (by rw [hR]; decide) (by rw [hR]; decide) hf (fun w9 hf => ?_)
  refine V.widen (k' := 5) (n' := 6500) (by omega) (by omega) ?_
  refine v_putCQ (pc := 42) (r := (some b)) hC dM_init_42 inM rfl tyM tkM nmM 4 (by decide) q479 rfl hN rfl (tkM 4 (by decide)) (Or.inr ⟨_, rfl⟩) hf (fun w10 hf => ?_)
  refine v_aload_n (pc := 45) (i := 0) (r := (some b)) hC dM_init_45 rfl 0 rfl ?_
  refine v_sipush (pc := 46) (v := (1280 : Int32)) hC dM_init_46 (by decide) ?_
  refine v_newa (pc := 49) (t := 0) (b := 1300) hC dM_init_49 q176 rfl (by decide) (fun _ _ => rfl) (by decide) (fun _ _ h => h) (by rw [hR]; decide) (by rw [hR]; decide) hf (fun w11 hf => ?_)
  refine V.widen (k' := 6) (n' := 7800) (by omega) (by omega) ?_
  refine v_putCQ (pc := 51) (r := (some b)) hC dM_init_51 inM rfl tyM tkM nmM 5 (by decide) q480 rfl hN rfl (tkM 5 (by decide)) (Or.inr ⟨_, rfl⟩) hf (fun w12 hf => ?_)
  refine v_aload_n (pc := 54) (i := 0) (r := (some b)) hC dM_init_54 rfl 0 rfl ?_
  refine v_bipush (pc := 55) (v := (8 : Int32)) hC dM_init_55 (by decide) ?_
  refine v_newa (pc := 57) (t := 0) (b := 1300) hC dM_init_57 q176 rfl (by decide) (fun _ _ => rfl) (by decide) (fun _ _ h => h) (by rw [hR]; decide) (by rw [hR]; decide) hf (fun w13 hf => ?_)
  refine V.widen (k' := 7) (n' := 9100) (by omega) (by omega) ?_
  refine v_putCQ (pc := 59) (r := (some b)) hC dM_init_59 inM rfl tyM tkM nmM 7 (by decide) q482 rfl hN rfl (tkM 7 (by decide)) (Or.inr ⟨_, rfl⟩) hf (fun w14 hf => ?_)
  refine v_aload_n (pc := 62) (i := 0) (r := (some b)) hC dM_init_62 rfl 0 rfl ?_
  refine v_bipush (pc := 63) (v := (8 : Int32)) hC dM_init_63 (by decide) ?_
  refine v_newa (pc := 65) (t := 0) (b := 1300) hC dM_init_65 q176 rfl (by decide) (fun _ _ => rfl) (by decide) (fun _ _ h => h) (by rw [hR]; decide) (by rw [hR]; decide) hf (fun w15 hf => ?_)
  refine V.widen (k' := 8) (n' := 10400) (by omega) (by omega) ?_
  refine v_putCQ (pc := 67) (r := (some b)) hC dM_init_67 inM rfl tyM tkM nmM 8 (by decide) q483 rfl hN rfl (tkM 8 (by decide)) (Or.inr ⟨_, rfl⟩) hf (fun w16 hf => ?_)
  refine v_aload_n (pc := 70) (i := 0) (r := (some b)) hC dM_init_70 rfl 0 rfl ?_
  refine v_bipush (pc := 71) (v := (14 : Int32)) hC dM_init_71 (by decide) ?_
  refine v_newa (pc := 73) (t := 0) (b := 1300) hC dM_init_73 q176 rfl (by decide) (fun _ _ => rfl) (by decide) (fun _ _ h => h) (by rw [hR]; decide) (by rw [hR]; decide) hf (fun w17 hf => ?_)
  refine V.widen (k' := 9) (n' := 11700) (by omega) (by omega) ?_
  refine v_putCQ (pc := 75) (r := (some b)) hC dM_init_75 inM rfl tyM tkM nmM 9 (by decide) q484 rfl hN rfl (tkM 9 (by decide)) (Or.inr ⟨_, rfl⟩) hf (fun w18 hf => ?_)
  refine v_aload_n (pc := 78) (i := 0) (r := (some b)) hC dM_init_78 rfl 0 rfl ?_
  refine v_bipush (pc := 79) (v := (14 : Int32)) hC dM_init_79 (by decide) ?_
  refine v_newa (pc := 81) (t := 0) (b := 1300) hC dM_init_81 q176 rfl (by decide) (fun _ _ => rfl) (by decide) (fun _ _ h => h) (by rw [hR]; decide) (by rw [hR]; decide) hf (fun w19 hf => ?_)
  refine V.widen (k' := 10) (n' := 13000) (by omega) (by omega) ?_
  refine v_putCQ (pc := 83) (r := (some b)) hC dM_init_83 inM rfl tyM tkM nmM 10 (by decide) q485 rfl hN rfl (tkM 10 (by decide)) (Or.inr ⟨_, rfl⟩) hf (fun w20 hf => ?_)
  refine v_aload_n (pc := 86) (i := 0) (r := (some b)) hC dM_init_86 rfl 0 rfl ?_
  refine v_bipush (pc := 87) (v := (14 : Int32)) hC dM_init_87 (by decide) ?_
  refine v_newa (pc := 89) (t := 0) (b := 1300) hC dM_init_89 q176 rfl (by decide) (fun _ _ => rfl) (by decide) (fun _ _ h => h) (by rw [hR]; decide) (by rw [hR]; decide) hf (fun w21 hf => ?_)
  refine V.widen (k' := 11) (n' := 14300) (by omega) (by omega) ?_
  refine v_putCQ (pc := 91) (r := (some b)) hC dM_init_91 inM rfl tyM tkM nmM 11 (by decide) q486 rfl hN rfl (tkM 11 (by decide)) (Or.inr ⟨_, rfl⟩) hf (fun w22 hf => ?_)
  refine v_aload_n (pc := 94) (i := 0) (r := (some b)) hC dM_init_94 rfl 0 rfl ?_
  refine v_bipush (pc := 95) (v := (14 : Int32)) hC dM_init_95 (by decide) ?_
  refine v_newa (pc := 97) (t := 0) (b := 1300) hC dM_init_97 q176 rfl (by decide) (fun _ _ => rfl) (by decide) (fun _ _ h => h) (by rw [hR]; decide) (by rw [hR]; decide) hf (fun w23 hf => ?_)
  refine V.widen (k' := 12) (n' := 15600) (by omega) (by omega) ?_
  refine v_putCQ (pc := 99) (r := (some b)) hC dM_init_99 inM rfl tyM tkM nmM 12 (by decide) q487 rfl hN rfl (tkM 12 (by decide)) (Or.inr ⟨_, rfl⟩) hf (fun w24 hf => ?_)
  refine v_aload_n (pc := 102) (i := 0) (r := (some b)) hC dM_init_102 rfl 0 rfl ?_
  refine v_bipush (pc := 103) (v := (14 : Int32)) hC dM_init_103 (by decide) ?_
  refine v_newa (pc := 105) (t := 0) (b := 1300) hC dM_init_105 q176 rfl (by decide) (fun _ _ => rfl) (by decide) (fun _ _ h => h) (by rw [hR]; decide) (by rw [hR]; decide) hf (fun w25 hf => ?_)
  refine V.widen (k' := 13) (n' := 16900) (by omega) (by omega) ?_
  refine v_putCQ (pc := 107) (r := (some b)) hC dM_init_107 inM rfl tyM tkM nmM 13 (by decide) q488 rfl hN rfl (tkM 13 (by decide)) (Or.inr ⟨_, rfl⟩) hf (fun w26 hf => ?_)
  refine v_aload_n (pc := 110) (i := 0) (r := (some b)) hC dM_init_110 rfl 0 rfl ?_
  refine v_bipush (pc := 111) (v := (20 : Int32)) hC dM_init_111 (by decide) ?_
  refine v_newa (pc := 113) (t := 0) (b := 1300) hC dM_init_113 q176 rfl (by decide) (fun _ _ => rfl) (by decide) (fun _ _ h => h) (by rw [hR]; decide) (by rw [hR]; decide) hf (fun w27 hf => ?_)
  refine V.widen (k' := 14) (n' := 18200) (by omega) (by omega) ?_
  refine v_putCQ (pc := 115) (r := (some b)) hC dM_init_115 inM rfl tyM tkM nmM 16 (by decide) q491 rfl hN rfl (tkM 16 (by decide)) (Or.inr ⟨_, rfl⟩) hf (fun w28 hf => ?_)
  refine v_aload_n (pc := 118) (i := 0) (r := (some b)) hC dM_init_118 rfl 0 rfl ?_
  refine v_bipush (pc := 119) (v := (20 : Int32)) hC dM_init_119 (by decide) ?_
  refine v_newa (pc := 121) (t := 0) (b := 1300) hC dM_init_121 q176 rfl (by decide) (fun _ _ => rfl) (by decide) (fun _ _ h => h) (by rw [hR]; decide) (by rw [hR]; decide) hf (fun w29 hf => ?_)
  refine V.widen (k' := 15) (n' := 19500) (by omega) (by omega) ?_
  refine v_putCQ (pc := 123) (r := (some b)) hC dM_init_123 inM rfl tyM tkM nmM 17 (by decide) q492 rfl hN rfl (tkM 17 (by decide)) (Or.inr ⟨_, rfl⟩) hf (fun w30 hf => ?_)
  refine v_aload_n (pc := 126) (i := 0) (r := (some b)) hC dM_init_126 rfl 0 rfl ?_
  refine v_iconst (pc := 127) (v := (-1 : Int32)) hC dM_init_127 (by decide) ?_
  refine v_putI (pc := 128) (r := (some b)) hC dM_init_128 inM rfl tyM tkM nmM 18 (by decide) q493 (Or.inl rfl) rfl (tkM 18 (by decide)) hf (fun w31 hf => ?_)
  refine v_iconst (pc := 131) (v := (0 : Int32)) hC dM_init_131 (by decide) ?_
  refine v_istore_n (pc := 132) (i := 1) (x := (0 : Int32)) hC dM_init_132 rfl (by decide) [(1, .int (0 : Int32)), (0, va_rf (some b))] rfl ?_
  exact V.sub [1, 0] rfl (tM_init_l133 hC hE hR hN  FU _ _ _ hf)
theorem mM_init (l : Launch) (G : cG) (b : Nat)  (w : cW) (r : Unit) (w' : cW) (hf : fM_init b w = some (r, w')) : Met l yM_init (wsM yM_init prog_7_method_1_code 2 none) rmM_init (mP G w [va_rf (some b)]) (mQ mkV G w w' r) (rmM_init).cells (rmM_init).slots (Aw w) :=
  met_of (by decide +kernel) rfl (Nat.le_of_ble_eq_true rfl) (fun C hC hR _ _ hN hts hE => tM_init (okC.tbl hC) hE hR hN  w hf)
set_option maxHeartbeats 4000000 in
set_option maxRecDepth 100000 in
theorem tM_noByte {C : xC} {G : cG} {w0 w' : cW} {r : Int32} {b : Nat} (hC : okC C prog_7_method_3_code 2 "ArenaNetworkModel" lw_gd) (hE : xE C (some .boolean) mkI G w0 w' r) (hR : xR C = rmM_noByte) (a1 : Int32) (w : cW) (hf : fM_noByte b a1 w = some (r, w')) : V C w 0 0 0 [(0, va_rf (some b)), (1, .int a1)] [] := by
  unfold fM_noByte at hf
  refine v_iload_n (pc := 0) (i := 1) (x := a1) hC dM_noByte_0 rfl 1 rfl ?_
  refine v_bipush (pc := 1) (v := (-128 : Int32)) hC dM_noByte_1 (by decide) ?_
  refine v_icmp_lt (pc := 3) (tgt := 12) hC dM_noByte_3 (by decide) hf (fun hf => ?_) (fun hf => ?_)
  · refine v_iconst (pc := 12) (v := (1 : Int32)) hC dM_noByte_12 (by decide) ?_
    refine v_goto (pc := 13) (tgt := 17) hC dM_noByte_13 (by decide) ?_
    exact v_zret (pc := 17) hC hE dM_noByte_17 (by rw [hR]; decide) (by rw [hR]; decide) (by rw [if_pos (by decide)]; exact hf)
  · refine v_iload_n (pc := 6) (i := 1) (x := a1) hC dM_noByte_6 rfl 1 rfl ?_
    refine v_bipush (pc := 7) (v := (127 : Int32)) hC dM_noByte_7 (by decide) ?_
    refine v_icmp_le (pc := 9) (tgt := 16) hC dM_noByte_9 (by decide) hf (fun hf => ?_) (fun hf => ?_)
    · refine v_iconst (pc := 16) (v := (0 : Int32)) hC dM_noByte_16 (by decide) ?_
      exact v_zret (pc := 17) hC hE dM_noByte_17 (by rw [hR]; decide) (by rw [hR]; decide) (by rw [if_pos (by decide)]; exact hf)
    · refine v_iconst (pc := 12) (v := (1 : Int32)) hC dM_noByte_12 (by decide) ?_
      refine v_goto (pc := 13) (tgt := 17) hC dM_noByte_13 (by decide) ?_
      exact v_zret (pc := 17) hC hE dM_noByte_17 (by rw [hR]; decide) (by rw [hR]; decide) (by rw [if_pos (by decide)]; exact hf)
theorem mM_noByte (l : Launch) (G : cG) (b : Nat) (a1 : Int32) (w : cW) (r : Int32) (w' : cW) (hf : fM_noByte b a1 w = some (r, w')) : Met l yM_noByte (wsM yM_noByte prog_7_method_3_code 2 (some .boolean)) rmM_noByte (mP G w [va_rf (some b), .int a1]) (mQ mkI G w w' r) (rmM_noByte).cells (rmM_noByte).slots (Aw w) :=
  met_of (by decide +kernel) rfl (Nat.le_of_ble_eq_true rfl) (fun C hC hR _ _ _ hts hE => tM_noByte (okC.tbl hC) hE hR a1 w hf)
set_option maxHeartbeats 4000000 in
set_option maxRecDepth 100000 in
theorem tM_noTensor {C : xC} {G : cG} {w0 w' : cW} {r : Int32} {b : Nat} (hC : okC C prog_7_method_2_code 2 "ArenaNetworkModel" lw_gd) (hE : xE C (some .boolean) mkI G w0 w' r) (hR : xR C = rmM_noTensor) (a1 : Int32) (w : cW) (hf : fM_noTensor b a1 w = some (r, w')) : V C w 0 0 0 [(0, va_rf (some b)), (1, .int a1)] [] := by
  unfold fM_noTensor at hf
  refine v_iload_n (pc := 0) (i := 1) (x := a1) hC dM_noTensor_0 rfl 1 rfl ?_
  refine v_if_lt (pc := 1) (tgt := 12) hC dM_noTensor_1 (by decide) hf (fun hf => ?_) (fun hf => ?_)
  · refine v_iconst (pc := 12) (v := (1 : Int32)) hC dM_noTensor_12 (by decide) ?_
    refine v_goto (pc := 13) (tgt := 17) hC dM_noTensor_13 (by decide) ?_
    exact v_zret (pc := 17) hC hE dM_noTensor_17 (by rw [hR]; decide) (by rw [hR]; decide) (by rw [if_pos (by decide)]; exact hf)
  · refine v_iload_n (pc := 4) (i := 1) (x := a1) hC dM_noTensor_4 rfl 1 rfl ?_
    refine v_aload_n (pc := 5) (i := 0) (r := (some b)) hC dM_noTensor_5 rfl 0 rfl ?_
    refine v_getI (pc := 6) (r := (some b)) hC dM_noTensor_6 inM rfl 6 (by decide) q481 (Or.inl rfl) hf (fun x1 hf => ?_)
    refine v_icmp_lt (pc := 9) (tgt := 16) hC dM_noTensor_9 (by decide) hf (fun hf => ?_) (fun hf => ?_)
    · refine v_iconst (pc := 16) (v := (0 : Int32)) hC dM_noTensor_16 (by decide) ?_
      exact v_zret (pc := 17) hC hE dM_noTensor_17 (by rw [hR]; decide) (by rw [hR]; decide) (by rw [if_pos (by decide)]; exact hf)
    · refine v_iconst (pc := 12) (v := (1 : Int32)) hC dM_noTensor_12 (by decide) ?_
      refine v_goto (pc := 13) (tgt := 17) hC dM_noTensor_13 (by decide) ?_
      exact v_zret (pc := 17) hC hE dM_noTensor_17 (by rw [hR]; decide) (by rw [hR]; decide) (by rw [if_pos (by decide)]; exact hf)
theorem mM_noTensor (l : Launch) (G : cG) (b : Nat) (a1 : Int32) (w : cW) (r : Int32) (w' : cW) (hf : fM_noTensor b a1 w = some (r, w')) : Met l yM_noTensor (wsM yM_noTensor prog_7_method_2_code 2 (some .boolean)) rmM_noTensor (mP G w [va_rf (some b), .int a1]) (mQ mkI G w w' r) (rmM_noTensor).cells (rmM_noTensor).slots (Aw w) :=
  met_of (by decide +kernel) rfl (Nat.le_of_ble_eq_true rfl) (fun C hC hR _ _ _ hts hE => tM_noTensor (okC.tbl hC) hE hR a1 w hf)
set_option maxHeartbeats 4000000 in
set_option maxRecDepth 100000 in
theorem tM_scale {C : xC} {G : cG} {w0 w' : cW} {r : Int32} {b : Nat} (hC : okC C prog_7_method_6_code 4 "ArenaNetworkModel" lw_gd) (hE : xE C (some .int) mkI G w0 w' r) (hR : xR C = rmM_scale) (a1 : Int32) (a2 : Int32) (a3 : Int32) (w : cW) (hf : fM_scale b a1 a2 a3 w = some (r, w')) : V C w 0 0 0 [(0, va_rf (some b)), (1, .int a1), (2, .int a2), (3, .int a3)] [] := by
  unfold fM_scale at hf
  refine v_iload_n (pc := 0) (i := 1) (x := a1) hC dM_scale_0 rfl 1 rfl ?_
  refine v_if_lt (pc := 1) (tgt := 24) hC dM_scale_1 (by decide) hf (fun hf => ?_) (fun hf => ?_)
  · refine v_iconst (pc := 24) (v := (-1 : Int32)) hC dM_scale_24 (by decide) ?_
    exact v_iret (pc := 25) hC hE dM_scale_25 (by rw [hR]; decide) (by rw [hR]; decide) hf
  · refine v_iload_n (pc := 4) (i := 1) (x := a1) hC dM_scale_4 rfl 1 rfl ?_
    refine v_bipush (pc := 5) (v := (7 : Int32)) hC dM_scale_5 (by decide) ?_
    refine v_icmp_gt (pc := 7) (tgt := 24) hC dM_scale_7 (by decide) hf (fun hf => ?_) (fun hf => ?_)
    · refine v_iconst (pc := 24) (v := (-1 : Int32)) hC dM_scale_24 (by decide) ?_
      exact v_iret (pc := 25) hC hE dM_scale_25 (by rw [hR]; decide) (by rw [hR]; decide) hf
    · refine v_iload_n (pc := 10) (i := 2) (x := a2) hC dM_scale_10 rfl 2 rfl ?_
      refine v_if_lt (pc := 11) (tgt := 24) hC dM_scale_11 (by decide) hf (fun hf => ?_) (fun hf => ?_)
      · refine v_iconst (pc := 24) (v := (-1 : Int32)) hC dM_scale_24 (by decide) ?_
        exact v_iret (pc := 25) hC hE dM_scale_25 (by rw [hR]; decide) (by rw [hR]; decide) hf
      · refine v_iload_n (pc := 14) (i := 3) (x := a3) hC dM_scale_14 rfl 3 rfl ?_
        refine v_if_lt (pc := 15) (tgt := 24) hC dM_scale_15 (by decide) hf (fun hf => ?_) (fun hf => ?_)
        · refine v_iconst (pc := 24) (v := (-1 : Int32)) hC dM_scale_24 (by decide) ?_
          exact v_iret (pc := 25) hC hE dM_scale_25 (by rw [hR]; decide) (by rw [hR]; decide) hf
        · refine v_iload_n (pc := 18) (i := 3) (x := a3) hC dM_scale_18 rfl 3 rfl ?_
          refine v_bipush (pc := 19) (v := (30 : Int32)) hC dM_scale_19 (by decide) ?_
          refine v_icmp_le (pc := 21) (tgt := 26) hC dM_scale_21 (by decide) hf (fun hf => ?_) (fun hf => ?_)
          · refine v_aload_n (pc := 26) (i := 0) (r := (some b)) hC dM_scale_26 rfl 0 rfl ?_
            refine v_getI (pc := 27) (r := (some b)) hC dM_scale_27 inM rfl 15 (by decide) q490 (Or.inl rfl) hf (fun x1 hf => ?_)
            refine v_if_eq (pc := 30) (tgt := 36) hC dM_scale_30 (by decide) hf (fun hf => ?_) (fun hf => ?_)
            · refine v_aload_n (pc := 36) (i := 0) (r := (some b)) hC dM_scale_36 rfl 0 rfl ?_
              refine v_getQ (pc := 37) (r := (some b)) hC dM_scale_37 inM rfl 7 (by decide) q482 (Or.inl rfl) hf (fun r2 hf => ?_)
              refine v_iload_n (pc := 40) (i := 1) (x := a1) hC dM_scale_40 rfl 1 rfl ?_
              refine v_iload_n (pc := 41) (i := 2) (x := a2) hC dM_scale_41 rfl 2 rfl ?_
              refine v_iast (pc := 42) hC dM_scale_42 hf (fun w3 hf => ?_)
              refine v_aload_n (pc := 43) (i := 0) (r := (some b)) hC dM_scale_43 rfl 0 rfl ?_
              refine v_getQ (pc := 44) (r := (some b)) hC dM_scale_44 inM rfl 8 (by decide) q483 (Or.inl rfl) hf (fun r4 hf => ?_)
              refine v_iload_n (pc := 47) (i := 1) (x := a1) hC dM_scale_47 rfl 1 rfl ?_
              refine v_iload_n (pc := 48) (i := 3) (x := a3) hC dM_scale_48 rfl 3 rfl ?_
              refine v_iast (pc := 49) hC dM_scale_49 hf (fun w5 hf => ?_)
              refine v_iconst (pc := 50) (v := (0 : Int32)) hC dM_scale_50 (by decide) ?_
              exact v_iret (pc := 51) hC hE dM_scale_51 (by rw [hR]; decide) (by rw [hR]; decide) hf
            · refine v_bipush (pc := 33) (v := (-3 : Int32)) hC dM_scale_33 (by decide) ?_
              exact v_iret (pc := 35) hC hE dM_scale_35 (by rw [hR]; decide) (by rw [hR]; decide) hf
          · refine v_iconst (pc := 24) (v := (-1 : Int32)) hC dM_scale_24 (by decide) ?_
            exact v_iret (pc := 25) hC hE dM_scale_25 (by rw [hR]; decide) (by rw [hR]; decide) hf
theorem mM_scale (l : Launch) (G : cG) (b : Nat) (a1 : Int32) (a2 : Int32) (a3 : Int32) (w : cW) (r : Int32) (w' : cW) (hf : fM_scale b a1 a2 a3 w = some (r, w')) : Met l yM_scale (wsM yM_scale prog_7_method_6_code 4 (some .int)) rmM_scale (mP G w [va_rf (some b), .int a1, .int a2, .int a3]) (mQ mkI G w w' r) (rmM_scale).cells (rmM_scale).slots (Aw w) :=
  met_of (by decide +kernel) rfl (Nat.le_of_ble_eq_true rfl) (fun C hC hR _ _ _ hts hE => tM_scale (okC.tbl hC) hE hR a1 a2 a3 w hf)
set_option maxHeartbeats 4000000 in
set_option maxRecDepth 100000 in
theorem tM_operator {C : xC} {G : cG} {w0 w' : cW} {r : Int32} {b : Nat} (hC : okC C prog_7_method_7_code 6 "ArenaNetworkModel" lw_gd) (hE : xE C (some .int) mkI G w0 w' r) (hR : xR C = rmM_operator) (a1 : Int32) (a2 : Int32) (a3 : Int32) (a4 : Int32) (a5 : Int32) (w : cW) (hf : fM_operator b a1 a2 a3 a4 a5 w = some (r, w')) : V C w 0 0 0 [(0, va_rf (some b)), (1, .int a1), (2, .int a2), (3, .int a3), (4, .int a4), (5, .int a5)] [] := by
  unfold fM_operator at hf
  refine v_iload_n (pc := 0) (i := 1) (x := a1) hC dM_operator_0 rfl 1 rfl ?_
  refine v_if_lt (pc := 1) (tgt := 47) hC dM_operator_1 (by decide) hf (fun hf => ?_) (fun hf => ?_)
  · refine v_iconst (pc := 47) (v := (-1 : Int32)) hC dM_operator_47 (by decide) ?_
    exact v_iret (pc := 48) hC hE dM_operator_48 (by rw [hR]; decide) (by rw [hR]; decide) hf
  · refine v_iload_n (pc := 4) (i := 1) (x := a1) hC dM_operator_4 rfl 1 rfl ?_
    refine v_bipush (pc := 5) (v := (7 : Int32)) hC dM_operator_5 (by decide) ?_
    refine v_icmp_gt (pc := 7) (tgt := 47) hC dM_operator_7 (by decide) hf (fun hf => ?_) (fun hf => ?_)
    · refine v_iconst (pc := 47) (v := (-1 : Int32)) hC dM_operator_47 (by decide) ?_
      exact v_iret (pc := 48) hC hE dM_operator_48 (by rw [hR]; decide) (by rw [hR]; decide) hf
    · refine v_aload_n (pc := 10) (i := 0) (r := (some b)) hC dM_operator_10 rfl 0 rfl ?_
      refine v_iload_n (pc := 11) (i := 2) (x := a2) hC dM_operator_11 rfl 2 rfl ?_
      refine v_callV (pc := 12) (r := (some b)) (As := [.int a2]) (rest := []) (k' := 0) (n' := 0) (st1 := (fun yq => [.int yq])) hC dM_operator_12 q546 q548 p19 q7 q549 ykM_noTensor rfl rfl (fun bq rq wq hq => mM_noTensor _ _ bq a2 _ rq wq hq) (by rw [hR]; decide) (by simp only [List.map_cons, List.map_nil, va_cat]; exact Nat.le_of_ble_eq_true rfl) (by decide) (by rw [hR]; decide) hf rfl (fun _ => rfl) (fun x1 w2 hf => ?_)
      refine v_if_ne (pc := 15) (tgt := 47) hC dM_operator_15 (by decide) hf (fun hf => ?_) (fun hf => ?_)
      · refine v_iconst (pc := 47) (v := (-1 : Int32)) hC dM_operator_47 (by decide) ?_
        exact v_iret (pc := 48) hC hE dM_operator_48 (by rw [hR]; decide) (by rw [hR]; decide) hf
      · refine v_aload_n (pc := 18) (i := 0) (r := (some b)) hC dM_operator_18 rfl 0 rfl ?_
        refine v_iload_n (pc := 19) (i := 3) (x := a3) hC dM_operator_19 rfl 3 rfl ?_
        refine v_callV (pc := 20) (r := (some b)) (As := [.int a3]) (rest := []) (k' := 0) (n' := 0) (st1 := (fun yq => [.int yq])) hC dM_operator_20 q546 q548 p19 q7 q549 ykM_noTensor rfl rfl (fun bq rq wq hq => mM_noTensor _ _ bq a3 _ rq wq hq) (by rw [hR]; decide) (by simp only [List.map_cons, List.map_nil, va_cat]; exact Nat.le_of_ble_eq_true rfl) (by decide) (by rw [hR]; decide) hf rfl (fun _ => rfl) (fun x4 w5 hf => ?_)
        refine v_if_ne (pc := 23) (tgt := 47) hC dM_operator_23 (by decide) hf (fun hf => ?_) (fun hf => ?_)
        · refine v_iconst (pc := 47) (v := (-1 : Int32)) hC dM_operator_47 (by decide) ?_
          exact v_iret (pc := 48) hC hE dM_operator_48 (by rw [hR]; decide) (by rw [hR]; decide) hf
        · refine v_aload_n (pc := 26) (i := 0) (r := (some b)) hC dM_operator_26 rfl 0 rfl ?_
          refine v_iload (pc := 27) (i := 4) (x := a4) hC dM_operator_27 4 rfl ?_
          refine v_callV (pc := 29) (r := (some b)) (As := [.int a4]) (rest := []) (k' := 0) (n' := 0) (st1 := (fun yq => [.int yq])) hC dM_operator_29 q546 q548 p19 q7 q549 ykM_noTensor rfl rfl (fun bq rq wq hq => mM_noTensor _ _ bq a4 _ rq wq hq) (by rw [hR]; decide) (by simp only [List.map_cons, List.map_nil, va_cat]; exact Nat.le_of_ble_eq_true rfl) (by decide) (by rw [hR]; decide) hf rfl (fun _ => rfl) (fun x7 w8 hf => ?_)
          refine v_if_ne (pc := 32) (tgt := 47) hC dM_operator_32 (by decide) hf (fun hf => ?_) (fun hf => ?_)
          · refine v_iconst (pc := 47) (v := (-1 : Int32)) hC dM_operator_47 (by decide) ?_
            exact v_iret (pc := 48) hC hE dM_operator_48 (by rw [hR]; decide) (by rw [hR]; decide) hf
          · refine v_iload (pc := 35) (i := 5) (x := a5) hC dM_operator_35 5 rfl ?_
            refine v_if_lt (pc := 37) (tgt := 47) hC dM_operator_37 (by decide) hf (fun hf => ?_) (fun hf => ?_)
            · refine v_iconst (pc := 47) (v := (-1 : Int32)) hC dM_operator_47 (by decide) ?_
              exact v_iret (pc := 48) hC hE dM_operator_48 (by rw [hR]; decide) (by rw [hR]; decide) hf
            · refine v_iload (pc := 40) (i := 5) (x := a5) hC dM_operator_40 5 rfl ?_
              refine v_bipush (pc := 42) (v := (7 : Int32)) hC dM_operator_42 (by decide) ?_
              refine v_icmp_le (pc := 44) (tgt := 49) hC dM_operator_44 (by decide) hf (fun hf => ?_) (fun hf => ?_)
              · refine v_aload_n (pc := 49) (i := 0) (r := (some b)) hC dM_operator_49 rfl 0 rfl ?_
                refine v_getI (pc := 50) (r := (some b)) hC dM_operator_50 inM rfl 15 (by decide) q490 (Or.inl rfl) hf (fun x10 hf => ?_)
                refine v_if_eq (pc := 53) (tgt := 59) hC dM_operator_53 (by decide) hf (fun hf => ?_) (fun hf => ?_)
                · refine v_aload_n (pc := 59) (i := 0) (r := (some b)) hC dM_operator_59 rfl 0 rfl ?_
                  refine v_getI (pc := 60) (r := (some b)) hC dM_operator_60 inM rfl 14 (by decide) q489 (Or.inl rfl) hf (fun x11 hf => ?_)
                  refine v_bipush (pc := 63) (v := (14 : Int32)) hC dM_operator_63 (by decide) ?_
                  refine v_icmp_ne (pc := 65) (tgt := 71) hC dM_operator_65 (by decide) hf (fun hf => ?_) (fun hf => ?_)
                  · refine v_aload_n (pc := 71) (i := 0) (r := (some b)) hC dM_operator_71 rfl 0 rfl ?_
                    refine v_getQ (pc := 72) (r := (some b)) hC dM_operator_72 inM rfl 9 (by decide) q484 (Or.inl rfl) hf (fun r12 hf => ?_)
                    refine v_aload_n (pc := 75) (i := 0) (r := (some b)) hC dM_operator_75 rfl 0 rfl ?_
                    refine v_getI (pc := 76) (r := (some b)) hC dM_operator_76 inM rfl 14 (by decide) q489 (Or.inl rfl) hf (fun x13 hf => ?_)
                    refine v_iload_n (pc := 79) (i := 1) (x := a1) hC dM_operator_79 rfl 1 rfl ?_
                    refine v_iast (pc := 80) hC dM_operator_80 hf (fun w14 hf => ?_)
                    refine v_aload_n (pc := 81) (i := 0) (r := (some b)) hC dM_operator_81 rfl 0 rfl ?_
                    refine v_getQ (pc := 82) (r := (some b)) hC dM_operator_82 inM rfl 10 (by decide) q485 (Or.inl rfl) hf (fun r15 hf => ?_)
                    refine v_aload_n (pc := 85) (i := 0) (r := (some b)) hC dM_operator_85 rfl 0 rfl ?_
                    refine v_getI (pc := 86) (r := (some b)) hC dM_operator_86 inM rfl 14 (by decide) q489 (Or.inl rfl) hf (fun x16 hf => ?_)
                    refine v_iload_n (pc := 89) (i := 2) (x := a2) hC dM_operator_89 rfl 2 rfl ?_
                    refine v_iast (pc := 90) hC dM_operator_90 hf (fun w17 hf => ?_)
                    refine v_aload_n (pc := 91) (i := 0) (r := (some b)) hC dM_operator_91 rfl 0 rfl ?_
                    refine v_getQ (pc := 92) (r := (some b)) hC dM_operator_92 inM rfl 11 (by decide) q486 (Or.inl rfl) hf (fun r18 hf => ?_)
                    refine v_aload_n (pc := 95) (i := 0) (r := (some b)) hC dM_operator_95 rfl 0 rfl ?_
                    refine v_getI (pc := 96) (r := (some b)) hC dM_operator_96 inM rfl 14 (by decide) q489 (Or.inl rfl) hf (fun x19 hf => ?_)
                    refine v_iload_n (pc := 99) (i := 3) (x := a3) hC dM_operator_99 rfl 3 rfl ?_
                    refine v_iast (pc := 100) hC dM_operator_100 hf (fun w20 hf => ?_)
                    refine v_aload_n (pc := 101) (i := 0) (r := (some b)) hC dM_operator_101 rfl 0 rfl ?_
                    refine v_getQ (pc := 102) (r := (some b)) hC dM_operator_102 inM rfl 12 (by decide) q487 (Or.inl rfl) hf (fun r21 hf => ?_)
                    refine v_aload_n (pc := 105) (i := 0) (r := (some b)) hC dM_operator_105 rfl 0 rfl ?_
                    refine v_getI (pc := 106) (r := (some b)) hC dM_operator_106 inM rfl 14 (by decide) q489 (Or.inl rfl) hf (fun x22 hf => ?_)
                    refine v_iload (pc := 109) (i := 4) (x := a4) hC dM_operator_109 4 rfl ?_
                    refine v_iast (pc := 111) hC dM_operator_111 hf (fun w23 hf => ?_)
                    refine v_aload_n (pc := 112) (i := 0) (r := (some b)) hC dM_operator_112 rfl 0 rfl ?_
                    refine v_getQ (pc := 113) (r := (some b)) hC dM_operator_113 inM rfl 13 (by decide) q488 (Or.inl rfl) hf (fun r24 hf => ?_)
                    refine v_aload_n (pc := 116) (i := 0) (r := (some b)) hC dM_operator_116 rfl 0 rfl ?_
                    refine v_getI (pc := 117) (r := (some b)) hC dM_operator_117 inM rfl 14 (by decide) q489 (Or.inl rfl) hf (fun x25 hf => ?_)
                    refine v_iload (pc := 120) (i := 5) (x := a5) hC dM_operator_120 5 rfl ?_
                    refine v_iast (pc := 122) hC dM_operator_122 hf (fun w26 hf => ?_)
                    refine v_aload_n (pc := 123) (i := 0) (r := (some b)) hC dM_operator_123 rfl 0 rfl ?_
                    refine v_dupR (pc := 124) hC dM_operator_124 ?_
                    refine v_getI (pc := 125) (r := (some b)) hC dM_operator_125 inM rfl 14 (by decide) q489 (Or.inl rfl) hf (fun x27 hf => ?_)
                    refine v_iconst (pc := 128) (v := (1 : Int32)) hC dM_operator_128 (by decide) ?_
                    refine v_iadd (pc := 129) hC dM_operator_129 ?_
                    refine v_putI (pc := 130) (r := (some b)) hC dM_operator_130 inM rfl tyM tkM nmM 14 (by decide) q489 (Or.inl rfl) rfl (tkM 14 (by decide)) hf (fun w28 hf => ?_)
                    refine v_aload_n (pc := 133) (i := 0) (r := (some b)) hC dM_operator_133 rfl 0 rfl ?_
                    refine v_getI (pc := 134) (r := (some b)) hC dM_operator_134 inM rfl 14 (by decide) q489 (Or.inl rfl) hf (fun x29 hf => ?_)
                    refine v_iconst (pc := 137) (v := (1 : Int32)) hC dM_operator_137 (by decide) ?_
                    refine v_isub (pc := 138) hC dM_operator_138 ?_
                    exact v_iret (pc := 139) hC hE dM_operator_139 (by rw [hR]; decide) (by rw [hR]; decide) hf
                  · refine v_bipush (pc := 68) (v := (-2 : Int32)) hC dM_operator_68 (by decide) ?_
                    exact v_iret (pc := 70) hC hE dM_operator_70 (by rw [hR]; decide) (by rw [hR]; decide) hf
                · refine v_bipush (pc := 56) (v := (-3 : Int32)) hC dM_operator_56 (by decide) ?_
                  exact v_iret (pc := 58) hC hE dM_operator_58 (by rw [hR]; decide) (by rw [hR]; decide) hf
              · refine v_iconst (pc := 47) (v := (-1 : Int32)) hC dM_operator_47 (by decide) ?_
                exact v_iret (pc := 48) hC hE dM_operator_48 (by rw [hR]; decide) (by rw [hR]; decide) hf
theorem mM_operator (l : Launch) (G : cG) (b : Nat) (a1 : Int32) (a2 : Int32) (a3 : Int32) (a4 : Int32) (a5 : Int32) (w : cW) (r : Int32) (w' : cW) (hf : fM_operator b a1 a2 a3 a4 a5 w = some (r, w')) : Met l yM_operator (wsM yM_operator prog_7_method_7_code 6 (some .int)) rmM_operator (mP G w [va_rf (some b), .int a1, .int a2, .int a3, .int a4, .int a5]) (mQ mkI G w w' r) (rmM_operator).cells (rmM_operator).slots (Aw w) :=
  met_of (by decide +kernel) rfl (Nat.le_of_ble_eq_true rfl) (fun C hC hR _ _ _ hts hE => tM_operator (okC.tbl hC) hE hR a1 a2 a3 a4 a5 w hf)
set_option maxHeartbeats 4000000 in
set_option maxRecDepth 100000 in
theorem tM_keep {C : xC} {G : cG} {w0 w' : cW} {r : Int32} {b : Nat} (hC : okC C prog_7_method_8_code 3 "ArenaNetworkModel" lw_gd) (hE : xE C (some .int) mkI G w0 w' r) (hR : xR C = rmM_keep) (a1 : Int32) (a2 : Int32) (w : cW) (hf : fM_keep b a1 a2 w = some (r, w')) : V C w 0 0 0 [(0, va_rf (some b)), (1, .int a1), (2, .int a2)] [] := by
  unfold fM_keep at hf
  refine v_aload_n (pc := 0) (i := 0) (r := (some b)) hC dM_keep_0 rfl 0 rfl ?_
  refine v_iload_n (pc := 1) (i := 1) (x := a1) hC dM_keep_1 rfl 1 rfl ?_
  refine v_callV (pc := 2) (r := (some b)) (As := [.int a1]) (rest := []) (k' := 0) (n' := 0) (st1 := (fun yq => [.int yq])) hC dM_keep_2 q546 q548 p19 q7 q549 ykM_noTensor rfl rfl (fun bq rq wq hq => mM_noTensor _ _ bq a1 _ rq wq hq) (by rw [hR]; decide) (by simp only [List.map_cons, List.map_nil, va_cat]; exact Nat.le_of_ble_eq_true rfl) (by decide) (by rw [hR]; decide) hf rfl (fun _ => rfl) (fun x1 w2 hf => ?_)
  refine v_if_ne (pc := 5) (tgt := 17) hC dM_keep_5 (by decide) hf (fun hf => ?_) (fun hf => ?_)
  · refine v_iconst (pc := 17) (v := (-1 : Int32)) hC dM_keep_17 (by decide) ?_
    exact v_iret (pc := 18) hC hE dM_keep_18 (by rw [hR]; decide) (by rw [hR]; decide) hf
  · refine v_aload_n (pc := 8) (i := 0) (r := (some b)) hC dM_keep_8 rfl 0 rfl ?_
    refine v_getQ (pc := 9) (r := (some b)) hC dM_keep_9 inM rfl 0 (by decide) q475 (Or.inl rfl) hf (fun r4 hf => ?_)
    refine v_iload_n (pc := 12) (i := 1) (x := a1) hC dM_keep_12 rfl 1 rfl ?_
    refine v_iald (pc := 13) hC dM_keep_13 hf (fun x5 hf => ?_)
    refine v_if_ne (pc := 14) (tgt := 19) hC dM_keep_14 (by decide) hf (fun hf => ?_) (fun hf => ?_)
    · refine v_aload_n (pc := 19) (i := 0) (r := (some b)) hC dM_keep_19 rfl 0 rfl ?_
      refine v_getI (pc := 20) (r := (some b)) hC dM_keep_20 inM rfl 15 (by decide) q490 (Or.inl rfl) hf (fun x6 hf => ?_)
      refine v_if_eq (pc := 23) (tgt := 29) hC dM_keep_23 (by decide) hf (fun hf => ?_) (fun hf => ?_)
      · refine v_aload_n (pc := 29) (i := 0) (r := (some b)) hC dM_keep_29 rfl 0 rfl ?_
        refine v_getQ (pc := 30) (r := (some b)) hC dM_keep_30 inM rfl 3 (by decide) q478 (Or.inl rfl) hf (fun r7 hf => ?_)
        refine v_iload_n (pc := 33) (i := 1) (x := a1) hC dM_keep_33 rfl 1 rfl ?_
        refine v_iload_n (pc := 34) (i := 2) (x := a2) hC dM_keep_34 rfl 2 rfl ?_
        refine v_zast (pc := 35) hC dM_keep_35 hf (fun w8 hf => ?_)
        refine v_iconst (pc := 36) (v := (0 : Int32)) hC dM_keep_36 (by decide) ?_
        exact v_iret (pc := 37) hC hE dM_keep_37 (by rw [hR]; decide) (by rw [hR]; decide) hf
      · refine v_bipush (pc := 26) (v := (-3 : Int32)) hC dM_keep_26 (by decide) ?_
        exact v_iret (pc := 28) hC hE dM_keep_28 (by rw [hR]; decide) (by rw [hR]; decide) hf
    · refine v_iconst (pc := 17) (v := (-1 : Int32)) hC dM_keep_17 (by decide) ?_
      exact v_iret (pc := 18) hC hE dM_keep_18 (by rw [hR]; decide) (by rw [hR]; decide) hf
theorem mM_keep (l : Launch) (G : cG) (b : Nat) (a1 : Int32) (a2 : Int32) (w : cW) (r : Int32) (w' : cW) (hf : fM_keep b a1 a2 w = some (r, w')) : Met l yM_keep (wsM yM_keep prog_7_method_8_code 3 (some .int)) rmM_keep (mP G w [va_rf (some b), .int a1, .int a2]) (mQ mkI G w w' r) (rmM_keep).cells (rmM_keep).slots (Aw w) :=
  met_of (by decide +kernel) rfl (Nat.le_of_ble_eq_true rfl) (fun C hC hR _ _ _ hts hE => tM_keep (okC.tbl hC) hE hR a1 a2 w hf)
set_option maxHeartbeats 4000000 in
set_option maxRecDepth 100000 in
theorem tM_maker_l2 {C : xC} {G : cG} {w0 w' : cW} {r : Int32} {b : Nat} (hC : okC C prog_7_method_9_code 4 "ArenaNetworkModel" lw_gd) (hE : xE C (some .int) mkI G w0 w' r) (hR : xR C = rmM_maker)  : ∀ n : Nat, ∀ (a1 : Int32) (a2 : Int32) (a3 : Int32) (w : cW), fM_maker_l2 b n a1 a2 a3 w = some (r, w') → V C w 0 0 2 [(0, va_rf (some b)), (1, .int a1), (2, .int a2), (3, .int a3)] [] := by
  refine lp_P (P := fun (f : Int32 → Int32 → Int32 → cW → Option (Int32 × cW)) => ∀ (a1 : Int32) (a2 : Int32) (a3 : Int32) (w : cW), f a1 a2 a3 w = some (r, w') → V C w 0 0 2 [(0, va_rf (some b)), (1, .int a1), (2, .int a2), (3, .int a3)] []) ?_ ?_
  · intro a1 a2 a3 w hf
    cases hf
  · intro rec2 hrec2 a1 a2 a3 w hf
    unfold fM_maker_b2 at hf
    refine v_iload_n (pc := 2) (i := 3) (x := a3) hC dM_maker_2 rfl 3 rfl ?_
    refine v_iload_n (pc := 3) (i := 2) (x := a2) hC dM_maker_3 rfl 2 rfl ?_
    refine v_icmp_ge (pc := 4) (tgt := 25) hC dM_maker_4 (by decide) hf (fun hf => ?_) (fun hf => ?_)
    · refine v_iconst (pc := 25) (v := (-1 : Int32)) hC dM_maker_25 (by decide) ?_
      exact v_iret (pc := 26) hC hE dM_maker_26 (by rw [hR]; decide) (by rw [hR]; decide) hf
    · refine v_aload_n (pc := 7) (i := 0) (r := (some b)) hC dM_maker_7 rfl 0 rfl ?_
      refine v_getQ (pc := 8) (r := (some b)) hC dM_maker_8 inM rfl 12 (by decide) q487 (Or.inl rfl) hf (fun r1 hf => ?_)
      refine v_iload_n (pc := 11) (i := 3) (x := a3) hC dM_maker_11 rfl 3 rfl ?_
      refine v_iald (pc := 12) hC dM_maker_12 hf (fun x2 hf => ?_)
      refine v_iload_n (pc := 13) (i := 1) (x := a1) hC dM_maker_13 rfl 1 rfl ?_
      refine v_icmp_ne (pc := 14) (tgt := 19) hC dM_maker_14 (by decide) hf (fun hf => ?_) (fun hf => ?_)
      · refine v_iincB (pc := 19) (i := 3) (x := a3) (v := (1 : Int32)) hC dM_maker_19 3 rfl (by decide) (by decide) (fun x3 => [(3, .int x3), (0, va_rf (some b)), (1, .int a1), (2, .int a2)]) (fun _ => rfl) hf (fun x3 hf => ?_)
        refine v_goto (pc := 22) (tgt := 2) hC dM_maker_22 (by decide) ?_
        exact V.sub [1, 2, 3, 0] rfl (hrec2 _ _ _ _ hf)
      · refine v_iload_n (pc := 17) (i := 3) (x := a3) hC dM_maker_17 rfl 3 rfl ?_
        exact v_iret (pc := 18) hC hE dM_maker_18 (by rw [hR]; decide) (by rw [hR]; decide) hf
set_option maxHeartbeats 4000000 in
set_option maxRecDepth 100000 in
theorem tM_maker {C : xC} {G : cG} {w0 w' : cW} {r : Int32} {b : Nat} (hC : okC C prog_7_method_9_code 4 "ArenaNetworkModel" lw_gd) (hE : xE C (some .int) mkI G w0 w' r) (hR : xR C = rmM_maker) (a1 : Int32) (a2 : Int32) (w : cW) (hf : fM_maker b a1 a2 w = some (r, w')) : V C w 0 0 0 [(0, va_rf (some b)), (1, .int a1), (2, .int a2)] [] := by
  unfold fM_maker at hf
  refine v_iconst (pc := 0) (v := (0 : Int32)) hC dM_maker_0 (by decide) ?_
  refine v_istore_n (pc := 1) (i := 3) (x := (0 : Int32)) hC dM_maker_1 rfl (by decide) [(3, .int (0 : Int32)), (0, va_rf (some b)), (1, .int a1), (2, .int a2)] rfl ?_
  exact V.sub [1, 2, 3, 0] rfl (tM_maker_l2 hC hE hR  FU _ _ _ _ hf)
theorem mM_maker (l : Launch) (G : cG) (b : Nat) (a1 : Int32) (a2 : Int32) (w : cW) (r : Int32) (w' : cW) (hf : fM_maker b a1 a2 w = some (r, w')) : Met l yM_maker (wsM yM_maker prog_7_method_9_code 4 (some .int)) rmM_maker (mP G w [va_rf (some b), .int a1, .int a2]) (mQ mkI G w w' r) (rmM_maker).cells (rmM_maker).slots (Aw w) :=
  met_of (by decide +kernel) rfl (Nat.le_of_ble_eq_true rfl) (fun C hC hR _ _ _ hts hE => tM_maker (okC.tbl hC) hE hR a1 a2 w hf)
set_option maxHeartbeats 4000000 in
set_option maxRecDepth 100000 in
theorem tM_unmade {C : xC} {G : cG} {w0 w' : cW} {r : Int32} {b : Nat} (hC : okC C prog_7_method_11_code 3 "ArenaNetworkModel" lw_gd) (hE : xE C (some .boolean) mkI G w0 w' r) (hR : xR C = rmM_unmade) (a1 : Int32) (a2 : Int32) (w : cW) (hf : fM_unmade b a1 a2 w = some (r, w')) : V C w 0 0 0 [(0, va_rf (some b)), (1, .int a1), (2, .int a2)] [] := by
  unfold fM_unmade at hf
  refine v_aload_n (pc := 0) (i := 0) (r := (some b)) hC dM_unmade_0 rfl 0 rfl ?_
  refine v_getQ (pc := 1) (r := (some b)) hC dM_unmade_1 inM rfl 0 (by decide) q475 (Or.inl rfl) hf (fun r1 hf => ?_)
  refine v_iload_n (pc := 4) (i := 1) (x := a1) hC dM_unmade_4 rfl 1 rfl ?_
  refine v_iald (pc := 5) hC dM_unmade_5 hf (fun x2 hf => ?_)
  refine v_iconst (pc := 6) (v := (2 : Int32)) hC dM_unmade_6 (by decide) ?_
  refine v_icmp_ne (pc := 7) (tgt := 23) hC dM_unmade_7 (by decide) hf (fun hf => ?_) (fun hf => ?_)
  · refine v_iconst (pc := 23) (v := (0 : Int32)) hC dM_unmade_23 (by decide) ?_
    exact v_zret (pc := 24) hC hE dM_unmade_24 (by rw [hR]; decide) (by rw [hR]; decide) (by rw [if_pos (by decide)]; exact hf)
  · refine v_aload_n (pc := 10) (i := 0) (r := (some b)) hC dM_unmade_10 rfl 0 rfl ?_
    refine v_iload_n (pc := 11) (i := 1) (x := a1) hC dM_unmade_11 rfl 1 rfl ?_
    refine v_iload_n (pc := 12) (i := 2) (x := a2) hC dM_unmade_12 rfl 2 rfl ?_
    refine v_callV (pc := 13) (r := (some b)) (As := [.int a1, .int a2]) (rest := []) (k' := 0) (n' := 0) (st1 := (fun yq => [.int yq])) hC dM_unmade_13 q570 q572 p21 q7 q573 ykM_maker rfl rfl (fun bq rq wq hq => mM_maker _ _ bq a1 a2 _ rq wq hq) (by rw [hR]; decide) (by simp only [List.map_cons, List.map_nil, va_cat]; exact Nat.le_of_ble_eq_true rfl) (by decide) (by rw [hR]; decide) hf rfl (fun _ => rfl) (fun x3 w4 hf => ?_)
    refine v_if_ge (pc := 16) (tgt := 23) hC dM_unmade_16 (by decide) hf (fun hf => ?_) (fun hf => ?_)
    · refine v_iconst (pc := 23) (v := (0 : Int32)) hC dM_unmade_23 (by decide) ?_
      exact v_zret (pc := 24) hC hE dM_unmade_24 (by rw [hR]; decide) (by rw [hR]; decide) (by rw [if_pos (by decide)]; exact hf)
    · refine v_iconst (pc := 19) (v := (1 : Int32)) hC dM_unmade_19 (by decide) ?_
      refine v_goto (pc := 20) (tgt := 24) hC dM_unmade_20 (by decide) ?_
      exact v_zret (pc := 24) hC hE dM_unmade_24 (by rw [hR]; decide) (by rw [hR]; decide) (by rw [if_pos (by decide)]; exact hf)
theorem mM_unmade (l : Launch) (G : cG) (b : Nat) (a1 : Int32) (a2 : Int32) (w : cW) (r : Int32) (w' : cW) (hf : fM_unmade b a1 a2 w = some (r, w')) : Met l yM_unmade (wsM yM_unmade prog_7_method_11_code 3 (some .boolean)) rmM_unmade (mP G w [va_rf (some b), .int a1, .int a2]) (mQ mkI G w w' r) (rmM_unmade).cells (rmM_unmade).slots (Aw w) :=
  met_of (by decide +kernel) rfl (Nat.le_of_ble_eq_true rfl) (fun C hC hR _ _ _ hts hE => tM_unmade (okC.tbl hC) hE hR a1 a2 w hf)
