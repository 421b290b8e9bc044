abbrev yN_tensor : MethodName := ⟨"ArenaNetwork", "tensor", "(III)I"⟩
abbrev rmN_tensor : Room := { frames := 7, cells := 6, slots := 384, locals := 171 }
theorem ykN_tensor : yOk yN_tensor 3 := by decide +kernel
theorem dN_tensor_0 : decode prog_1_method_2_code 0 = .ok (.iload_n 1, 1) := by decide +kernel
theorem dN_tensor_1 : decode prog_1_method_2_code 1 = .ok (.iconst (0), 1) := by decide +kernel
theorem dN_tensor_2 : decode prog_1_method_2_code 2 = .ok (.iconst (2), 1) := by decide +kernel
theorem dN_tensor_3 : decode prog_1_method_2_code 3 = .ok (.invokestatic 43, 3) := by decide +kernel
theorem dN_tensor_6 : decode prog_1_method_2_code 6 = .ok (.ifCond .eq (22), 3) := by decide +kernel
theorem dN_tensor_9 : decode prog_1_method_2_code 9 = .ok (.iload_n 2, 1) := by decide +kernel
theorem dN_tensor_10 : decode prog_1_method_2_code 10 = .ok (.iconst (1), 1) := by decide +kernel
theorem dN_tensor_11 : decode prog_1_method_2_code 11 = .ok (.iload_n 1, 1) := by decide +kernel
theorem dN_tensor_12 : decode prog_1_method_2_code 12 = .ok (.invokestatic 47, 3) := by decide +kernel
theorem dN_tensor_15 : decode prog_1_method_2_code 15 = .ok (.invokestatic 43, 3) := by decide +kernel
theorem dN_tensor_18 : decode prog_1_method_2_code 18 = .ok (.ifCond .eq (10), 3) := by decide +kernel
theorem dN_tensor_21 : decode prog_1_method_2_code 21 = .ok (.iload_n 3, 1) := by decide +kernel
theorem dN_tensor_22 : decode prog_1_method_2_code 22 = .ok (.invokestatic 51, 3) := by decide +kernel
theorem dN_tensor_25 : decode prog_1_method_2_code 25 = .ok (.ifCond .ne (5), 3) := by decide +kernel
theorem dN_tensor_28 : decode prog_1_method_2_code 28 = .ok (.iconst (-1), 1) := by decide +kernel
theorem dN_tensor_29 : decode prog_1_method_2_code 29 = .ok (.ireturn, 1) := by decide +kernel
theorem dN_tensor_30 : decode prog_1_method_2_code 30 = .ok (.aload_n 0, 1) := by decide +kernel
theorem dN_tensor_31 : decode prog_1_method_2_code 31 = .ok (.getfield 32, 3) := by decide +kernel
theorem dN_tensor_34 : decode prog_1_method_2_code 34 = .ok (.ifCond .eq (6), 3) := by decide +kernel
theorem dN_tensor_37 : decode prog_1_method_2_code 37 = .ok (.bipush (-3), 2) := by decide +kernel
theorem dN_tensor_39 : decode prog_1_method_2_code 39 = .ok (.ireturn, 1) := by decide +kernel
theorem dN_tensor_40 : decode prog_1_method_2_code 40 = .ok (.aload_n 0, 1) := by decide +kernel
theorem dN_tensor_41 : decode prog_1_method_2_code 41 = .ok (.getfield 10, 3) := by decide +kernel
theorem dN_tensor_44 : decode prog_1_method_2_code 44 = .ok (.invokevirtual 55, 3) := by decide +kernel
theorem dN_tensor_47 : decode prog_1_method_2_code 47 = .ok (.bipush (20), 2) := by decide +kernel
theorem dN_tensor_49 : decode prog_1_method_2_code 49 = .ok (.if_icmp .lt (6), 3) := by decide +kernel
theorem dN_tensor_52 : decode prog_1_method_2_code 52 = .ok (.bipush (-2), 2) := by decide +kernel
theorem dN_tensor_54 : decode prog_1_method_2_code 54 = .ok (.ireturn, 1) := by decide +kernel
theorem dN_tensor_55 : decode prog_1_method_2_code 55 = .ok (.aload_n 0, 1) := by decide +kernel
theorem dN_tensor_56 : decode prog_1_method_2_code 56 = .ok (.getfield 10, 3) := by decide +kernel
theorem dN_tensor_59 : decode prog_1_method_2_code 59 = .ok (.invokevirtual 55, 3) := by decide +kernel
theorem dN_tensor_62 : decode prog_1_method_2_code 62 = .ok (.istore 4, 2) := by decide +kernel
theorem dN_tensor_64 : decode prog_1_method_2_code 64 = .ok (.aload_n 0, 1) := by decide +kernel
theorem dN_tensor_65 : decode prog_1_method_2_code 65 = .ok (.getfield 10, 3) := by decide +kernel
theorem dN_tensor_68 : decode prog_1_method_2_code 68 = .ok (.new 41, 3) := by decide +kernel
theorem dN_tensor_71 : decode prog_1_method_2_code 71 = .ok (.dup, 1) := by decide +kernel
theorem dN_tensor_72 : decode prog_1_method_2_code 72 = .ok (.iload 4, 2) := by decide +kernel
theorem dN_tensor_74 : decode prog_1_method_2_code 74 = .ok (.iload_n 1, 1) := by decide +kernel
theorem dN_tensor_75 : decode prog_1_method_2_code 75 = .ok (.iload_n 2, 1) := by decide +kernel
theorem dN_tensor_76 : decode prog_1_method_2_code 76 = .ok (.iload_n 3, 1) := by decide +kernel
theorem dN_tensor_77 : decode prog_1_method_2_code 77 = .ok (.invokespecial 59, 3) := by decide +kernel
theorem dN_tensor_80 : decode prog_1_method_2_code 80 = .ok (.invokevirtual 62, 3) := by decide +kernel
theorem dN_tensor_83 : decode prog_1_method_2_code 83 = .ok (.pop, 1) := by decide +kernel
theorem dN_tensor_84 : decode prog_1_method_2_code 84 = .ok (.iload 4, 2) := by decide +kernel
theorem dN_tensor_86 : decode prog_1_method_2_code 86 = .ok (.ireturn, 1) := by decide +kernel
abbrev yN_set : MethodName := ⟨"ArenaNetwork", "set", "(III)I"⟩
abbrev rmN_set : Room := { frames := 4, cells := 0, slots := 0, locals := 85 }
theorem ykN_set : yOk yN_set 3 := by decide +kernel
theorem dN_set_0 : decode prog_1_method_3_code 0 = .ok (.aload_n 0, 1) := by decide +kernel
theorem dN_set_1 : decode prog_1_method_3_code 1 = .ok (.iload_n 1, 1) := by decide +kernel
theorem dN_set_2 : decode prog_1_method_3_code 2 = .ok (.invokevirtual 66, 3) := by decide +kernel
theorem dN_set_5 : decode prog_1_method_3_code 5 = .ok (.astore 4, 2) := by decide +kernel
theorem dN_set_7 : decode prog_1_method_3_code 7 = .ok (.aload 4, 2) := by decide +kernel
theorem dN_set_9 : decode prog_1_method_3_code 9 = .ok (.ifnull (28), 3) := by decide +kernel
theorem dN_set_12 : decode prog_1_method_3_code 12 = .ok (.aload 4, 2) := by decide +kernel
theorem dN_set_14 : decode prog_1_method_3_code 14 = .ok (.getfield 70, 3) := by decide +kernel
theorem dN_set_17 : decode prog_1_method_3_code 17 = .ok (.iconst (2), 1) := by decide +kernel
theorem dN_set_18 : decode prog_1_method_3_code 18 = .ok (.if_icmp .eq (19), 3) := by decide +kernel
theorem dN_set_21 : decode prog_1_method_3_code 21 = .ok (.aload 4, 2) := by decide +kernel
theorem dN_set_23 : decode prog_1_method_3_code 23 = .ok (.iload_n 2, 1) := by decide +kernel
theorem dN_set_24 : decode prog_1_method_3_code 24 = .ok (.invokevirtual 73, 3) := by decide +kernel
theorem dN_set_27 : decode prog_1_method_3_code 27 = .ok (.ifCond .eq (10), 3) := by decide +kernel
theorem dN_set_30 : decode prog_1_method_3_code 30 = .ok (.iload_n 3, 1) := by decide +kernel
theorem dN_set_31 : decode prog_1_method_3_code 31 = .ok (.invokestatic 51, 3) := by decide +kernel
theorem dN_set_34 : decode prog_1_method_3_code 34 = .ok (.ifCond .ne (5), 3) := by decide +kernel
theorem dN_set_37 : decode prog_1_method_3_code 37 = .ok (.iconst (-1), 1) := by decide +kernel
theorem dN_set_38 : decode prog_1_method_3_code 38 = .ok (.ireturn, 1) := by decide +kernel
theorem dN_set_39 : decode prog_1_method_3_code 39 = .ok (.aload_n 0, 1) := by decide +kernel
theorem dN_set_40 : decode prog_1_method_3_code 40 = .ok (.getfield 32, 3) := by decide +kernel
theorem dN_set_43 : decode prog_1_method_3_code 43 = .ok (.ifCond .eq (14), 3) := by decide +kernel
theorem dN_set_46 : decode prog_1_method_3_code 46 = .ok (.aload 4, 2) := by decide +kernel
theorem dN_set_48 : decode prog_1_method_3_code 48 = .ok (.getfield 70, 3) := by decide +kernel
theorem dN_set_51 : decode prog_1_method_3_code 51 = .ok (.ifCond .ne (6), 3) := by decide +kernel
theorem dN_set_54 : decode prog_1_method_3_code 54 = .ok (.bipush (-3), 2) := by decide +kernel
theorem dN_set_56 : decode prog_1_method_3_code 56 = .ok (.ireturn, 1) := by decide +kernel
theorem dN_set_57 : decode prog_1_method_3_code 57 = .ok (.aload 4, 2) := by decide +kernel
theorem dN_set_59 : decode prog_1_method_3_code 59 = .ok (.getfield 76, 3) := by decide +kernel
theorem dN_set_62 : decode prog_1_method_3_code 62 = .ok (.iload_n 2, 1) := by decide +kernel
theorem dN_set_63 : decode prog_1_method_3_code 63 = .ok (.iload_n 3, 1) := by decide +kernel
theorem dN_set_64 : decode prog_1_method_3_code 64 = .ok (.iastore, 1) := by decide +kernel
theorem dN_set_65 : decode prog_1_method_3_code 65 = .ok (.iconst (0), 1) := by decide +kernel
theorem dN_set_66 : decode prog_1_method_3_code 66 = .ok (.ireturn, 1) := by decide +kernel
abbrev yN_scale : MethodName := ⟨"ArenaNetwork", "scale", "(III)I"⟩
abbrev rmN_scale : Room := { frames := 2, cells := 0, slots := 0, locals := 42 }
theorem ykN_scale : yOk yN_scale 3 := by decide +kernel
theorem dN_scale_0 : decode prog_1_method_4_code 0 = .ok (.iload_n 1, 1) := by decide +kernel
theorem dN_scale_1 : decode prog_1_method_4_code 1 = .ok (.invokestatic 80, 3) := by decide +kernel
theorem dN_scale_4 : decode prog_1_method_4_code 4 = .ok (.ifCond .eq (17), 3) := by decide +kernel
theorem dN_scale_7 : decode prog_1_method_4_code 7 = .ok (.iload_n 2, 1) := by decide +kernel
theorem dN_scale_8 : decode prog_1_method_4_code 8 = .ok (.ifCond .lt (13), 3) := by decide +kernel
theorem dN_scale_11 : decode prog_1_method_4_code 11 = .ok (.iload_n 3, 1) := by decide +kernel
theorem dN_scale_12 : decode prog_1_method_4_code 12 = .ok (.iconst (0), 1) := by decide +kernel
theorem dN_scale_13 : decode prog_1_method_4_code 13 = .ok (.bipush (30), 2) := by decide +kernel
theorem dN_scale_15 : decode prog_1_method_4_code 15 = .ok (.invokestatic 43, 3) := by decide +kernel
theorem dN_scale_18 : decode prog_1_method_4_code 18 = .ok (.ifCond .ne (5), 3) := by decide +kernel
theorem dN_scale_21 : decode prog_1_method_4_code 21 = .ok (.iconst (-1), 1) := by decide +kernel
theorem dN_scale_22 : decode prog_1_method_4_code 22 = .ok (.ireturn, 1) := by decide +kernel
theorem dN_scale_23 : decode prog_1_method_4_code 23 = .ok (.aload_n 0, 1) := by decide +kernel
theorem dN_scale_24 : decode prog_1_method_4_code 24 = .ok (.getfield 32, 3) := by decide +kernel
theorem dN_scale_27 : decode prog_1_method_4_code 27 = .ok (.ifCond .eq (6), 3) := by decide +kernel
theorem dN_scale_30 : decode prog_1_method_4_code 30 = .ok (.bipush (-3), 2) := by decide +kernel
theorem dN_scale_32 : decode prog_1_method_4_code 32 = .ok (.ireturn, 1) := by decide +kernel
theorem dN_scale_33 : decode prog_1_method_4_code 33 = .ok (.aload_n 0, 1) := by decide +kernel
theorem dN_scale_34 : decode prog_1_method_4_code 34 = .ok (.getfield 21, 3) := by decide +kernel
theorem dN_scale_37 : decode prog_1_method_4_code 37 = .ok (.iload_n 1, 1) := by decide +kernel
theorem dN_scale_38 : decode prog_1_method_4_code 38 = .ok (.aaload, 1) := by decide +kernel
theorem dN_scale_39 : decode prog_1_method_4_code 39 = .ok (.iload_n 2, 1) := by decide +kernel
theorem dN_scale_40 : decode prog_1_method_4_code 40 = .ok (.putfield 83, 3) := by decide +kernel
theorem dN_scale_43 : decode prog_1_method_4_code 43 = .ok (.aload_n 0, 1) := by decide +kernel
theorem dN_scale_44 : decode prog_1_method_4_code 44 = .ok (.getfield 21, 3) := by decide +kernel
theorem dN_scale_47 : decode prog_1_method_4_code 47 = .ok (.iload_n 1, 1) := by decide +kernel
theorem dN_scale_48 : decode prog_1_method_4_code 48 = .ok (.aaload, 1) := by decide +kernel
theorem dN_scale_49 : decode prog_1_method_4_code 49 = .ok (.iload_n 3, 1) := by decide +kernel
theorem dN_scale_50 : decode prog_1_method_4_code 50 = .ok (.putfield 86, 3) := by decide +kernel
theorem dN_scale_53 : decode prog_1_method_4_code 53 = .ok (.iconst (0), 1) := by decide +kernel
theorem dN_scale_54 : decode prog_1_method_4_code 54 = .ok (.ireturn, 1) := by decide +kernel
abbrev yN_operator : MethodName := ⟨"ArenaNetwork", "operator", "(IIIII)I"⟩
abbrev rmN_operator : Room := { frames := 7, cells := 2, slots := 66, locals := 171 }
theorem ykN_operator : yOk yN_operator 5 := by decide +kernel
theorem dN_operator_0 : decode prog_1_method_5_code 0 = .ok (.aload_n 0, 1) := by decide +kernel
theorem dN_operator_1 : decode prog_1_method_5_code 1 = .ok (.iload_n 2, 1) := by decide +kernel
theorem dN_operator_2 : decode prog_1_method_5_code 2 = .ok (.invokevirtual 66, 3) := by decide +kernel
theorem dN_operator_5 : decode prog_1_method_5_code 5 = .ok (.astore 6, 2) := by decide +kernel
theorem dN_operator_7 : decode prog_1_method_5_code 7 = .ok (.aload_n 0, 1) := by decide +kernel
theorem dN_operator_8 : decode prog_1_method_5_code 8 = .ok (.iload_n 3, 1) := by decide +kernel
theorem dN_operator_9 : decode prog_1_method_5_code 9 = .ok (.invokevirtual 66, 3) := by decide +kernel
theorem dN_operator_12 : decode prog_1_method_5_code 12 = .ok (.astore 7, 2) := by decide +kernel
theorem dN_operator_14 : decode prog_1_method_5_code 14 = .ok (.aload_n 0, 1) := by decide +kernel
theorem dN_operator_15 : decode prog_1_method_5_code 15 = .ok (.iload 4, 2) := by decide +kernel
theorem dN_operator_17 : decode prog_1_method_5_code 17 = .ok (.invokevirtual 66, 3) := by decide +kernel
theorem dN_operator_20 : decode prog_1_method_5_code 20 = .ok (.astore 8, 2) := by decide +kernel
theorem dN_operator_22 : decode prog_1_method_5_code 22 = .ok (.iload_n 1, 1) := by decide +kernel
theorem dN_operator_23 : decode prog_1_method_5_code 23 = .ok (.iconst (0), 1) := by decide +kernel
theorem dN_operator_24 : decode prog_1_method_5_code 24 = .ok (.bipush (7), 2) := by decide +kernel
theorem dN_operator_26 : decode prog_1_method_5_code 26 = .ok (.invokestatic 43, 3) := by decide +kernel
theorem dN_operator_29 : decode prog_1_method_5_code 29 = .ok (.ifCond .eq (26), 3) := by decide +kernel
theorem dN_operator_32 : decode prog_1_method_5_code 32 = .ok (.aload 6, 2) := by decide +kernel
theorem dN_operator_34 : decode prog_1_method_5_code 34 = .ok (.ifnull (21), 3) := by decide +kernel
theorem dN_operator_37 : decode prog_1_method_5_code 37 = .ok (.aload 7, 2) := by decide +kernel
theorem dN_operator_39 : decode prog_1_method_5_code 39 = .ok (.ifnull (16), 3) := by decide +kernel
theorem dN_operator_42 : decode prog_1_method_5_code 42 = .ok (.aload 8, 2) := by decide +kernel
theorem dN_operator_44 : decode prog_1_method_5_code 44 = .ok (.ifnull (11), 3) := by decide +kernel
theorem dN_operator_47 : decode prog_1_method_5_code 47 = .ok (.iload 5, 2) := by decide +kernel
theorem dN_operator_49 : decode prog_1_method_5_code 49 = .ok (.invokestatic 80, 3) := by decide +kernel
theorem dN_operator_52 : decode prog_1_method_5_code 52 = .ok (.ifCond .ne (5), 3) := by decide +kernel
theorem dN_operator_55 : decode prog_1_method_5_code 55 = .ok (.iconst (-1), 1) := by decide +kernel
theorem dN_operator_56 : decode prog_1_method_5_code 56 = .ok (.ireturn, 1) := by decide +kernel
theorem dN_operator_57 : decode prog_1_method_5_code 57 = .ok (.aload_n 0, 1) := by decide +kernel
theorem dN_operator_58 : decode prog_1_method_5_code 58 = .ok (.getfield 32, 3) := by decide +kernel
theorem dN_operator_61 : decode prog_1_method_5_code 61 = .ok (.ifCond .eq (6), 3) := by decide +kernel
theorem dN_operator_64 : decode prog_1_method_5_code 64 = .ok (.bipush (-3), 2) := by decide +kernel
theorem dN_operator_66 : decode prog_1_method_5_code 66 = .ok (.ireturn, 1) := by decide +kernel
theorem dN_operator_67 : decode prog_1_method_5_code 67 = .ok (.aload_n 0, 1) := by decide +kernel
theorem dN_operator_68 : decode prog_1_method_5_code 68 = .ok (.getfield 16, 3) := by decide +kernel
theorem dN_operator_71 : decode prog_1_method_5_code 71 = .ok (.invokevirtual 55, 3) := by decide +kernel
theorem dN_operator_74 : decode prog_1_method_5_code 74 = .ok (.bipush (14), 2) := by decide +kernel
theorem dN_operator_76 : decode prog_1_method_5_code 76 = .ok (.if_icmp .lt (6), 3) := by decide +kernel
theorem dN_operator_79 : decode prog_1_method_5_code 79 = .ok (.bipush (-2), 2) := by decide +kernel
theorem dN_operator_81 : decode prog_1_method_5_code 81 = .ok (.ireturn, 1) := by decide +kernel
theorem dN_operator_82 : decode prog_1_method_5_code 82 = .ok (.aload_n 0, 1) := by decide +kernel
theorem dN_operator_83 : decode prog_1_method_5_code 83 = .ok (.getfield 16, 3) := by decide +kernel
theorem dN_operator_86 : decode prog_1_method_5_code 86 = .ok (.new 89, 3) := by decide +kernel
theorem dN_operator_89 : decode prog_1_method_5_code 89 = .ok (.dup, 1) := by decide +kernel
theorem dN_operator_90 : decode prog_1_method_5_code 90 = .ok (.iload_n 1, 1) := by decide +kernel
theorem dN_operator_91 : decode prog_1_method_5_code 91 = .ok (.aload 6, 2) := by decide +kernel
theorem dN_operator_93 : decode prog_1_method_5_code 93 = .ok (.aload 7, 2) := by decide +kernel
theorem dN_operator_95 : decode prog_1_method_5_code 95 = .ok (.aload 8, 2) := by decide +kernel
theorem dN_operator_97 : decode prog_1_method_5_code 97 = .ok (.iload 5, 2) := by decide +kernel
theorem dN_operator_99 : decode prog_1_method_5_code 99 = .ok (.invokespecial 91, 3) := by decide +kernel
theorem dN_operator_102 : decode prog_1_method_5_code 102 = .ok (.invokevirtual 62, 3) := by decide +kernel
theorem dN_operator_105 : decode prog_1_method_5_code 105 = .ok (.pop, 1) := by decide +kernel
theorem dN_operator_106 : decode prog_1_method_5_code 106 = .ok (.aload_n 0, 1) := by decide +kernel
theorem dN_operator_107 : decode prog_1_method_5_code 107 = .ok (.getfield 16, 3) := by decide +kernel
theorem dN_operator_110 : decode prog_1_method_5_code 110 = .ok (.invokevirtual 55, 3) := by decide +kernel
theorem dN_operator_113 : decode prog_1_method_5_code 113 = .ok (.iconst (1), 1) := by decide +kernel
theorem dN_operator_114 : decode prog_1_method_5_code 114 = .ok (.isub, 1) := by decide +kernel
theorem dN_operator_115 : decode prog_1_method_5_code 115 = .ok (.ireturn, 1) := by decide +kernel
abbrev yN_keep : MethodName := ⟨"ArenaNetwork", "keep", "(IZ)I"⟩
abbrev rmN_keep : Room := { frames := 4, cells := 0, slots := 0, locals := 85 }
theorem ykN_keep : yOk yN_keep 2 := by decide +kernel
theorem dN_keep_0 : decode prog_1_method_6_code 0 = .ok (.aload_n 0, 1) := by decide +kernel
theorem dN_keep_1 : decode prog_1_method_6_code 1 = .ok (.iload_n 1, 1) := by decide +kernel
theorem dN_keep_2 : decode prog_1_method_6_code 2 = .ok (.invokevirtual 66, 3) := by decide +kernel
theorem dN_keep_5 : decode prog_1_method_6_code 5 = .ok (.astore_n 3, 1) := by decide +kernel
theorem dN_keep_6 : decode prog_1_method_6_code 6 = .ok (.aload_n 3, 1) := by decide +kernel
theorem dN_keep_7 : decode prog_1_method_6_code 7 = .ok (.ifnull (10), 3) := by decide +kernel
theorem dN_keep_10 : decode prog_1_method_6_code 10 = .ok (.aload_n 3, 1) := by decide +kernel
theorem dN_keep_11 : decode prog_1_method_6_code 11 = .ok (.getfield 70, 3) := by decide +kernel
theorem dN_keep_14 : decode prog_1_method_6_code 14 = .ok (.ifCond .ne (5), 3) := by decide +kernel
theorem dN_keep_17 : decode prog_1_method_6_code 17 = .ok (.iconst (-1), 1) := by decide +kernel
theorem dN_keep_18 : decode prog_1_method_6_code 18 = .ok (.ireturn, 1) := by decide +kernel
theorem dN_keep_19 : decode prog_1_method_6_code 19 = .ok (.aload_n 0, 1) := by decide +kernel
theorem dN_keep_20 : decode prog_1_method_6_code 20 = .ok (.getfield 32, 3) := by decide +kernel
theorem dN_keep_23 : decode prog_1_method_6_code 23 = .ok (.ifCond .eq (6), 3) := by decide +kernel
theorem dN_keep_26 : decode prog_1_method_6_code 26 = .ok (.bipush (-3), 2) := by decide +kernel
theorem dN_keep_28 : decode prog_1_method_6_code 28 = .ok (.ireturn, 1) := by decide +kernel
theorem dN_keep_29 : decode prog_1_method_6_code 29 = .ok (.aload_n 3, 1) := by decide +kernel
theorem dN_keep_30 : decode prog_1_method_6_code 30 = .ok (.iload_n 2, 1) := by decide +kernel
theorem dN_keep_31 : decode prog_1_method_6_code 31 = .ok (.putfield 94, 3) := by decide +kernel
theorem dN_keep_34 : decode prog_1_method_6_code 34 = .ok (.iconst (0), 1) := by decide +kernel
theorem dN_keep_35 : decode prog_1_method_6_code 35 = .ok (.ireturn, 1) := by decide +kernel
abbrev yN_prepare : MethodName := ⟨"ArenaNetwork", "prepare", "()I"⟩
abbrev rmN_prepare : Room := { frames := 9, cells := 20, slots := 660, locals := 216 }
theorem ykN_prepare : yOk yN_prepare 0 := by decide +kernel
theorem dN_prepare_0 : decode prog_1_method_7_code 0 = .ok (.aload_n 0, 1) := by decide +kernel
theorem dN_prepare_1 : decode prog_1_method_7_code 1 = .ok (.getfield 32, 3) := by decide +kernel
theorem dN_prepare_4 : decode prog_1_method_7_code 4 = .ok (.ifCond .eq (6), 3) := by decide +kernel
theorem dN_prepare_7 : decode prog_1_method_7_code 7 = .ok (.bipush (-3), 2) := by decide +kernel
theorem dN_prepare_9 : decode prog_1_method_7_code 9 = .ok (.ireturn, 1) := by decide +kernel
theorem dN_prepare_10 : decode prog_1_method_7_code 10 = .ok (.aload_n 0, 1) := by decide +kernel
theorem dN_prepare_11 : decode prog_1_method_7_code 11 = .ok (.invokevirtual 97, 3) := by decide +kernel
theorem dN_prepare_14 : decode prog_1_method_7_code 14 = .ok (.istore_n 1, 1) := by decide +kernel
theorem dN_prepare_15 : decode prog_1_method_7_code 15 = .ok (.iload_n 1, 1) := by decide +kernel
theorem dN_prepare_16 : decode prog_1_method_7_code 16 = .ok (.ifCond .eq (5), 3) := by decide +kernel
theorem dN_prepare_19 : decode prog_1_method_7_code 19 = .ok (.iload_n 1, 1) := by decide +kernel
theorem dN_prepare_20 : decode prog_1_method_7_code 20 = .ok (.ireturn, 1) := by decide +kernel
theorem dN_prepare_21 : decode prog_1_method_7_code 21 = .ok (.aload_n 0, 1) := by decide +kernel
theorem dN_prepare_22 : decode prog_1_method_7_code 22 = .ok (.invokevirtual 100, 3) := by decide +kernel
theorem dN_prepare_25 : decode prog_1_method_7_code 25 = .ok (.aload_n 0, 1) := by decide +kernel
theorem dN_prepare_26 : decode prog_1_method_7_code 26 = .ok (.getfield 28, 3) := by decide +kernel
theorem dN_prepare_29 : decode prog_1_method_7_code 29 = .ok (.aload_n 0, 1) := by decide +kernel
theorem dN_prepare_30 : decode prog_1_method_7_code 30 = .ok (.getfield 10, 3) := by decide +kernel
theorem dN_prepare_33 : decode prog_1_method_7_code 33 = .ok (.invokevirtual 103, 3) := by decide +kernel
theorem dN_prepare_36 : decode prog_1_method_7_code 36 = .ok (.aload_n 0, 1) := by decide +kernel
theorem dN_prepare_37 : decode prog_1_method_7_code 37 = .ok (.iconst (1), 1) := by decide +kernel
theorem dN_prepare_38 : decode prog_1_method_7_code 38 = .ok (.putfield 32, 3) := by decide +kernel
theorem dN_prepare_41 : decode prog_1_method_7_code 41 = .ok (.aload_n 0, 1) := by decide +kernel
theorem dN_prepare_42 : decode prog_1_method_7_code 42 = .ok (.getfield 28, 3) := by decide +kernel
theorem dN_prepare_45 : decode prog_1_method_7_code 45 = .ok (.getfield 107, 3) := by decide +kernel
theorem dN_prepare_48 : decode prog_1_method_7_code 48 = .ok (.ireturn, 1) := by decide +kernel
abbrev yN_reopen : MethodName := ⟨"ArenaNetwork", "reopen", "()I"⟩
abbrev rmN_reopen : Room := { frames := 0, cells := 0, slots := 0, locals := 0 }
theorem ykN_reopen : yOk yN_reopen 0 := by decide +kernel
theorem dN_reopen_0 : decode prog_1_method_8_code 0 = .ok (.aload_n 0, 1) := by decide +kernel
theorem dN_reopen_1 : decode prog_1_method_8_code 1 = .ok (.getfield 32, 3) := by decide +kernel
theorem dN_reopen_4 : decode prog_1_method_8_code 4 = .ok (.ifCond .ne (6), 3) := by decide +kernel
theorem dN_reopen_7 : decode prog_1_method_8_code 7 = .ok (.bipush (-3), 2) := by decide +kernel
theorem dN_reopen_9 : decode prog_1_method_8_code 9 = .ok (.ireturn, 1) := by decide +kernel
theorem dN_reopen_10 : decode prog_1_method_8_code 10 = .ok (.aload_n 0, 1) := by decide +kernel
theorem dN_reopen_11 : decode prog_1_method_8_code 11 = .ok (.iconst (0), 1) := by decide +kernel
theorem dN_reopen_12 : decode prog_1_method_8_code 12 = .ok (.putfield 32, 3) := by decide +kernel
theorem dN_reopen_15 : decode prog_1_method_8_code 15 = .ok (.aload_n 0, 1) := by decide +kernel
theorem dN_reopen_16 : decode prog_1_method_8_code 16 = .ok (.iconst (-1), 1) := by decide +kernel
theorem dN_reopen_17 : decode prog_1_method_8_code 17 = .ok (.putfield 36, 3) := by decide +kernel
theorem dN_reopen_20 : decode prog_1_method_8_code 20 = .ok (.iconst (0), 1) := by decide +kernel
theorem dN_reopen_21 : decode prog_1_method_8_code 21 = .ok (.ireturn, 1) := by decide +kernel
abbrev yN_start : MethodName := ⟨"ArenaNetwork", "start", "()I"⟩
abbrev rmN_start : Room := { frames := 3, cells := 0, slots := 0, locals := 64 }
theorem ykN_start : yOk yN_start 0 := by decide +kernel
theorem dN_start_0 : decode prog_1_method_9_code 0 = .ok (.aload_n 0, 1) := by decide +kernel
theorem dN_start_1 : decode prog_1_method_9_code 1 = .ok (.getfield 32, 3) := by decide +kernel
theorem dN_start_4 : decode prog_1_method_9_code 4 = .ok (.ifCond .ne (6), 3) := by decide +kernel
theorem dN_start_7 : decode prog_1_method_9_code 7 = .ok (.bipush (-3), 2) := by decide +kernel
theorem dN_start_9 : decode prog_1_method_9_code 9 = .ok (.ireturn, 1) := by decide +kernel
theorem dN_start_10 : decode prog_1_method_9_code 10 = .ok (.iconst (0), 1) := by decide +kernel
theorem dN_start_11 : decode prog_1_method_9_code 11 = .ok (.istore_n 1, 1) := by decide +kernel
theorem dN_start_12 : decode prog_1_method_9_code 12 = .ok (.iload_n 1, 1) := by decide +kernel
theorem dN_start_13 : decode prog_1_method_9_code 13 = .ok (.aload_n 0, 1) := by decide +kernel
theorem dN_start_14 : decode prog_1_method_9_code 14 = .ok (.getfield 10, 3) := by decide +kernel
theorem dN_start_17 : decode prog_1_method_9_code 17 = .ok (.invokevirtual 55, 3) := by decide +kernel
theorem dN_start_20 : decode prog_1_method_9_code 20 = .ok (.if_icmp .ge (23), 3) := by decide +kernel
theorem dN_start_23 : decode prog_1_method_9_code 23 = .ok (.aload_n 0, 1) := by decide +kernel
theorem dN_start_24 : decode prog_1_method_9_code 24 = .ok (.getfield 10, 3) := by decide +kernel
theorem dN_start_27 : decode prog_1_method_9_code 27 = .ok (.iload_n 1, 1) := by decide +kernel
theorem dN_start_28 : decode prog_1_method_9_code 28 = .ok (.invokevirtual 110, 3) := by decide +kernel
theorem dN_start_31 : decode prog_1_method_9_code 31 = .ok (.checkcast 41, 3) := by decide +kernel
theorem dN_start_34 : decode prog_1_method_9_code 34 = .ok (.invokevirtual 114, 3) := by decide +kernel
theorem dN_start_37 : decode prog_1_method_9_code 37 = .ok (.iinc 1 (1), 3) := by decide +kernel
theorem dN_start_40 : decode prog_1_method_9_code 40 = .ok (.goto (-28), 3) := by decide +kernel
theorem dN_start_43 : decode prog_1_method_9_code 43 = .ok (.aload_n 0, 1) := by decide +kernel
theorem dN_start_44 : decode prog_1_method_9_code 44 = .ok (.iconst (0), 1) := by decide +kernel
theorem dN_start_45 : decode prog_1_method_9_code 45 = .ok (.putfield 36, 3) := by decide +kernel
theorem dN_start_48 : decode prog_1_method_9_code 48 = .ok (.aload_n 0, 1) := by decide +kernel
theorem dN_start_49 : decode prog_1_method_9_code 49 = .ok (.getfield 16, 3) := by decide +kernel
theorem dN_start_52 : decode prog_1_method_9_code 52 = .ok (.invokevirtual 55, 3) := by decide +kernel
theorem dN_start_55 : decode prog_1_method_9_code 55 = .ok (.ireturn, 1) := by decide +kernel
abbrev yN_step : MethodName := ⟨"ArenaNetwork", "step", "()I"⟩
abbrev rmN_step : Room := { frames := 6, cells := 0, slots := 0, locals := 135 }
theorem ykN_step : yOk yN_step 0 := by decide +kernel
theorem dN_step_0 : decode prog_1_method_10_code 0 = .ok (.aload_n 0, 1) := by decide +kernel
theorem dN_step_1 : decode prog_1_method_10_code 1 = .ok (.getfield 36, 3) := by decide +kernel
theorem dN_step_4 : decode prog_1_method_10_code 4 = .ok (.iconst (-1), 1) := by decide +kernel
theorem dN_step_5 : decode prog_1_method_10_code 5 = .ok (.if_icmp .eq (17), 3) := by decide +kernel
theorem dN_step_8 : decode prog_1_method_10_code 8 = .ok (.aload_n 0, 1) := by decide +kernel
theorem dN_step_9 : decode prog_1_method_10_code 9 = .ok (.getfield 36, 3) := by decide +kernel
theorem dN_step_12 : decode prog_1_method_10_code 12 = .ok (.aload_n 0, 1) := by decide +kernel
theorem dN_step_13 : decode prog_1_method_10_code 13 = .ok (.getfield 16, 3) := by decide +kernel
theorem dN_step_16 : decode prog_1_method_10_code 16 = .ok (.invokevirtual 55, 3) := by decide +kernel
theorem dN_step_19 : decode prog_1_method_10_code 19 = .ok (.if_icmp .lt (6), 3) := by decide +kernel
theorem dN_step_22 : decode prog_1_method_10_code 22 = .ok (.bipush (-3), 2) := by decide +kernel
theorem dN_step_24 : decode prog_1_method_10_code 24 = .ok (.ireturn, 1) := by decide +kernel
theorem dN_step_25 : decode prog_1_method_10_code 25 = .ok (.aload_n 0, 1) := by decide +kernel
theorem dN_step_26 : decode prog_1_method_10_code 26 = .ok (.invokevirtual 117, 3) := by decide +kernel
theorem dN_step_29 : decode prog_1_method_10_code 29 = .ok (.aload_n 0, 1) := by decide +kernel
theorem dN_step_30 : decode prog_1_method_10_code 30 = .ok (.getfield 36, 3) := by decide +kernel
theorem dN_step_33 : decode prog_1_method_10_code 33 = .ok (.iconst (1), 1) := by decide +kernel
theorem dN_step_34 : decode prog_1_method_10_code 34 = .ok (.isub, 1) := by decide +kernel
theorem dN_step_35 : decode prog_1_method_10_code 35 = .ok (.ireturn, 1) := by decide +kernel
def fN_tensor (b : Nat) (a1 : Int32) (a2 : Int32) (a3 : Int32) (w : cW) : Option (Int32 × cW) :=
  cbd (fN_isWithin a1 (0 : Int32) (2 : Int32) w) fun x1 w2 =>
  if x1 = 0 then (
    some ((-1 : Int32), w2)) else
  cbd (fT_greatestLength a1 w2) fun x3 w4 =>
  cbd (fN_isWithin a2 (1 : Int32) x3 w4) fun x5 w6 =>
  if x5 = 0 then (
    some ((-1 : Int32), w6)) else
  cbd (fN_isCellValue a3 w6) fun x7 w8 =>
  if x7 = 0 then (
    some ((-1 : Int32), w8)) else
  (gI w8 (some b) 0 4).bind fun x9 =>
  if x9 = 0 then (
    (gQ w8 (some b) 0 0).bind fun r10 =>
    (cRcv w8 r10 6).bind fun b13 => cbd (fL_size b13 w8) fun x11 w12 =>
    if x11 < (20 : Int32) then (
      (gQ w12 (some b) 0 0).bind fun r14 =>
      (cRcv w12 r14 6).bind fun b17 => cbd (fL_size b17 w12) fun x15 w16 =>
      (gQ w16 (some b) 0 0).bind fun r18 =>
      bnd (alC w16 (.inr (4, dfT))) fun w19 =>
      cbd (fT_init w16.2.1 x15 a1 a2 a3 w19) fun _ w21 =>
      (cRcv w21 r18 6).bind fun b24 => cbd (fL_add2 b24 w16.2.1 w21) fun x22 w23 =>
      some (x15, w23)) else
    some ((-2 : Int32), w12)) else
  some ((-3 : Int32), w8)
def fN_set (b : Nat) (a1 : Int32) (a2 : Int32) (a3 : Int32) (w : cW) : Option (Int32 × cW) :=
  (cRcv w (some b) 0).bind fun b3 => cbd (fN_tensorAt b3 a1 w) fun r1 w2 =>
  if r1 = none then (
    some ((-1 : Int32), w2)) else
  (gI w2 r1 4 1).bind fun x4 =>
  if x4 = (2 : Int32) then (
    some ((-1 : Int32), w2)) else
  (cRcv w2 r1 4).bind fun b7 => cbd (fT_hasCell b7 a2 w2) fun x5 w6 =>
  if x5 = 0 then (
    some ((-1 : Int32), w6)) else
  cbd (fN_isCellValue a3 w6) fun x8 w9 =>
  if x8 = 0 then (
    some ((-1 : Int32), w9)) else
  (gI w9 (some b) 0 4).bind fun x10 =>
  if x10 = 0 then (
    (gQ w9 r1 4 4).bind fun r11 =>
    (stI w9 r11 .int a2 a3).bind fun w12 =>
    some ((0 : Int32), w12)) else
  (gI w9 r1 4 1).bind fun x13 =>
  if x13 = 0 then (
    some ((-3 : Int32), w9)) else
  (gQ w9 r1 4 4).bind fun r14 =>
  (stI w9 r14 .int a2 a3).bind fun w15 =>
  some ((0 : Int32), w15)
def fN_scale (b : Nat) (a1 : Int32) (a2 : Int32) (a3 : Int32) (w : cW) : Option (Int32 × cW) :=
  cbd (fN_isScale a1 w) fun x1 w2 =>
  if x1 = 0 then (
    some ((-1 : Int32), w2)) else
  if a2 < 0 then (
    some ((-1 : Int32), w2)) else
  cbd (fN_isWithin a3 (0 : Int32) (30 : Int32) w2) fun x3 w4 =>
  if x3 = 0 then (
    some ((-1 : Int32), w4)) else
  (gI w4 (some b) 0 4).bind fun x5 =>
  if x5 = 0 then (
    (gQ w4 (some b) 0 2).bind fun r6 =>
    (ldQ w4 r6 a1).bind fun r7 =>
    (pI w4 r7 3 0 a2).bind fun w8 =>
    (gQ w8 (some b) 0 2).bind fun r9 =>
    (ldQ w8 r9 a1).bind fun r10 =>
    (pI w8 r10 3 1 a3).bind fun w11 =>
    some ((0 : Int32), w11)) else
  some ((-3 : Int32), w4)
def fN_operator (b : Nat) (a1 : Int32) (a2 : Int32) (a3 : Int32) (a4 : Int32) (a5 : Int32) (w : cW) : Option (Int32 × cW) :=
  (cRcv w (some b) 0).bind fun b3 => cbd (fN_tensorAt b3 a2 w) fun r1 w2 =>
  (cRcv w2 (some b) 0).bind fun b6 => cbd (fN_tensorAt b6 a3 w2) fun r4 w5 =>
  (cRcv w5 (some b) 0).bind fun b9 => cbd (fN_tensorAt b9 a4 w5) fun r7 w8 =>
  cbd (fN_isWithin a1 (0 : Int32) (7 : Int32) w8) fun x10 w11 =>
  if x10 = 0 then (
    some ((-1 : Int32), w11)) else
  if r1 = none then (
    some ((-1 : Int32), w11)) else
  if r4 = none then (
    some ((-1 : Int32), w11)) else
  if r7 = none then (
    some ((-1 : Int32), w11)) else
  cbd (fN_isScale a5 w11) fun x12 w13 =>
  if x12 = 0 then (
    some ((-1 : Int32), w13)) else
  (gI w13 (some b) 0 4).bind fun x14 =>
  if x14 = 0 then (
    (gQ w13 (some b) 0 1).bind fun r15 =>
    (cRcv w13 r15 6).bind fun b18 => cbd (fL_size b18 w13) fun x16 w17 =>
    if x16 < (14 : Int32) then (
      (gQ w17 (some b) 0 1).bind fun r19 =>
      bnd (alC w17 (.inr (2, dfO))) fun w20 =>
      r1.bind fun b21 =>
      r4.bind fun b22 =>
      r7.bind fun b23 =>
      cbd (fO_init w17.2.1 a1 b21 b22 b23 a5 w20) fun _ w25 =>
      (cRcv w25 r19 6).bind fun b28 => cbd (fL_add2 b28 w17.2.1 w25) fun x26 w27 =>
      (gQ w27 (some b) 0 1).bind fun r29 =>
      (cRcv w27 r29 6).bind fun b32 => cbd (fL_size b32 w27) fun x30 w31 =>
      some ((x30 - (1 : Int32)), w31)) else
    some ((-2 : Int32), w17)) else
  some ((-3 : Int32), w13)
def fN_keep (b : Nat) (a1 : Int32) (a2 : Int32) (w : cW) : Option (Int32 × cW) :=
  (cRcv w (some b) 0).bind fun b3 => cbd (fN_tensorAt b3 a1 w) fun r1 w2 =>
  if r1 = none then (
    some ((-1 : Int32), w2)) else
  (gI w2 r1 4 1).bind fun x4 =>
  if x4 = 0 then (
    some ((-1 : Int32), w2)) else
  (gI w2 (some b) 0 4).bind fun x5 =>
  if x5 = 0 then (
    (pZ w2 r1 4 6 a2).bind fun w6 =>
    some ((0 : Int32), w6)) else
  some ((-3 : Int32), w2)
def fN_prepare (b : Nat)  (w : cW) : Option (Int32 × cW) :=
  (gI w (some b) 0 4).bind fun x1 =>
  if x1 = 0 then (
    (cRcv w (some b) 0).bind fun b4 => cbd (fN_firstFault b4 w) fun x2 w3 =>
    if x2 = 0 then (
      (cRcv w3 (some b) 0).bind fun b7 => cbd (fN_giveLives b7 w3) fun u5 w6 =>
      (gQ w6 (some b) 0 3).bind fun r8 =>
      (gQ w6 (some b) 0 0).bind fun r9 =>
      r9.bind fun b10 =>
      (cRcv w6 r8 1).bind fun b13 => cbd (fA_layOut b13 b10 w6) fun u11 w12 =>
      (pZ w12 (some b) 0 4 (1 : Int32)).bind fun w14 =>
      (gQ w14 (some b) 0 3).bind fun r15 =>
      (gI w14 r15 1 1).bind fun x16 =>
      some (x16, w14)) else
    some (x2, w3)) else
  some ((-3 : Int32), w)
def fN_reopen (b : Nat)  (w : cW) : Option (Int32 × cW) :=
  (gI w (some b) 0 4).bind fun x1 =>
  if x1 = 0 then (
    some ((-3 : Int32), w)) else
  (pZ w (some b) 0 4 (0 : Int32)).bind fun w2 =>
  (pI w2 (some b) 0 5 (-1 : Int32)).bind fun w3 =>
  some ((0 : Int32), w3)
def fN_start_b43 (b : Nat)   (w : cW) : Option (Int32 × cW) :=
  (pI w (some b) 0 5 (0 : Int32)).bind fun w1 =>
  (gQ w1 (some b) 0 1).bind fun r2 =>
  (cRcv w1 r2 6).bind fun b5 => cbd (fL_size b5 w1) fun x3 w4 =>
  some (x3, w4)
def fN_start_b12 (b : Nat)  (rec12 : Int32 → cW → Option (Int32 × cW)) (a1 : Int32) (w : cW) : Option (Int32 × cW) :=
  (gQ w (some b) 0 0).bind fun r1 =>
  (cRcv w r1 6).bind fun b4 => cbd (fL_size b4 w) fun x2 w3 =>
  if x2 ≤ a1 then (
    fN_start_b43 b w3) else
  (gQ w3 (some b) 0 0).bind fun r5 =>
  (cRcv w3 r5 6).bind fun b8 => cbd (fL_get b8 a1 w3) fun r6 w7 =>
  (cCast w7 r6 4).bind fun _ =>
  (cRcv w7 r6 4).bind fun b11 => cbd (fT_takeGiven b11 w7) fun u9 w10 =>
  bnd (a1 + (1 : Int32)) fun x12 =>
  rec12 x12 w10
def fN_start_l12 (b : Nat)  (n : Nat) : Int32 → cW → Option (Int32 × cW) := lp (fun _ _ => none) (fN_start_b12 b ) n
def fN_start (b : Nat)  (w : cW) : Option (Int32 × cW) :=
  (gI w (some b) 0 4).bind fun x1 =>
  if x1 = 0 then (
    some ((-3 : Int32), w)) else
  fN_start_l12 b FU (0 : Int32) w
def fN_step (b : Nat)  (w : cW) : Option (Int32 × cW) :=
  (gI w (some b) 0 5).bind fun x1 =>
  if x1 = (-1 : Int32) then (
    some ((-3 : Int32), w)) else
  (gI w (some b) 0 5).bind fun x2 =>
  (gQ w (some b) 0 1).bind fun r3 =>
  (cRcv w r3 6).bind fun b6 => cbd (fL_size b6 w) fun x4 w5 =>
  if x2 < x4 then (
    (cRcv w5 (some b) 0).bind fun b9 => cbd (fN_doNext b9 w5) fun u7 w8 =>
    (gI w8 (some b) 0 5).bind fun x10 =>
    some ((x10 - (1 : Int32)), w8)) else
  some ((-3 : Int32), w5)
set_option maxHeartbeats 4000000 in
set_option maxRecDepth 100000 in
theorem tN_tensor {C : xC} {G : cG} {w0 w' : cW} {r : Int32} {b : Nat} (hC : okC C prog_1_method_2_code 5 "ArenaNetwork" lw_gd) (hE : xE C (some .int) mkI G w0 w' r) (hR : xR C = rmN_tensor) (a1 : Int32) (a2 : Int32) (a3 : Int32) (w : cW) (hf : fN_tensor b a1 a2 a3 w = some (r, w')) : V C w 0 0 0 [(0, va_rf (some b)), (1, .int a1), (2, .int a2), (3, .int a3)] [] := by
  unfold fN_tensor at hf
  refine v_iload_n (pc := 0) (i := 1) (x := a1) hC dN_tensor_0 rfl 1 rfl ?_
  refine v_iconst (pc := 1) (v := (0 : Int32)) hC dN_tensor_1 (by decide) ?_
  refine v_iconst (pc := 2) (v := (2 : Int32)) hC dN_tensor_2 (by decide) ?_
  refine v_callS (pc := 3) (As := [.int a1, .int (0 : Int32), .int (2 : Int32)]) (rest := []) (k' := 0) (n' := 0) (st1 := (fun yq => [.int yq])) hC dN_tensor_3 q107 q108 q1 q109 ykN_isWithin rfl (fun rq wq hq => mN_isWithin _ _ a1 (0 : Int32) (2 : Int32) _ rq wq hq) (by rw [hR]; decide) (by simp only [List.map_cons, List.map_nil, va_cat]; exact Nat.le_of_ble_eq_true rfl) (by decide) (by rw [hR]; decide) hf rfl (fun _ => rfl) (fun x1 w2 hf => ?_)
  refine v_if_eq (pc := 6) (tgt := 28) hC dN_tensor_6 (by decide) hf (fun hf => ?_) (fun hf => ?_)
  · refine v_iconst (pc := 28) (v := (-1 : Int32)) hC dN_tensor_28 (by decide) ?_
    exact v_iret (pc := 29) hC hE dN_tensor_29 (by rw [hR]; decide) (by rw [hR]; decide) hf
  · refine v_iload_n (pc := 9) (i := 2) (x := a2) hC dN_tensor_9 rfl 2 rfl ?_
    refine v_iconst (pc := 10) (v := (1 : Int32)) hC dN_tensor_10 (by decide) ?_
    refine v_iload_n (pc := 11) (i := 1) (x := a1) hC dN_tensor_11 rfl 1 rfl ?_
    refine v_callS (pc := 12) (As := [.int a1]) (rest := [.int (1 : Int32), .int a2]) (k' := 0) (n' := 0) (st1 := (fun yq => [.int yq, .int (1 : Int32), .int a2])) hC dN_tensor_12 q110 q111 q8 q112 ykT_greatestLength rfl (fun rq wq hq => mT_greatestLength _ _ a1 _ rq wq hq) (by rw [hR]; decide) (by simp only [List.map_cons, List.map_nil, va_cat]; exact Nat.le_of_ble_eq_true rfl) (by decide) (by rw [hR]; decide) hf rfl (fun _ => rfl) (fun x3 w4 hf => ?_)
    refine v_callS (pc := 15) (As := [.int a2, .int (1 : Int32), .int x3]) (rest := []) (k' := 0) (n' := 0) (st1 := (fun yq => [.int yq])) hC dN_tensor_15 q107 q108 q1 q109 ykN_isWithin rfl (fun rq wq hq => mN_isWithin _ _ a2 (1 : Int32) x3 _ rq wq hq) (by rw [hR]; decide) (by simp only [List.map_cons, List.map_nil, va_cat]; exact Nat.le_of_ble_eq_true rfl) (by decide) (by rw [hR]; decide) hf rfl (fun _ => rfl) (fun x5 w6 hf => ?_)
    refine v_if_eq (pc := 18) (tgt := 28) hC dN_tensor_18 (by decide) hf (fun hf => ?_) (fun hf => ?_)
    · refine v_iconst (pc := 28) (v := (-1 : Int32)) hC dN_tensor_28 (by decide) ?_
      exact v_iret (pc := 29) hC hE dN_tensor_29 (by rw [hR]; decide) (by rw [hR]; decide) hf
    · refine v_iload_n (pc := 21) (i := 3) (x := a3) hC dN_tensor_21 rfl 3 rfl ?_
      refine v_callS (pc := 22) (As := [.int a3]) (rest := []) (k' := 0) (n' := 0) (st1 := (fun yq => [.int yq])) hC dN_tensor_22 q113 q114 q1 q115 ykN_isCellValue rfl (fun rq wq hq => mN_isCellValue _ _ a3 _ rq wq hq) (by rw [hR]; decide) (by simp only [List.map_cons, List.map_nil, va_cat]; exact Nat.le_of_ble_eq_true rfl) (by decide) (by rw [hR]; decide) hf rfl (fun _ => rfl) (fun x7 w8 hf => ?_)
      refine v_if_ne (pc := 25) (tgt := 30) hC dN_tensor_25 (by decide) hf (fun hf => ?_) (fun hf => ?_)
      · refine v_aload_n (pc := 30) (i := 0) (r := (some b)) hC dN_tensor_30 rfl 0 rfl ?_
        refine v_getI (pc := 31) (r := (some b)) hC dN_tensor_31 inN rfl 4 (by decide) q88 (Or.inl rfl) hf (fun x9 hf => ?_)
        refine v_if_eq (pc := 34) (tgt := 40) hC dN_tensor_34 (by decide) hf (fun hf => ?_) (fun hf => ?_)
        · refine v_aload_n (pc := 40) (i := 0) (r := (some b)) hC dN_tensor_40 rfl 0 rfl ?_
          refine v_getQ (pc := 41) (r := (some b)) hC dN_tensor_41 inN rfl 0 (by decide) q84 (Or.inl rfl) hf (fun r10 hf => ?_)
          refine v_callV (pc := 44) (r := r10) (As := []) (rest := []) (k' := 0) (n' := 0) (st1 := (fun yq => [.int yq])) hC dN_tensor_44 q116 q117 q118 q4 q119 ykL_size rfl rfl (fun bq rq wq hq => mL_size _ _ bq  _ rq wq hq) (by rw [hR]; decide) (by simp only [List.map_cons, List.map_nil, va_cat]; exact Nat.le_of_ble_eq_true rfl) (by decide) (by rw [hR]; decide) hf rfl (fun _ => rfl) (fun x11 w12 hf => ?_)
          refine v_bipush (pc := 47) (v := (20 : Int32)) hC dN_tensor_47 (by decide) ?_
          refine v_icmp_lt (pc := 49) (tgt := 55) hC dN_tensor_49 (by decide) hf (fun hf => ?_) (fun hf => ?_)
          · refine v_aload_n (pc := 55) (i := 0) (r := (some b)) hC dN_tensor_55 rfl 0 rfl ?_
            refine v_getQ (pc := 56) (r := (some b)) hC dN_tensor_56 inN rfl 0 (by decide) q84 (Or.inl rfl) hf (fun r14 hf => ?_)
            refine v_callV (pc := 59) (r := r14) (As := []) (rest := []) (k' := 0) (n' := 0) (st1 := (fun yq => [.int yq])) hC dN_tensor_59 q116 q117 q118 q4 q119 ykL_size rfl rfl (fun bq rq wq hq => mL_size _ _ bq  _ rq wq hq) (by rw [hR]; decide) (by simp only [List.map_cons, List.map_nil, va_cat]; exact Nat.le_of_ble_eq_true rfl) (by decide) (by rw [hR]; decide) hf rfl (fun _ => rfl) (fun x15 w16 hf => ?_)
            refine v_istore (pc := 62) (i := 4) (x := x15) hC dN_tensor_62 (by decide) [(4, .int x15), (0, va_rf (some b)), (1, .int a1), (2, .int a2), (3, .int a3)] rfl ?_
            refine v_aload_n (pc := 64) (i := 0) (r := (some b)) hC dN_tensor_64 rfl 1 rfl ?_
            refine v_getQ (pc := 65) (r := (some b)) hC dN_tensor_65 inN rfl 0 (by decide) q84 (Or.inl rfl) hf (fun r18 hf => ?_)
            refine v_new (pc := 68) (fs := dfT) hC dN_tensor_68 inT rfl tyT tkT q120 q121 q8 doT (by rw [hR]; decide) (by rw [hR]; decide) hf (fun w19 hf => ?_)
            refine V.widen (k' := 2) (n' := 128) (by omega) (by omega) ?_
            refine v_dupR (pc := 71) hC dN_tensor_71 ?_
            refine v_iload (pc := 72) (i := 4) (x := x15) hC dN_tensor_72 0 rfl ?_
            refine v_iload_n (pc := 74) (i := 1) (x := a1) hC dN_tensor_74 rfl 2 rfl ?_
            refine v_iload_n (pc := 75) (i := 2) (x := a2) hC dN_tensor_75 rfl 3 rfl ?_
            refine v_iload_n (pc := 76) (i := 3) (x := a3) hC dN_tensor_76 rfl 4 rfl ?_
            refine v_callI (pc := 77) (b := w16.2.1) (As := [.int x15, .int a1, .int a2, .int a3]) (rest := [va_rf (some w16.2.1), va_rf r18]) (k' := 4) (n' := 256) hC dN_tensor_77 q122 q123 q8 q124 rfl ykT_init rfl (fun rq wq hq => mT_init _ _ w16.2.1 x15 a1 a2 a3 _ rq wq hq) (by rw [hR]; decide) (by simp only [List.map_cons, List.map_nil, va_cat]; exact Nat.le_of_ble_eq_true rfl) (by decide) (by rw [hR]; decide) hf rfl (fun _ w21 hf => ?_)
            refine v_callV (pc := 80) (r := r18) (As := [va_rf (some w16.2.1)]) (rest := []) (k' := 6) (n' := 384) (st1 := (fun yq => [.int yq])) hC dN_tensor_80 q177 q178 q179 q4 q180 ykL_add2 rfl rfl (fun bq rq wq hq => mL_add2 _ _ bq w16.2.1 _ rq wq hq) (by rw [hR]; decide) (by simp only [List.map_cons, List.map_nil, va_cat]; exact Nat.le_of_ble_eq_true rfl) (by decide) (by rw [hR]; decide) hf rfl (fun _ => rfl) (fun x22 w23 hf => ?_)
            refine v_pop (pc := 83) hC dN_tensor_83 rfl ?_
            refine v_iload (pc := 84) (i := 4) (x := x15) hC dN_tensor_84 0 rfl ?_
            exact v_iret (pc := 86) hC hE dN_tensor_86 (by rw [hR]; decide) (by rw [hR]; decide) hf
          · refine v_bipush (pc := 52) (v := (-2 : Int32)) hC dN_tensor_52 (by decide) ?_
            exact v_iret (pc := 54) hC hE dN_tensor_54 (by rw [hR]; decide) (by rw [hR]; decide) hf
        · refine v_bipush (pc := 37) (v := (-3 : Int32)) hC dN_tensor_37 (by decide) ?_
          exact v_iret (pc := 39) hC hE dN_tensor_39 (by rw [hR]; decide) (by rw [hR]; decide) hf
      · refine v_iconst (pc := 28) (v := (-1 : Int32)) hC dN_tensor_28 (by decide) ?_
        exact v_iret (pc := 29) hC hE dN_tensor_29 (by rw [hR]; decide) (by rw [hR]; decide) hf
theorem mN_tensor (l : Launch) (G : cG) (b : Nat) (a1 : Int32) (a2 : Int32) (a3 : Int32) (w : cW) (r : Int32) (w' : cW) (hf : fN_tensor b a1 a2 a3 w = some (r, w')) : Met l yN_tensor (wsM yN_tensor prog_1_method_2_code 5 (some .int)) rmN_tensor (mP G w [va_rf (some b), .int a1, .int a2, .int a3]) (mQ mkI G w w' r) (rmN_tensor).cells (rmN_tensor).slots (Aw w) :=
  met_of (by decide +kernel) rfl (Nat.le_of_ble_eq_true rfl) (fun C hC hR _ _ _ hts hE => tN_tensor (okC.tbl hC) hE hR a1 a2 a3 w hf)
set_option maxHeartbeats 4000000 in
set_option maxRecDepth 100000 in
theorem tN_set {C : xC} {G : cG} {w0 w' : cW} {r : Int32} {b : Nat} (hC : okC C prog_1_method_3_code 5 "ArenaNetwork" lw_gd) (hE : xE C (some .int) mkI G w0 w' r) (hR : xR C = rmN_set) (a1 : Int32) (a2 : Int32) (a3 : Int32) (w : cW) (hf : fN_set b a1 a2 a3 w = some (r, w')) : V C w 0 0 0 [(0, va_rf (some b)), (1, .int a1), (2, .int a2), (3, .int a3)] [] := by
  unfold fN_set at hf
  refine v_aload_n (pc := 0) (i := 0) (r := (some b)) hC dN_set_0 rfl 0 rfl ?_
  refine v_iload_n (pc := 1) (i := 1) (x := a1) hC dN_set_1 rfl 1 rfl ?_
  refine v_callV (pc := 2) (r := (some b)) (As := [.int a1]) (rest := []) (k' := 0) (n' := 0) (st1 := (fun yq => [va_rf yq])) hC dN_set_2 q235 q237 p3 q1 q238 ykN_tensorAt rfl rfl (fun bq rq wq hq => mN_tensorAt _ _ bq a1 _ rq wq hq) (by rw [hR]; decide) (by simp only [List.map_cons, List.map_nil, va_cat]; exact Nat.le_of_ble_eq_true rfl) (by decide) (by rw [hR]; decide) hf rfl (fun _ => rfl) (fun r1 w2 hf => ?_)
  refine v_astore (pc := 5) (i := 4) (r := r1) hC dN_set_5 (by decide) [(4, va_rf r1), (0, va_rf (some b)), (1, .int a1), (2, .int a2), (3, .int a3)] rfl ?_
  refine v_aload (pc := 7) (i := 4) (r := r1) hC dN_set_7 0 rfl ?_
  refine v_ifnull (pc := 9) (tgt := 37) hC dN_set_9 (by decide) hf (fun hf => ?_) (fun hf => ?_)
  · refine v_iconst (pc := 37) (v := (-1 : Int32)) hC dN_set_37 (by decide) ?_
    exact v_iret (pc := 38) hC hE dN_set_38 (by rw [hR]; decide) (by rw [hR]; decide) hf
  · refine v_aload (pc := 12) (i := 4) (r := r1) hC dN_set_12 0 rfl ?_
    refine v_getI (pc := 14) (r := r1) hC dN_set_14 inT rfl 1 (by decide) q130 (Or.inl rfl) hf (fun x4 hf => ?_)
    refine v_iconst (pc := 17) (v := (2 : Int32)) hC dN_set_17 (by decide) ?_
    refine v_icmp_eq (pc := 18) (tgt := 37) hC dN_set_18 (by decide) hf (fun hf => ?_) (fun hf => ?_)
    · refine v_iconst (pc := 37) (v := (-1 : Int32)) hC dN_set_37 (by decide) ?_
      exact v_iret (pc := 38) hC hE dN_set_38 (by rw [hR]; decide) (by rw [hR]; decide) hf
    · refine v_aload (pc := 21) (i := 4) (r := r1) hC dN_set_21 0 rfl ?_
      refine v_iload_n (pc := 23) (i := 2) (x := a2) hC dN_set_23 rfl 3 rfl ?_
      refine v_callV (pc := 24) (r := r1) (As := [.int a2]) (rest := []) (k' := 0) (n' := 0) (st1 := (fun yq => [.int yq])) hC dN_set_24 q253 q254 q255 q8 q256 ykT_hasCell rfl rfl (fun bq rq wq hq => mT_hasCell _ _ bq a2 _ rq wq hq) (by rw [hR]; decide) (by simp only [List.map_cons, List.map_nil, va_cat]; exact Nat.le_of_ble_eq_true rfl) (by decide) (by rw [hR]; decide) hf rfl (fun _ => rfl) (fun x5 w6 hf => ?_)
      refine v_if_eq (pc := 27) (tgt := 37) hC dN_set_27 (by decide) hf (fun hf => ?_) (fun hf => ?_)
      · refine v_iconst (pc := 37) (v := (-1 : Int32)) hC dN_set_37 (by decide) ?_
        exact v_iret (pc := 38) hC hE dN_set_38 (by rw [hR]; decide) (by rw [hR]; decide) hf
      · refine v_iload_n (pc := 30) (i := 3) (x := a3) hC dN_set_30 rfl 4 rfl ?_
        refine v_callS (pc := 31) (As := [.int a3]) (rest := []) (k' := 0) (n' := 0) (st1 := (fun yq => [.int yq])) hC dN_set_31 q113 q114 q1 q115 ykN_isCellValue rfl (fun rq wq hq => mN_isCellValue _ _ a3 _ rq wq hq) (by rw [hR]; decide) (by simp only [List.map_cons, List.map_nil, va_cat]; exact Nat.le_of_ble_eq_true rfl) (by decide) (by rw [hR]; decide) hf rfl (fun _ => rfl) (fun x8 w9 hf => ?_)
        refine v_if_ne (pc := 34) (tgt := 39) hC dN_set_34 (by decide) hf (fun hf => ?_) (fun hf => ?_)
        · refine v_aload_n (pc := 39) (i := 0) (r := (some b)) hC dN_set_39 rfl 1 rfl ?_
          refine v_getI (pc := 40) (r := (some b)) hC dN_set_40 inN rfl 4 (by decide) q88 (Or.inl rfl) hf (fun x10 hf => ?_)
          refine v_if_eq (pc := 43) (tgt := 57) hC dN_set_43 (by decide) hf (fun hf => ?_) (fun hf => ?_)
          · refine v_aload (pc := 57) (i := 4) (r := r1) hC dN_set_57 0 rfl ?_
            refine v_getQ (pc := 59) (r := r1) hC dN_set_59 inT rfl 4 (by decide) q137 (Or.inl rfl) hf (fun r11 hf => ?_)
            refine v_iload_n (pc := 62) (i := 2) (x := a2) hC dN_set_62 rfl 3 rfl ?_
            refine v_iload_n (pc := 63) (i := 3) (x := a3) hC dN_set_63 rfl 4 rfl ?_
            refine v_iast (pc := 64) hC dN_set_64 hf (fun w12 hf => ?_)
            refine v_iconst (pc := 65) (v := (0 : Int32)) hC dN_set_65 (by decide) ?_
            exact v_iret (pc := 66) hC hE dN_set_66 (by rw [hR]; decide) (by rw [hR]; decide) hf
          · refine v_aload (pc := 46) (i := 4) (r := r1) hC dN_set_46 0 rfl ?_
            refine v_getI (pc := 48) (r := r1) hC dN_set_48 inT rfl 1 (by decide) q130 (Or.inl rfl) hf (fun x13 hf => ?_)
            refine v_if_ne (pc := 51) (tgt := 57) hC dN_set_51 (by decide) hf (fun hf => ?_) (fun hf => ?_)
            · refine v_aload (pc := 57) (i := 4) (r := r1) hC dN_set_57 0 rfl ?_
              refine v_getQ (pc := 59) (r := r1) hC dN_set_59 inT rfl 4 (by decide) q137 (Or.inl rfl) hf (fun r14 hf => ?_)
              refine v_iload_n (pc := 62) (i := 2) (x := a2) hC dN_set_62 rfl 3 rfl ?_
              refine v_iload_n (pc := 63) (i := 3) (x := a3) hC dN_set_63 rfl 4 rfl ?_
              refine v_iast (pc := 64) hC dN_set_64 hf (fun w15 hf => ?_)
              refine v_iconst (pc := 65) (v := (0 : Int32)) hC dN_set_65 (by decide) ?_
              exact v_iret (pc := 66) hC hE dN_set_66 (by rw [hR]; decide) (by rw [hR]; decide) hf
            · refine v_bipush (pc := 54) (v := (-3 : Int32)) hC dN_set_54 (by decide) ?_
              exact v_iret (pc := 56) hC hE dN_set_56 (by rw [hR]; decide) (by rw [hR]; decide) hf
        · refine v_iconst (pc := 37) (v := (-1 : Int32)) hC dN_set_37 (by decide) ?_
          exact v_iret (pc := 38) hC hE dN_set_38 (by rw [hR]; decide) (by rw [hR]; decide) hf
theorem mN_set (l : Launch) (G : cG) (b : Nat) (a1 : Int32) (a2 : Int32) (a3 : Int32) (w : cW) (r : Int32) (w' : cW) (hf : fN_set b a1 a2 a3 w = some (r, w')) : Met l yN_set (wsM yN_set prog_1_method_3_code 5 (some .int)) rmN_set (mP G w [va_rf (some b), .int a1, .int a2, .int a3]) (mQ mkI G w w' r) (rmN_set).cells (rmN_set).slots (Aw w) :=
  met_of (by decide +kernel) rfl (Nat.le_of_ble_eq_true rfl) (fun C hC hR _ _ _ hts hE => tN_set (okC.tbl hC) hE hR a1 a2 a3 w hf)
set_option maxHeartbeats 4000000 in
set_option maxRecDepth 100000 in
theorem tN_scale {C : xC} {G : cG} {w0 w' : cW} {r : Int32} {b : Nat} (hC : okC C prog_1_method_4_code 4 "ArenaNetwork" lw_gd) (hE : xE C (some .int) mkI G w0 w' r) (hR : xR C = rmN_scale) (a1 : Int32) (a2 : Int32) (a3 : Int32) (w : cW) (hf : fN_scale b a1 a2 a3 w = some (r, w')) : V C w 0 0 0 [(0, va_rf (some b)), (1, .int a1), (2, .int a2), (3, .int a3)] [] := by
  unfold fN_scale at hf
  refine v_iload_n (pc := 0) (i := 1) (x := a1) hC dN_scale_0 rfl 1 rfl ?_
  refine v_callS (pc := 1) (As := [.int a1]) (rest := []) (k' := 0) (n' := 0) (st1 := (fun yq => [.int yq])) hC dN_scale_1 q261 q262 q1 q263 ykN_isScale rfl (fun rq wq hq => mN_isScale _ _ a1 _ rq wq hq) (by rw [hR]; decide) (by simp only [List.map_cons, List.map_nil, va_cat]; exact Nat.le_of_ble_eq_true rfl) (by decide) (by rw [hR]; decide) hf rfl (fun _ => rfl) (fun x1 w2 hf => ?_)
  refine v_if_eq (pc := 4) (tgt := 21) hC dN_scale_4 (by decide) hf (fun hf => ?_) (fun hf => ?_)
  · refine v_iconst (pc := 21) (v := (-1 : Int32)) hC dN_scale_21 (by decide) ?_
    exact v_iret (pc := 22) hC hE dN_scale_22 (by rw [hR]; decide) (by rw [hR]; decide) hf
  · refine v_iload_n (pc := 7) (i := 2) (x := a2) hC dN_scale_7 rfl 2 rfl ?_
    refine v_if_lt (pc := 8) (tgt := 21) hC dN_scale_8 (by decide) hf (fun hf => ?_) (fun hf => ?_)
    · refine v_iconst (pc := 21) (v := (-1 : Int32)) hC dN_scale_21 (by decide) ?_
      exact v_iret (pc := 22) hC hE dN_scale_22 (by rw [hR]; decide) (by rw [hR]; decide) hf
    · refine v_iload_n (pc := 11) (i := 3) (x := a3) hC dN_scale_11 rfl 3 rfl ?_
      refine v_iconst (pc := 12) (v := (0 : Int32)) hC dN_scale_12 (by decide) ?_
      refine v_bipush (pc := 13) (v := (30 : Int32)) hC dN_scale_13 (by decide) ?_
      refine v_callS (pc := 15) (As := [.int a3, .int (0 : Int32), .int (30 : Int32)]) (rest := []) (k' := 0) (n' := 0) (st1 := (fun yq => [.int yq])) hC dN_scale_15 q107 q108 q1 q109 ykN_isWithin rfl (fun rq wq hq => mN_isWithin _ _ a3 (0 : Int32) (30 : Int32) _ rq wq hq) (by rw [hR]; decide) (by simp only [List.map_cons, List.map_nil, va_cat]; exact Nat.le_of_ble_eq_true rfl) (by decide) (by rw [hR]; decide) hf rfl (fun _ => rfl) (fun x3 w4 hf => ?_)
      refine v_if_ne (pc := 18) (tgt := 23) hC dN_scale_18 (by decide) hf (fun hf => ?_) (fun hf => ?_)
      · refine v_aload_n (pc := 23) (i := 0) (r := (some b)) hC dN_scale_23 rfl 0 rfl ?_
        refine v_getI (pc := 24) (r := (some b)) hC dN_scale_24 inN rfl 4 (by decide) q88 (Or.inl rfl) hf (fun x5 hf => ?_)
        refine v_if_eq (pc := 27) (tgt := 33) hC dN_scale_27 (by decide) hf (fun hf => ?_) (fun hf => ?_)
        · refine v_aload_n (pc := 33) (i := 0) (r := (some b)) hC dN_scale_33 rfl 0 rfl ?_
          refine v_getQ (pc := 34) (r := (some b)) hC dN_scale_34 inN rfl 2 (by decide) q86 (Or.inl rfl) hf (fun r6 hf => ?_)
          refine v_iload_n (pc := 37) (i := 1) (x := a1) hC dN_scale_37 rfl 1 rfl ?_
          refine v_aald (pc := 38) hC dN_scale_38 hf (fun r7 hf => ?_)
          refine v_iload_n (pc := 39) (i := 2) (x := a2) hC dN_scale_39 rfl 2 rfl ?_
          refine v_putI (pc := 40) (r := r7) hC dN_scale_40 inS rfl tyS tkS nmS 0 (by decide) q76 (Or.inl rfl) rfl (tkS 0 (by decide)) hf (fun w8 hf => ?_)
          refine v_aload_n (pc := 43) (i := 0) (r := (some b)) hC dN_scale_43 rfl 0 rfl ?_
          refine v_getQ (pc := 44) (r := (some b)) hC dN_scale_44 inN rfl 2 (by decide) q86 (Or.inl rfl) hf (fun r9 hf => ?_)
          refine v_iload_n (pc := 47) (i := 1) (x := a1) hC dN_scale_47 rfl 1 rfl ?_
          refine v_aald (pc := 48) hC dN_scale_48 hf (fun r10 hf => ?_)
          refine v_iload_n (pc := 49) (i := 3) (x := a3) hC dN_scale_49 rfl 3 rfl ?_
          refine v_putI (pc := 50) (r := r10) hC dN_scale_50 inS rfl tyS tkS nmS 1 (by decide) q78 (Or.inl rfl) rfl (tkS 1 (by decide)) hf (fun w11 hf => ?_)
          refine v_iconst (pc := 53) (v := (0 : Int32)) hC dN_scale_53 (by decide) ?_
          exact v_iret (pc := 54) hC hE dN_scale_54 (by rw [hR]; decide) (by rw [hR]; decide) hf
        · refine v_bipush (pc := 30) (v := (-3 : Int32)) hC dN_scale_30 (by decide) ?_
          exact v_iret (pc := 32) hC hE dN_scale_32 (by rw [hR]; decide) (by rw [hR]; decide) hf
      · refine v_iconst (pc := 21) (v := (-1 : Int32)) hC dN_scale_21 (by decide) ?_
        exact v_iret (pc := 22) hC hE dN_scale_22 (by rw [hR]; decide) (by rw [hR]; decide) hf
theorem mN_scale (l : Launch) (G : cG) (b : Nat) (a1 : Int32) (a2 : Int32) (a3 : Int32) (w : cW) (r : Int32) (w' : cW) (hf : fN_scale b a1 a2 a3 w = some (r, w')) : Met l yN_scale (wsM yN_scale prog_1_method_4_code 4 (some .int)) rmN_scale (mP G w [va_rf (some b), .int a1, .int a2, .int a3]) (mQ mkI G w w' r) (rmN_scale).cells (rmN_scale).slots (Aw w) :=
  met_of (by decide +kernel) rfl (Nat.le_of_ble_eq_true rfl) (fun C hC hR _ _ _ hts hE => tN_scale (okC.tbl hC) hE hR a1 a2 a3 w hf)
set_option maxHeartbeats 4000000 in
set_option maxRecDepth 100000 in
theorem tN_operator {C : xC} {G : cG} {w0 w' : cW} {r : Int32} {b : Nat} (hC : okC C prog_1_method_5_code 9 "ArenaNetwork" lw_gd) (hE : xE C (some .int) mkI G w0 w' r) (hR : xR C = rmN_operator) (a1 : Int32) (a2 : Int32) (a3 : Int32) (a4 : Int32) (a5 : Int32) (w : cW) (hf : fN_operator b a1 a2 a3 a4 a5 w = some (r, w')) : V C w 0 0 0 [(0, va_rf (some b)), (1, .int a1), (2, .int a2), (3, .int a3), (4, .int a4), (5, .int a5)] [] := by
  unfold fN_operator at hf
  refine v_aload_n (pc := 0) (i := 0) (r := (some b)) hC dN_operator_0 rfl 0 rfl ?_
  refine v_iload_n (pc := 1) (i := 2) (x := a2) hC dN_operator_1 rfl 2 rfl ?_
  refine v_callV (pc := 2) (r := (some b)) (As := [.int a2]) (rest := []) (k' := 0) (n' := 0) (st1 := (fun yq => [va_rf yq])) hC dN_operator_2 q235 q237 p3 q1 q238 ykN_tensorAt rfl rfl (fun bq rq wq hq => mN_tensorAt _ _ bq a2 _ rq wq hq) (by rw [hR]; decide) (by simp only [List.map_cons, List.map_nil, va_cat]; exact Nat.le_of_ble_eq_true rfl) (by decide) (by rw [hR]; decide) hf rfl (fun _ => rfl) (fun r1 w2 hf => ?_)
  refine v_astore (pc := 5) (i := 6) (r := r1) hC dN_operator_5 (by decide) [(6, va_rf r1), (0, va_rf (some b)), (1, .int a1), (2, .int a2), (3, .int a3), (4, .int a4), (5, .int a5)] rfl ?_
  refine v_aload_n (pc := 7) (i := 0) (r := (some b)) hC dN_operator_7 rfl 1 rfl ?_
  refine v_iload_n (pc := 8) (i := 3) (x := a3) hC dN_operator_8 rfl 4 rfl ?_
  refine v_callV (pc := 9) (r := (some b)) (As := [.int a3]) (rest := []) (k' := 0) (n' := 0) (st1 := (fun yq => [va_rf yq])) hC dN_operator_9 q235 q237 p3 q1 q238 ykN_tensorAt rfl rfl (fun bq rq wq hq => mN_tensorAt _ _ bq a3 _ rq wq hq) (by rw [hR]; decide) (by simp only [List.map_cons, List.map_nil, va_cat]; exact Nat.le_of_ble_eq_true rfl) (by decide) (by rw [hR]; decide) hf rfl (fun _ => rfl) (fun r4 w5 hf => ?_)
  refine v_astore (pc := 12) (i := 7) (r := r4) hC dN_operator_12 (by decide) [(7, va_rf r4), (6, va_rf r1), (0, va_rf (some b)), (1, .int a1), (2, .int a2), (3, .int a3), (4, .int a4), (5, .int a5)] (by cases r1 <;> rfl) ?_
  refine v_aload_n (pc := 14) (i := 0) (r := (some b)) hC dN_operator_14 rfl 2 rfl ?_
  refine v_iload (pc := 15) (i := 4) (x := a4) hC dN_operator_15 6 rfl ?_
  refine v_callV (pc := 17) (r := (some b)) (As := [.int a4]) (rest := []) (k' := 0) (n' := 0) (st1 := (fun yq => [va_rf yq])) hC dN_operator_17 q235 q237 p3 q1 q238 ykN_tensorAt rfl rfl (fun bq rq wq hq => mN_tensorAt _ _ bq a4 _ rq wq hq) (by rw [hR]; decide) (by simp only [List.map_cons, List.map_nil, va_cat]; exact Nat.le_of_ble_eq_true rfl) (by decide) (by rw [hR]; decide) hf rfl (fun _ => rfl) (fun r7 w8 hf => ?_)
  refine v_astore (pc := 20) (i := 8) (r := r7) hC dN_operator_20 (by decide) [(8, va_rf r7), (7, va_rf r4), (6, va_rf r1), (0, va_rf (some b)), (1, .int a1), (2, .int a2), (3, .int a3), (4, .int a4), (5, .int a5)] (by cases r4 <;> rfl) ?_
  refine v_iload_n (pc := 22) (i := 1) (x := a1) hC dN_operator_22 rfl 4 rfl ?_
  refine v_iconst (pc := 23) (v := (0 : Int32)) hC dN_operator_23 (by decide) ?_
  refine v_bipush (pc := 24) (v := (7 : Int32)) hC dN_operator_24 (by decide) ?_
  refine v_callS (pc := 26) (As := [.int a1, .int (0 : Int32), .int (7 : Int32)]) (rest := []) (k' := 0) (n' := 0) (st1 := (fun yq => [.int yq])) hC dN_operator_26 q107 q108 q1 q109 ykN_isWithin rfl (fun rq wq hq => mN_isWithin _ _ a1 (0 : Int32) (7 : Int32) _ rq wq hq) (by rw [hR]; decide) (by simp only [List.map_cons, List.map_nil, va_cat]; exact Nat.le_of_ble_eq_true rfl) (by decide) (by rw [hR]; decide) hf rfl (fun _ => rfl) (fun x10 w11 hf => ?_)
  refine v_if_eq (pc := 29) (tgt := 55) hC dN_operator_29 (by decide) hf (fun hf => ?_) (fun hf => ?_)
  · refine v_iconst (pc := 55) (v := (-1 : Int32)) hC dN_operator_55 (by decide) ?_
    exact v_iret (pc := 56) hC hE dN_operator_56 (by rw [hR]; decide) (by rw [hR]; decide) hf
  · refine v_aload (pc := 32) (i := 6) (r := r1) hC dN_operator_32 2 rfl ?_
    refine v_ifnull (pc := 34) (tgt := 55) hC dN_operator_34 (by decide) hf (fun hf => ?_) (fun hf => ?_)
    · refine v_iconst (pc := 55) (v := (-1 : Int32)) hC dN_operator_55 (by decide) ?_
      exact v_iret (pc := 56) hC hE dN_operator_56 (by rw [hR]; decide) (by rw [hR]; decide) hf
    · refine v_aload (pc := 37) (i := 7) (r := r4) hC dN_operator_37 1 rfl ?_
      refine v_ifnull (pc := 39) (tgt := 55) hC dN_operator_39 (by decide) hf (fun hf => ?_) (fun hf => ?_)
      · refine v_iconst (pc := 55) (v := (-1 : Int32)) hC dN_operator_55 (by decide) ?_
        exact v_iret (pc := 56) hC hE dN_operator_56 (by rw [hR]; decide) (by rw [hR]; decide) hf
      · refine v_aload (pc := 42) (i := 8) (r := r7) hC dN_operator_42 0 rfl ?_
        refine v_ifnull (pc := 44) (tgt := 55) hC dN_operator_44 (by decide) hf (fun hf => ?_) (fun hf => ?_)
        · refine v_iconst (pc := 55) (v := (-1 : Int32)) hC dN_operator_55 (by decide) ?_
          exact v_iret (pc := 56) hC hE dN_operator_56 (by rw [hR]; decide) (by rw [hR]; decide) hf
        · refine v_iload (pc := 47) (i := 5) (x := a5) hC dN_operator_47 8 rfl ?_
          refine v_callS (pc := 49) (As := [.int a5]) (rest := []) (k' := 0) (n' := 0) (st1 := (fun yq => [.int yq])) hC dN_operator_49 q261 q262 q1 q263 ykN_isScale rfl (fun rq wq hq => mN_isScale _ _ a5 _ rq wq hq) (by rw [hR]; decide) (by simp only [List.map_cons, List.map_nil, va_cat]; exact Nat.le_of_ble_eq_true rfl) (by decide) (by rw [hR]; decide) hf rfl (fun _ => rfl) (fun x12 w13 hf => ?_)
          refine v_if_ne (pc := 52) (tgt := 57) hC dN_operator_52 (by decide) hf (fun hf => ?_) (fun hf => ?_)
          · refine v_aload_n (pc := 57) (i := 0) (r := (some b)) hC dN_operator_57 rfl 3 rfl ?_
            refine v_getI (pc := 58) (r := (some b)) hC dN_operator_58 inN rfl 4 (by decide) q88 (Or.inl rfl) hf (fun x14 hf => ?_)
            refine v_if_eq (pc := 61) (tgt := 67) hC dN_operator_61 (by decide) hf (fun hf => ?_) (fun hf => ?_)
            · refine v_aload_n (pc := 67) (i := 0) (r := (some b)) hC dN_operator_67 rfl 3 rfl ?_
              refine v_getQ (pc := 68) (r := (some b)) hC dN_operator_68 inN rfl 1 (by decide) q85 (Or.inl rfl) hf (fun r15 hf => ?_)
              refine v_callV (pc := 71) (r := r15) (As := []) (rest := []) (k' := 0) (n' := 0) (st1 := (fun yq => [.int yq])) hC dN_operator_71 q116 q117 q118 q4 q119 ykL_size rfl rfl (fun bq rq wq hq => mL_size _ _ bq  _ rq wq hq) (by rw [hR]; decide) (by simp only [List.map_cons, List.map_nil, va_cat]; exact Nat.le_of_ble_eq_true rfl) (by decide) (by rw [hR]; decide) hf rfl (fun _ => rfl) (fun x16 w17 hf => ?_)
              refine v_bipush (pc := 74) (v := (14 : Int32)) hC dN_operator_74 (by decide) ?_
              refine v_icmp_lt (pc := 76) (tgt := 82) hC dN_operator_76 (by decide) hf (fun hf => ?_) (fun hf => ?_)
              · refine v_aload_n (pc := 82) (i := 0) (r := (some b)) hC dN_operator_82 rfl 3 rfl ?_
                refine v_getQ (pc := 83) (r := (some b)) hC dN_operator_83 inN rfl 1 (by decide) q85 (Or.inl rfl) hf (fun r19 hf => ?_)
                refine v_new (pc := 86) (fs := dfO) hC dN_operator_86 inO rfl tyO tkO q268 q269 q15 doO (by rw [hR]; decide) (by rw [hR]; decide) hf (fun w20 hf => ?_)
                refine V.widen (k' := 1) (n' := 33) (by omega) (by omega) ?_
                refine v_dupR (pc := 89) hC dN_operator_89 ?_
                refine v_iload_n (pc := 90) (i := 1) (x := a1) hC dN_operator_90 rfl 4 rfl ?_
                refine v_aload (pc := 91) (i := 6) (r := r1) hC dN_operator_91 2 rfl ?_
                refine v_aload (pc := 93) (i := 7) (r := r4) hC dN_operator_93 1 rfl ?_
                refine v_aload (pc := 95) (i := 8) (r := r7) hC dN_operator_95 0 rfl ?_
                refine v_iload (pc := 97) (i := 5) (x := a5) hC dN_operator_97 8 rfl ?_
                obtain ⟨b21, eb21, hf1⟩ := ob hf
                clear hf
                cases eb21
                have hf := hf1
                clear hf1
                obtain ⟨b22, eb22, hf1⟩ := ob hf
                clear hf
                cases eb22
                have hf := hf1
                clear hf1
                obtain ⟨b23, eb23, hf1⟩ := ob hf
                clear hf
                cases eb23
                have hf := hf1
                clear hf1
                refine v_callI (pc := 99) (b := w17.2.1) (As := [.int a1, va_rf (some b21), va_rf (some b22), va_rf (some b23), .int a5]) (rest := [va_rf (some w17.2.1), va_rf r19]) (k' := 1) (n' := 33) hC dN_operator_99 q270 q271 q15 q272 rfl ykO_init rfl (fun rq wq hq => mO_init _ _ w17.2.1 a1 b21 b22 b23 a5 _ rq wq hq) (by rw [hR]; decide) (by simp only [List.map_cons, List.map_nil, va_cat]; exact Nat.le_of_ble_eq_true rfl) (by decide) (by rw [hR]; decide) hf rfl (fun _ w25 hf => ?_)
                refine v_callV (pc := 102) (r := r19) (As := [va_rf (some w17.2.1)]) (rest := []) (k' := 2) (n' := 66) (st1 := (fun yq => [.int yq])) hC dN_operator_102 q177 q178 q179 q4 q180 ykL_add2 rfl rfl (fun bq rq wq hq => mL_add2 _ _ bq w17.2.1 _ rq wq hq) (by rw [hR]; decide) (by simp only [List.map_cons, List.map_nil, va_cat]; exact Nat.le_of_ble_eq_true rfl) (by decide) (by rw [hR]; decide) hf rfl (fun _ => rfl) (fun x26 w27 hf => ?_)
                refine v_pop (pc := 105) hC dN_operator_105 rfl ?_
                refine v_aload_n (pc := 106) (i := 0) (r := (some b)) hC dN_operator_106 rfl 3 rfl ?_
                refine v_getQ (pc := 107) (r := (some b)) hC dN_operator_107 inN rfl 1 (by decide) q85 (Or.inl rfl) hf (fun r29 hf => ?_)
                refine v_callV (pc := 110) (r := r29) (As := []) (rest := []) (k' := 2) (n' := 66) (st1 := (fun yq => [.int yq])) hC dN_operator_110 q116 q117 q118 q4 q119 ykL_size rfl rfl (fun bq rq wq hq => mL_size _ _ bq  _ rq wq hq) (by rw [hR]; decide) (by simp only [List.map_cons, List.map_nil, va_cat]; exact Nat.le_of_ble_eq_true rfl) (by decide) (by rw [hR]; decide) hf rfl (fun _ => rfl) (fun x30 w31 hf => ?_)
                refine v_iconst (pc := 113) (v := (1 : Int32)) hC dN_operator_113 (by decide) ?_
                refine v_isub (pc := 114) hC dN_operator_114 ?_
                exact v_iret (pc := 115) hC hE dN_operator_115 (by rw [hR]; decide) (by rw [hR]; decide) hf
              · refine v_bipush (pc := 79) (v := (-2 : Int32)) hC dN_operator_79 (by decide) ?_
                exact v_iret (pc := 81) hC hE dN_operator_81 (by rw [hR]; decide) (by rw [hR]; decide) hf
            · refine v_bipush (pc := 64) (v := (-3 : Int32)) hC dN_operator_64 (by decide) ?_
              exact v_iret (pc := 66) hC hE dN_operator_66 (by rw [hR]; decide) (by rw [hR]; decide) hf
          · refine v_iconst (pc := 55) (v := (-1 : Int32)) hC dN_operator_55 (by decide) ?_
            exact v_iret (pc := 56) hC hE dN_operator_56 (by rw [hR]; decide) (by rw [hR]; decide) hf
theorem mN_operator (l : Launch) (G : cG) (b : Nat) (a1 : Int32) (a2 : Int32) (a3 : Int32) (a4 : Int32) (a5 : Int32) (w : cW) (r : Int32) (w' : cW) (hf : fN_operator b a1 a2 a3 a4 a5 w = some (r, w')) : Met l yN_operator (wsM yN_operator prog_1_method_5_code 9 (some .int)) rmN_operator (mP G w [va_rf (some b), .int a1, .int a2, .int a3, .int a4, .int a5]) (mQ mkI G w w' r) (rmN_operator).cells (rmN_operator).slots (Aw w) :=
  met_of (by decide +kernel) rfl (Nat.le_of_ble_eq_true rfl) (fun C hC hR _ _ _ hts hE => tN_operator (okC.tbl hC) hE hR a1 a2 a3 a4 a5 w hf)
set_option maxHeartbeats 4000000 in
set_option maxRecDepth 100000 in
theorem tN_keep {C : xC} {G : cG} {w0 w' : cW} {r : Int32} {b : Nat} (hC : okC C prog_1_method_6_code 4 "ArenaNetwork" lw_gd) (hE : xE C (some .int) mkI G w0 w' r) (hR : xR C = rmN_keep) (a1 : Int32) (a2 : Int32) (w : cW) (hf : fN_keep b a1 a2 w = some (r, w')) : V C w 0 0 0 [(0, va_rf (some b)), (1, .int a1), (2, .int a2)] [] := by
  unfold fN_keep at hf
  refine v_aload_n (pc := 0) (i := 0) (r := (some b)) hC dN_keep_0 rfl 0 rfl ?_
  refine v_iload_n (pc := 1) (i := 1) (x := a1) hC dN_keep_1 rfl 1 rfl ?_
  refine v_callV (pc := 2) (r := (some b)) (As := [.int a1]) (rest := []) (k' := 0) (n' := 0) (st1 := (fun yq => [va_rf yq])) hC dN_keep_2 q235 q237 p3 q1 q238 ykN_tensorAt rfl rfl (fun bq rq wq hq => mN_tensorAt _ _ bq a1 _ rq wq hq) (by rw [hR]; decide) (by simp only [List.map_cons, List.map_nil, va_cat]; exact Nat.le_of_ble_eq_true rfl) (by decide) (by rw [hR]; decide) hf rfl (fun _ => rfl) (fun r1 w2 hf => ?_)
  refine v_astore_n (pc := 5) (i := 3) (r := r1) hC dN_keep_5 rfl (by decide) [(3, va_rf r1), (0, va_rf (some b)), (1, .int a1), (2, .int a2)] rfl ?_
  refine v_aload_n (pc := 6) (i := 3) (r := r1) hC dN_keep_6 rfl 0 rfl ?_
  refine v_ifnull (pc := 7) (tgt := 17) hC dN_keep_7 (by decide) hf (fun hf => ?_) (fun hf => ?_)
  · refine v_iconst (pc := 17) (v := (-1 : Int32)) hC dN_keep_17 (by decide) ?_
    exact v_iret (pc := 18) hC hE dN_keep_18 (by rw [hR]; decide) (by rw [hR]; decide) hf
  · refine v_aload_n (pc := 10) (i := 3) (r := r1) hC dN_keep_10 rfl 0 rfl ?_
    refine v_getI (pc := 11) (r := r1) hC dN_keep_11 inT rfl 1 (by decide) q130 (Or.inl rfl) hf (fun x4 hf => ?_)
    refine v_if_ne (pc := 14) (tgt := 19) hC dN_keep_14 (by decide) hf (fun hf => ?_) (fun hf => ?_)
    · refine v_aload_n (pc := 19) (i := 0) (r := (some b)) hC dN_keep_19 rfl 1 rfl ?_
      refine v_getI (pc := 20) (r := (some b)) hC dN_keep_20 inN rfl 4 (by decide) q88 (Or.inl rfl) hf (fun x5 hf => ?_)
      refine v_if_eq (pc := 23) (tgt := 29) hC dN_keep_23 (by decide) hf (fun hf => ?_) (fun hf => ?_)
      · refine v_aload_n (pc := 29) (i := 3) (r := r1) hC dN_keep_29 rfl 0 rfl ?_
        refine v_iload_n (pc := 30) (i := 2) (x := a2) hC dN_keep_30 rfl 3 rfl ?_
        refine v_putZ (pc := 31) (r := r1) hC dN_keep_31 inT rfl tyT tkT nmT 6 (by decide) q142 (Or.inl rfl) rfl (tkT 6 (by decide)) hf (fun w6 hf => ?_)
        refine v_iconst (pc := 34) (v := (0 : Int32)) hC dN_keep_34 (by decide) ?_
        exact v_iret (pc := 35) hC hE dN_keep_35 (by rw [hR]; decide) (by rw [hR]; decide) hf
      · refine v_bipush (pc := 26) (v := (-3 : Int32)) hC dN_keep_26 (by decide) ?_
        exact v_iret (pc := 28) hC hE dN_keep_28 (by rw [hR]; decide) (by rw [hR]; decide) hf
    · refine v_iconst (pc := 17) (v := (-1 : Int32)) hC dN_keep_17 (by decide) ?_
      exact v_iret (pc := 18) hC hE dN_keep_18 (by rw [hR]; decide) (by rw [hR]; decide) hf
theorem mN_keep (l : Launch) (G : cG) (b : Nat) (a1 : Int32) (a2 : Int32) (w : cW) (r : Int32) (w' : cW) (hf : fN_keep b a1 a2 w = some (r, w')) : Met l yN_keep (wsM yN_keep prog_1_method_6_code 4 (some .int)) rmN_keep (mP G w [va_rf (some b), .int a1, .int a2]) (mQ mkI G w w' r) (rmN_keep).cells (rmN_keep).slots (Aw w) :=
  met_of (by decide +kernel) rfl (Nat.le_of_ble_eq_true rfl) (fun C hC hR _ _ _ hts hE => tN_keep (okC.tbl hC) hE hR a1 a2 w hf)
set_option maxHeartbeats 4000000 in
set_option maxRecDepth 100000 in
theorem tN_prepare {C : xC} {G : cG} {w0 w' : cW} {r : Int32} {b : Nat} (hC : okC C prog_1_method_7_code 2 "ArenaNetwork" lw_gd) (hE : xE C (some .int) mkI G w0 w' r) (hR : xR C = rmN_prepare)  (w : cW) (hf : fN_prepare b w = some (r, w')) : V C w 0 0 0 [(0, va_rf (some b))] [] := by
  unfold fN_prepare at hf
  refine v_aload_n (pc := 0) (i := 0) (r := (some b)) hC dN_prepare_0 rfl 0 rfl ?_
  refine v_getI (pc := 1) (r := (some b)) hC dN_prepare_1 inN rfl 4 (by decide) q88 (Or.inl rfl) hf (fun x1 hf => ?_)
  refine v_if_eq (pc := 4) (tgt := 10) hC dN_prepare_4 (by decide) hf (fun hf => ?_) (fun hf => ?_)
  · refine v_aload_n (pc := 10) (i := 0) (r := (some b)) hC dN_prepare_10 rfl 0 rfl ?_
    refine v_callV (pc := 11) (r := (some b)) (As := []) (rest := []) (k' := 0) (n' := 0) (st1 := (fun yq => [.int yq])) hC dN_prepare_11 q302 q304 p4 q1 q305 ykN_firstFault rfl rfl (fun bq rq wq hq => mN_firstFault _ _ bq  _ rq wq hq) (by rw [hR]; decide) (by simp only [List.map_cons, List.map_nil, va_cat]; exact Nat.le_of_ble_eq_true rfl) (by decide) (by rw [hR]; decide) hf rfl (fun _ => rfl) (fun x2 w3 hf => ?_)
    refine v_istore_n (pc := 14) (i := 1) (x := x2) hC dN_prepare_14 rfl (by decide) [(1, .int x2), (0, va_rf (some b))] rfl ?_
    refine v_iload_n (pc := 15) (i := 1) (x := x2) hC dN_prepare_15 rfl 0 rfl ?_
    refine v_if_eq (pc := 16) (tgt := 21) hC dN_prepare_16 (by decide) hf (fun hf => ?_) (fun hf => ?_)
    · refine v_aload_n (pc := 21) (i := 0) (r := (some b)) hC dN_prepare_21 rfl 1 rfl ?_
      refine v_callV (pc := 22) (r := (some b)) (As := []) (rest := []) (k' := 0) (n' := 0) (st1 := (fun yq => [])) hC dN_prepare_22 q319 q321 p7 q1 q322 ykN_giveLives rfl rfl (fun bq rq wq hq => mN_giveLives _ _ bq  _ rq wq hq) (by rw [hR]; decide) (by simp only [List.map_cons, List.map_nil, va_cat]; exact Nat.le_of_ble_eq_true rfl) (by decide) (by rw [hR]; decide) hf rfl (fun _ => rfl) (fun u5 w6 hf => ?_)
      refine v_aload_n (pc := 25) (i := 0) (r := (some b)) hC dN_prepare_25 rfl 1 rfl ?_
      refine v_getQ (pc := 26) (r := (some b)) hC dN_prepare_26 inN rfl 3 (by decide) q87 (Or.inl rfl) hf (fun r8 hf => ?_)
      refine v_aload_n (pc := 29) (i := 0) (r := (some b)) hC dN_prepare_29 rfl 1 rfl ?_
      refine v_getQ (pc := 30) (r := (some b)) hC dN_prepare_30 inN rfl 0 (by decide) q84 (Or.inl rfl) hf (fun r9 hf => ?_)
      obtain ⟨b10, eb10, hf1⟩ := ob hf
      clear hf
      cases eb10
      have hf := hf1
      clear hf1
      refine v_callV (pc := 33) (r := r8) (As := [va_rf (some b10)]) (rest := []) (k' := 20) (n' := 660) (st1 := (fun yq => [])) hC dN_prepare_33 q332 q333 q334 q5 q335 ykA_layOut rfl rfl (fun bq rq wq hq => mA_layOut _ _ bq b10 _ rq wq hq) (by rw [hR]; decide) (by simp only [List.map_cons, List.map_nil, va_cat]; exact Nat.le_of_ble_eq_true rfl) (by decide) (by rw [hR]; decide) hf rfl (fun _ => rfl) (fun u11 w12 hf => ?_)
      refine v_aload_n (pc := 36) (i := 0) (r := (some b)) hC dN_prepare_36 rfl 1 rfl ?_
      refine v_iconst (pc := 37) (v := (1 : Int32)) hC dN_prepare_37 (by decide) ?_
      refine v_putZ (pc := 38) (r := (some b)) hC dN_prepare_38 inN rfl tyN tkN nmN 4 (by decide) q88 (Or.inl rfl) rfl (tkN 4 (by decide)) hf (fun w14 hf => ?_)
      refine v_aload_n (pc := 41) (i := 0) (r := (some b)) hC dN_prepare_41 rfl 1 rfl ?_
      refine v_getQ (pc := 42) (r := (some b)) hC dN_prepare_42 inN rfl 3 (by decide) q87 (Or.inl rfl) hf (fun r15 hf => ?_)
      refine v_getI (pc := 45) (r := r15) hC dN_prepare_45 inA rfl 1 (by decide) q63 (Or.inl rfl) hf (fun x16 hf => ?_)
      exact v_iret (pc := 48) hC hE dN_prepare_48 (by rw [hR]; decide) (by rw [hR]; decide) hf
    · refine v_iload_n (pc := 19) (i := 1) (x := x2) hC dN_prepare_19 rfl 0 rfl ?_
      exact v_iret (pc := 20) hC hE dN_prepare_20 (by rw [hR]; decide) (by rw [hR]; decide) hf
  · refine v_bipush (pc := 7) (v := (-3 : Int32)) hC dN_prepare_7 (by decide) ?_
    exact v_iret (pc := 9) hC hE dN_prepare_9 (by rw [hR]; decide) (by rw [hR]; decide) hf
theorem mN_prepare (l : Launch) (G : cG) (b : Nat)  (w : cW) (r : Int32) (w' : cW) (hf : fN_prepare b w = some (r, w')) : Met l yN_prepare (wsM yN_prepare prog_1_method_7_code 2 (some .int)) rmN_prepare (mP G w [va_rf (some b)]) (mQ mkI G w w' r) (rmN_prepare).cells (rmN_prepare).slots (Aw w) :=
  met_of (by decide +kernel) rfl (Nat.le_of_ble_eq_true rfl) (fun C hC hR _ _ _ hts hE => tN_prepare (okC.tbl hC) hE hR  w hf)
set_option maxHeartbeats 4000000 in
set_option maxRecDepth 100000 in
theorem tN_reopen {C : xC} {G : cG} {w0 w' : cW} {r : Int32} {b : Nat} (hC : okC C prog_1_method_8_code 1 "ArenaNetwork" lw_gd) (hE : xE C (some .int) mkI G w0 w' r) (hR : xR C = rmN_reopen)  (w : cW) (hf : fN_reopen b w = some (r, w')) : V C w 0 0 0 [(0, va_rf (some b))] [] := by
  unfold fN_reopen at hf
  refine v_aload_n (pc := 0) (i := 0) (r := (some b)) hC dN_reopen_0 rfl 0 rfl ?_
  refine v_getI (pc := 1) (r := (some b)) hC dN_reopen_1 inN rfl 4 (by decide) q88 (Or.inl rfl) hf (fun x1 hf => ?_)
  refine v_if_ne (pc := 4) (tgt := 10) hC dN_reopen_4 (by decide) hf (fun hf => ?_) (fun hf => ?_)
  · refine v_aload_n (pc := 10) (i := 0) (r := (some b)) hC dN_reopen_10 rfl 0 rfl ?_
    refine v_iconst (pc := 11) (v := (0 : Int32)) hC dN_reopen_11 (by decide) ?_
    refine v_putZ (pc := 12) (r := (some b)) hC dN_reopen_12 inN rfl tyN tkN nmN 4 (by decide) q88 (Or.inl rfl) rfl (tkN 4 (by decide)) hf (fun w2 hf => ?_)
    refine v_aload_n (pc := 15) (i := 0) (r := (some b)) hC dN_reopen_15 rfl 0 rfl ?_
    refine v_iconst (pc := 16) (v := (-1 : Int32)) hC dN_reopen_16 (by decide) ?_
    refine v_putI (pc := 17) (r := (some b)) hC dN_reopen_17 inN rfl tyN tkN nmN 5 (by decide) q89 (Or.inl rfl) rfl (tkN 5 (by decide)) hf (fun w3 hf => ?_)
    refine v_iconst (pc := 20) (v := (0 : Int32)) hC dN_reopen_20 (by decide) ?_
    exact v_iret (pc := 21) hC hE dN_reopen_21 (by rw [hR]; decide) (by rw [hR]; decide) hf
  · refine v_bipush (pc := 7) (v := (-3 : Int32)) hC dN_reopen_7 (by decide) ?_
    exact v_iret (pc := 9) hC hE dN_reopen_9 (by rw [hR]; decide) (by rw [hR]; decide) hf
theorem mN_reopen (l : Launch) (G : cG) (b : Nat)  (w : cW) (r : Int32) (w' : cW) (hf : fN_reopen b w = some (r, w')) : Met l yN_reopen (wsM yN_reopen prog_1_method_8_code 1 (some .int)) rmN_reopen (mP G w [va_rf (some b)]) (mQ mkI G w w' r) (rmN_reopen).cells (rmN_reopen).slots (Aw w) :=
  met_of (by decide +kernel) rfl (Nat.le_of_ble_eq_true rfl) (fun C hC hR _ _ _ hts hE => tN_reopen (okC.tbl hC) hE hR  w hf)
set_option maxHeartbeats 4000000 in
set_option maxRecDepth 100000 in
theorem tN_start_b43 {C : xC} {G : cG} {w0 w' : cW} {r : Int32} {b : Nat} (hC : okC C prog_1_method_9_code 2 "ArenaNetwork" lw_gd) (hE : xE C (some .int) mkI G w0 w' r) (hR : xR C = rmN_start)   (w : cW) (hf : fN_start_b43 b w = some (r, w')) : V C w 0 0 43 [(0, va_rf (some b))] [] := by
  unfold fN_start_b43 at hf
  refine v_aload_n (pc := 43) (i := 0) (r := (some b)) hC dN_start_43 rfl 0 rfl ?_
  refine v_iconst (pc := 44) (v := (0 : Int32)) hC dN_start_44 (by decide) ?_
  refine v_putI (pc := 45) (r := (some b)) hC dN_start_45 inN rfl tyN tkN nmN 5 (by decide) q89 (Or.inl rfl) rfl (tkN 5 (by decide)) hf (fun w1 hf => ?_)
  refine v_aload_n (pc := 48) (i := 0) (r := (some b)) hC dN_start_48 rfl 0 rfl ?_
  refine v_getQ (pc := 49) (r := (some b)) hC dN_start_49 inN rfl 1 (by decide) q85 (Or.inl rfl) hf (fun r2 hf => ?_)
  refine v_callV (pc := 52) (r := r2) (As := []) (rest := []) (k' := 0) (n' := 0) (st1 := (fun yq => [.int yq])) hC dN_start_52 q116 q117 q118 q4 q119 ykL_size rfl rfl (fun bq rq wq hq => mL_size _ _ bq  _ rq wq hq) (by rw [hR]; decide) (by simp only [List.map_cons, List.map_nil, va_cat]; exact Nat.le_of_ble_eq_true rfl) (by decide) (by rw [hR]; decide) hf rfl (fun _ => rfl) (fun x3 w4 hf => ?_)
  exact v_iret (pc := 55) hC hE dN_start_55 (by rw [hR]; decide) (by rw [hR]; decide) hf
set_option maxHeartbeats 4000000 in
set_option maxRecDepth 100000 in
theorem tN_start_l12 {C : xC} {G : cG} {w0 w' : cW} {r : Int32} {b : Nat} (hC : okC C prog_1_method_9_code 2 "ArenaNetwork" lw_gd) (hE : xE C (some .int) mkI G w0 w' r) (hR : xR C = rmN_start)  : ∀ n : Nat, ∀ (a1 : Int32) (w : cW), fN_start_l12 b n a1 w = some (r, w') → V C w 0 0 12 [(0, va_rf (some b)), (1, .int a1)] [] := by
  refine lp_P (P := fun (f : Int32 → cW → Option (Int32 × cW)) => ∀ (a1 : Int32) (w : cW), f a1 w = some (r, w') → V C w 0 0 12 [(0, va_rf (some b)), (1, .int a1)] []) ?_ ?_
  · intro a1 w hf
    cases hf
  · intro rec12 hrec12 a1 w hf
    unfold fN_start_b12 at hf
    refine v_iload_n (pc := 12) (i := 1) (x := a1) hC dN_start_12 rfl 1 rfl ?_
    refine v_aload_n (pc := 13) (i := 0) (r := (some b)) hC dN_start_13 rfl 0 rfl ?_
    refine v_getQ (pc := 14) (r := (some b)) hC dN_start_14 inN rfl 0 (by decide) q84 (Or.inl rfl) hf (fun r1 hf => ?_)
    refine v_callV (pc := 17) (r := r1) (As := []) (rest := [.int a1]) (k' := 0) (n' := 0) (st1 := (fun yq => [.int yq, .int a1])) hC dN_start_17 q116 q117 q118 q4 q119 ykL_size rfl rfl (fun bq rq wq hq => mL_size _ _ bq  _ rq wq hq) (by rw [hR]; decide) (by simp only [List.map_cons, List.map_nil, va_cat]; exact Nat.le_of_ble_eq_true rfl) (by decide) (by rw [hR]; decide) hf rfl (fun _ => rfl) (fun x2 w3 hf => ?_)
    refine v_icmp_ge (pc := 20) (tgt := 43) hC dN_start_20 (by decide) hf (fun hf => ?_) (fun hf => ?_)
    · exact V.sub [0] rfl (tN_start_b43 hC hE hR  _ hf)
    · refine v_aload_n (pc := 23) (i := 0) (r := (some b)) hC dN_start_23 rfl 0 rfl ?_
      refine v_getQ (pc := 24) (r := (some b)) hC dN_start_24 inN rfl 0 (by decide) q84 (Or.inl rfl) hf (fun r5 hf => ?_)
      refine v_iload_n (pc := 27) (i := 1) (x := a1) hC dN_start_27 rfl 1 rfl ?_
      refine v_callV (pc := 28) (r := r5) (As := [.int a1]) (rest := []) (k' := 0) (n' := 0) (st1 := (fun yq => [va_rf yq])) hC dN_start_28 q239 q240 q241 q4 q242 ykL_get rfl rfl (fun bq rq wq hq => mL_get _ _ bq a1 _ rq wq hq) (by rw [hR]; decide) (by simp only [List.map_cons, List.map_nil, va_cat]; exact Nat.le_of_ble_eq_true rfl) (by decide) (by rw [hR]; decide) hf rfl (fun _ => rfl) (fun r6 w7 hf => ?_)
      refine v_cast (pc := 31) (r := r6) hC dN_start_31 rfl q120 hf (fun hf => ?_)
      refine v_callV (pc := 34) (r := r6) (As := []) (rest := []) (k' := 0) (n' := 0) (st1 := (fun yq => [])) hC dN_start_34 q369 q370 q371 q8 q372 ykT_takeGiven rfl rfl (fun bq rq wq hq => mT_takeGiven _ _ bq  _ rq wq hq) (by rw [hR]; decide) (by simp only [List.map_cons, List.map_nil, va_cat]; exact Nat.le_of_ble_eq_true rfl) (by decide) (by rw [hR]; decide) hf rfl (fun _ => rfl) (fun u9 w10 hf => ?_)
      refine v_iincB (pc := 37) (i := 1) (x := a1) (v := (1 : Int32)) hC dN_start_37 1 rfl (by decide) (by decide) (fun x12 => [(1, .int x12), (0, va_rf (some b))]) (fun _ => rfl) hf (fun x12 hf => ?_)
      refine v_goto (pc := 40) (tgt := 12) hC dN_start_40 (by decide) ?_
      exact V.sub [1, 0] rfl (hrec12 _ _ hf)
set_option maxHeartbeats 4000000 in
set_option maxRecDepth 100000 in
theorem tN_start {C : xC} {G : cG} {w0 w' : cW} {r : Int32} {b : Nat} (hC : okC C prog_1_method_9_code 2 "ArenaNetwork" lw_gd) (hE : xE C (some .int) mkI G w0 w' r) (hR : xR C = rmN_start)  (w : cW) (hf : fN_start b w = some (r, w')) : V C w 0 0 0 [(0, va_rf (some b))] [] := by
  unfold fN_start at hf
  refine v_aload_n (pc := 0) (i := 0) (r := (some b)) hC dN_start_0 rfl 0 rfl ?_
  refine v_getI (pc := 1) (r := (some b)) hC dN_start_1 inN rfl 4 (by decide) q88 (Or.inl rfl) hf (fun x1 hf => ?_)
  refine v_if_ne (pc := 4) (tgt := 10) hC dN_start_4 (by decide) hf (fun hf => ?_) (fun hf => ?_)
  · refine v_iconst (pc := 10) (v := (0 : Int32)) hC dN_start_10 (by decide) ?_
    refine v_istore_n (pc := 11) (i := 1) (x := (0 : Int32)) hC dN_start_11 rfl (by decide) [(1, .int (0 : Int32)), (0, va_rf (some b))] rfl ?_
    exact V.sub [1, 0] rfl (tN_start_l12 hC hE hR  FU _ _ hf)
  · refine v_bipush (pc := 7) (v := (-3 : Int32)) hC dN_start_7 (by decide) ?_
    exact v_iret (pc := 9) hC hE dN_start_9 (by rw [hR]; decide) (by rw [hR]; decide) hf
theorem mN_start (l : Launch) (G : cG) (b : Nat)  (w : cW) (r : Int32) (w' : cW) (hf : fN_start b w = some (r, w')) : Met l yN_start (wsM yN_start prog_1_method_9_code 2 (some .int)) rmN_start (mP G w [va_rf (some b)]) (mQ mkI G w w' r) (rmN_start).cells (rmN_start).slots (Aw w) :=
  met_of (by decide +kernel) rfl (Nat.le_of_ble_eq_true rfl) (fun C hC hR _ _ _ hts hE => tN_start (okC.tbl hC) hE hR  w hf)
set_option maxHeartbeats 4000000 in
set_option maxRecDepth 100000 in
theorem tN_step {C : xC} {G : cG} {w0 w' : cW} {r : Int32} {b : Nat} (hC : okC C prog_1_method_10_code 1 "ArenaNetwork" lw_gd) (hE : xE C (some .int) mkI G w0 w' r) (hR : xR C = rmN_step)  (w : cW) (hf : fN_step b w = some (r, w')) : V C w 0 0 0 [(0, va_rf (some b))] [] := by
  unfold fN_step at hf
  refine v_aload_n (pc := 0) (i := 0) (r := (some b)) hC dN_step_0 rfl 0 rfl ?_
  refine v_getI (pc := 1) (r := (some b)) hC dN_step_1 inN rfl 5 (by decide) q89 (Or.inl rfl) hf (fun x1 hf => ?_)
  refine v_iconst (pc := 4) (v := (-1 : Int32)) hC dN_step_4 (by decide) ?_
  refine v_icmp_eq (pc := 5) (tgt := 22) hC dN_step_5 (by decide) hf (fun hf => ?_) (fun hf => ?_)
  · refine v_bipush (pc := 22) (v := (-3 : Int32)) hC dN_step_22 (by decide) ?_
    exact v_iret (pc := 24) hC hE dN_step_24 (by rw [hR]; decide) (by rw [hR]; decide) hf
  · refine v_aload_n (pc := 8) (i := 0) (r := (some b)) hC dN_step_8 rfl 0 rfl ?_
    refine v_getI (pc := 9) (r := (some b)) hC dN_step_9 inN rfl 5 (by decide) q89 (Or.inl rfl) hf (fun x2 hf => ?_)
    refine v_aload_n (pc := 12) (i := 0) (r := (some b)) hC dN_step_12 rfl 0 rfl ?_
    refine v_getQ (pc := 13) (r := (some b)) hC dN_step_13 inN rfl 1 (by decide) q85 (Or.inl rfl) hf (fun r3 hf => ?_)
    refine v_callV (pc := 16) (r := r3) (As := []) (rest := [.int x2]) (k' := 0) (n' := 0) (st1 := (fun yq => [.int yq, .int x2])) hC dN_step_16 q116 q117 q118 q4 q119 ykL_size rfl rfl (fun bq rq wq hq => mL_size _ _ bq  _ rq wq hq) (by rw [hR]; decide) (by simp only [List.map_cons, List.map_nil, va_cat]; exact Nat.le_of_ble_eq_true rfl) (by decide) (by rw [hR]; decide) hf rfl (fun _ => rfl) (fun x4 w5 hf => ?_)
    refine v_icmp_lt (pc := 19) (tgt := 25) hC dN_step_19 (by decide) hf (fun hf => ?_) (fun hf => ?_)
    · refine v_aload_n (pc := 25) (i := 0) (r := (some b)) hC dN_step_25 rfl 0 rfl ?_
      refine v_callV (pc := 26) (r := (some b)) (As := []) (rest := []) (k' := 0) (n' := 0) (st1 := (fun yq => [])) hC dN_step_26 q378 q380 p11 q1 q381 ykN_doNext rfl rfl (fun bq rq wq hq => mN_doNext _ _ bq  _ rq wq hq) (by rw [hR]; decide) (by simp only [List.map_cons, List.map_nil, va_cat]; exact Nat.le_of_ble_eq_true rfl) (by decide) (by rw [hR]; decide) hf rfl (fun _ => rfl) (fun u7 w8 hf => ?_)
      refine v_aload_n (pc := 29) (i := 0) (r := (some b)) hC dN_step_29 rfl 0 rfl ?_
      refine v_getI (pc := 30) (r := (some b)) hC dN_step_30 inN rfl 5 (by decide) q89 (Or.inl rfl) hf (fun x10 hf => ?_)
      refine v_iconst (pc := 33) (v := (1 : Int32)) hC dN_step_33 (by decide) ?_
      refine v_isub (pc := 34) hC dN_step_34 ?_
      exact v_iret (pc := 35) hC hE dN_step_35 (by rw [hR]; decide) (by rw [hR]; decide) hf
    · refine v_bipush (pc := 22) (v := (-3 : Int32)) hC dN_step_22 (by decide) ?_
      exact v_iret (pc := 24) hC hE dN_step_24 (by rw [hR]; decide) (by rw [hR]; decide) hf
theorem mN_step (l : Launch) (G : cG) (b : Nat)  (w : cW) (r : Int32) (w' : cW) (hf : fN_step b w = some (r, w')) : Met l yN_step (wsM yN_step prog_1_method_10_code 1 (some .int)) rmN_step (mP G w [va_rf (some b)]) (mQ mkI G w w' r) (rmN_step).cells (rmN_step).slots (Aw w) :=
  met_of (by decide +kernel) rfl (Nat.le_of_ble_eq_true rfl) (fun C hC hR _ _ _ hts hE => tN_step (okC.tbl hC) hE hR  w hf)
