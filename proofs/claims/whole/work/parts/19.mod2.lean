abbrev yM_difference : MethodName := ⟨"ArenaNetworkModel", "difference", "(II)I"⟩
abbrev rmM_difference : Room := { frames := 0, cells := 0, slots := 0, locals := 0 }
theorem ykM_difference : yOk yM_difference 2 := by decide +kernel
theorem dM_difference_0 : decode prog_7_method_25_code 0 = .ok (.aload_n 0, 1) := by decide +kernel
theorem dM_difference_1 : decode prog_7_method_25_code 1 = .ok (.getfield 26, 3) := by decide +kernel
theorem dM_difference_4 : decode prog_7_method_25_code 4 = .ok (.iload_n 1, 1) := by decide +kernel
theorem dM_difference_5 : decode prog_7_method_25_code 5 = .ok (.bipush (64), 2) := by decide +kernel
theorem dM_difference_7 : decode prog_7_method_25_code 7 = .ok (.imul, 1) := by decide +kernel
theorem dM_difference_8 : decode prog_7_method_25_code 8 = .ok (.iload_n 2, 1) := by decide +kernel
theorem dM_difference_9 : decode prog_7_method_25_code 9 = .ok (.iadd, 1) := by decide +kernel
theorem dM_difference_10 : decode prog_7_method_25_code 10 = .ok (.iaload, 1) := by decide +kernel
theorem dM_difference_11 : decode prog_7_method_25_code 11 = .ok (.aload_n 0, 1) := by decide +kernel
theorem dM_difference_12 : decode prog_7_method_25_code 12 = .ok (.getfield 16, 3) := by decide +kernel
theorem dM_difference_15 : decode prog_7_method_25_code 15 = .ok (.iload_n 1, 1) := by decide +kernel
theorem dM_difference_16 : decode prog_7_method_25_code 16 = .ok (.iaload, 1) := by decide +kernel
theorem dM_difference_17 : decode prog_7_method_25_code 17 = .ok (.isub, 1) := by decide +kernel
theorem dM_difference_18 : decode prog_7_method_25_code 18 = .ok (.ireturn, 1) := by decide +kernel
abbrev yM_rounded : MethodName := ⟨"ArenaNetworkModel", "rounded", "(JJ)J"⟩
abbrev rmM_rounded : Room := { frames := 0, cells := 0, slots := 0, locals := 0 }
theorem ykM_rounded : yOk yM_rounded 2 := by decide +kernel
theorem dM_rounded_0 : decode prog_7_method_22_code 0 = .ok (.lload_n 1, 1) := by decide +kernel
theorem dM_rounded_1 : decode prog_7_method_22_code 1 = .ok (.lconst 0, 1) := by decide +kernel
theorem dM_rounded_2 : decode prog_7_method_22_code 2 = .ok (.lcmp, 1) := by decide +kernel
theorem dM_rounded_3 : decode prog_7_method_22_code 3 = .ok (.ifCond .ge (8), 3) := by decide +kernel
theorem dM_rounded_6 : decode prog_7_method_22_code 6 = .ok (.lload_n 1, 1) := by decide +kernel
theorem dM_rounded_7 : decode prog_7_method_22_code 7 = .ok (.lneg, 1) := by decide +kernel
theorem dM_rounded_8 : decode prog_7_method_22_code 8 = .ok (.goto (4), 3) := by decide +kernel
theorem dM_rounded_11 : decode prog_7_method_22_code 11 = .ok (.lload_n 1, 1) := by decide +kernel
theorem dM_rounded_12 : decode prog_7_method_22_code 12 = .ok (.lstore 5, 2) := by decide +kernel
theorem dM_rounded_14 : decode prog_7_method_22_code 14 = .ok (.ldc2_w 113, 3) := by decide +kernel
theorem dM_rounded_17 : decode prog_7_method_22_code 17 = .ok (.lload 5, 2) := by decide +kernel
theorem dM_rounded_19 : decode prog_7_method_22_code 19 = .ok (.lmul, 1) := by decide +kernel
theorem dM_rounded_20 : decode prog_7_method_22_code 20 = .ok (.lload_n 3, 1) := by decide +kernel
theorem dM_rounded_21 : decode prog_7_method_22_code 21 = .ok (.ladd, 1) := by decide +kernel
theorem dM_rounded_22 : decode prog_7_method_22_code 22 = .ok (.ldc2_w 113, 3) := by decide +kernel
theorem dM_rounded_25 : decode prog_7_method_22_code 25 = .ok (.lload_n 3, 1) := by decide +kernel
theorem dM_rounded_26 : decode prog_7_method_22_code 26 = .ok (.lmul, 1) := by decide +kernel
theorem dM_rounded_27 : decode prog_7_method_22_code 27 = .ok (.ldiv, 1) := by decide +kernel
theorem dM_rounded_28 : decode prog_7_method_22_code 28 = .ok (.lstore 7, 2) := by decide +kernel
theorem dM_rounded_30 : decode prog_7_method_22_code 30 = .ok (.lload_n 1, 1) := by decide +kernel
theorem dM_rounded_31 : decode prog_7_method_22_code 31 = .ok (.lconst 0, 1) := by decide +kernel
theorem dM_rounded_32 : decode prog_7_method_22_code 32 = .ok (.lcmp, 1) := by decide +kernel
theorem dM_rounded_33 : decode prog_7_method_22_code 33 = .ok (.ifCond .ge (9), 3) := by decide +kernel
theorem dM_rounded_36 : decode prog_7_method_22_code 36 = .ok (.lload 7, 2) := by decide +kernel
theorem dM_rounded_38 : decode prog_7_method_22_code 38 = .ok (.lneg, 1) := by decide +kernel
theorem dM_rounded_39 : decode prog_7_method_22_code 39 = .ok (.goto (5), 3) := by decide +kernel
theorem dM_rounded_42 : decode prog_7_method_22_code 42 = .ok (.lload 7, 2) := by decide +kernel
theorem dM_rounded_44 : decode prog_7_method_22_code 44 = .ok (.lreturn, 1) := by decide +kernel
abbrev yM_clamped : MethodName := ⟨"ArenaNetworkModel", "clamped", "(I)I"⟩
abbrev rmM_clamped : Room := { frames := 0, cells := 0, slots := 0, locals := 0 }
theorem ykM_clamped : yOk yM_clamped 1 := by decide +kernel
theorem dM_clamped_0 : decode prog_7_method_24_code 0 = .ok (.iload_n 1, 1) := by decide +kernel
theorem dM_clamped_1 : decode prog_7_method_24_code 1 = .ok (.bipush (-128), 2) := by decide +kernel
theorem dM_clamped_3 : decode prog_7_method_24_code 3 = .ok (.if_icmp .ge (8), 3) := by decide +kernel
theorem dM_clamped_6 : decode prog_7_method_24_code 6 = .ok (.bipush (-128), 2) := by decide +kernel
theorem dM_clamped_8 : decode prog_7_method_24_code 8 = .ok (.goto (15), 3) := by decide +kernel
theorem dM_clamped_11 : decode prog_7_method_24_code 11 = .ok (.iload_n 1, 1) := by decide +kernel
theorem dM_clamped_12 : decode prog_7_method_24_code 12 = .ok (.bipush (127), 2) := by decide +kernel
theorem dM_clamped_14 : decode prog_7_method_24_code 14 = .ok (.if_icmp .le (8), 3) := by decide +kernel
theorem dM_clamped_17 : decode prog_7_method_24_code 17 = .ok (.bipush (127), 2) := by decide +kernel
theorem dM_clamped_19 : decode prog_7_method_24_code 19 = .ok (.goto (4), 3) := by decide +kernel
theorem dM_clamped_22 : decode prog_7_method_24_code 22 = .ok (.iload_n 1, 1) := by decide +kernel
theorem dM_clamped_23 : decode prog_7_method_24_code 23 = .ok (.ireturn, 1) := by decide +kernel
abbrev yM_window : MethodName := ⟨"ArenaNetworkModel", "window", "(IIIZ)I"⟩
abbrev rmM_window : Room := { frames := 1, cells := 0, slots := 0, locals := 28 }
theorem ykM_window : yOk yM_window 4 := by decide +kernel
theorem dM_window_0 : decode prog_7_method_26_code 0 = .ok (.bipush (-128), 2) := by decide +kernel
theorem dM_window_2 : decode prog_7_method_26_code 2 = .ok (.istore 5, 2) := by decide +kernel
theorem dM_window_4 : decode prog_7_method_26_code 4 = .ok (.iconst (0), 1) := by decide +kernel
theorem dM_window_5 : decode prog_7_method_26_code 5 = .ok (.istore 6, 2) := by decide +kernel
theorem dM_window_7 : decode prog_7_method_26_code 7 = .ok (.iload_n 2, 1) := by decide +kernel
theorem dM_window_8 : decode prog_7_method_26_code 8 = .ok (.istore 7, 2) := by decide +kernel
theorem dM_window_10 : decode prog_7_method_26_code 10 = .ok (.iload 7, 2) := by decide +kernel
theorem dM_window_12 : decode prog_7_method_26_code 12 = .ok (.iload_n 2, 1) := by decide +kernel
theorem dM_window_13 : decode prog_7_method_26_code 13 = .ok (.iload_n 3, 1) := by decide +kernel
theorem dM_window_14 : decode prog_7_method_26_code 14 = .ok (.iadd, 1) := by decide +kernel
theorem dM_window_15 : decode prog_7_method_26_code 15 = .ok (.if_icmp .ge (41), 3) := by decide +kernel
theorem dM_window_18 : decode prog_7_method_26_code 18 = .ok (.aload_n 0, 1) := by decide +kernel
theorem dM_window_19 : decode prog_7_method_26_code 19 = .ok (.getfield 26, 3) := by decide +kernel
theorem dM_window_22 : decode prog_7_method_26_code 22 = .ok (.iload_n 1, 1) := by decide +kernel
theorem dM_window_23 : decode prog_7_method_26_code 23 = .ok (.bipush (64), 2) := by decide +kernel
theorem dM_window_25 : decode prog_7_method_26_code 25 = .ok (.imul, 1) := by decide +kernel
theorem dM_window_26 : decode prog_7_method_26_code 26 = .ok (.iload 7, 2) := by decide +kernel
theorem dM_window_28 : decode prog_7_method_26_code 28 = .ok (.iadd, 1) := by decide +kernel
theorem dM_window_29 : decode prog_7_method_26_code 29 = .ok (.iaload, 1) := by decide +kernel
theorem dM_window_30 : decode prog_7_method_26_code 30 = .ok (.istore 8, 2) := by decide +kernel
theorem dM_window_32 : decode prog_7_method_26_code 32 = .ok (.iload 8, 2) := by decide +kernel
theorem dM_window_34 : decode prog_7_method_26_code 34 = .ok (.iload 5, 2) := by decide +kernel
theorem dM_window_36 : decode prog_7_method_26_code 36 = .ok (.if_icmp .le (7), 3) := by decide +kernel
theorem dM_window_39 : decode prog_7_method_26_code 39 = .ok (.iload 8, 2) := by decide +kernel
theorem dM_window_41 : decode prog_7_method_26_code 41 = .ok (.istore 5, 2) := by decide +kernel
theorem dM_window_43 : decode prog_7_method_26_code 43 = .ok (.iload 6, 2) := by decide +kernel
theorem dM_window_45 : decode prog_7_method_26_code 45 = .ok (.iload 8, 2) := by decide +kernel
theorem dM_window_47 : decode prog_7_method_26_code 47 = .ok (.iadd, 1) := by decide +kernel
theorem dM_window_48 : decode prog_7_method_26_code 48 = .ok (.istore 6, 2) := by decide +kernel
theorem dM_window_50 : decode prog_7_method_26_code 50 = .ok (.iinc 7 (1), 3) := by decide +kernel
theorem dM_window_53 : decode prog_7_method_26_code 53 = .ok (.goto (-43), 3) := by decide +kernel
theorem dM_window_56 : decode prog_7_method_26_code 56 = .ok (.iload 4, 2) := by decide +kernel
theorem dM_window_58 : decode prog_7_method_26_code 58 = .ok (.ifCond .eq (8), 3) := by decide +kernel
theorem dM_window_61 : decode prog_7_method_26_code 61 = .ok (.iload 5, 2) := by decide +kernel
theorem dM_window_63 : decode prog_7_method_26_code 63 = .ok (.goto (13), 3) := by decide +kernel
theorem dM_window_66 : decode prog_7_method_26_code 66 = .ok (.aload_n 0, 1) := by decide +kernel
theorem dM_window_67 : decode prog_7_method_26_code 67 = .ok (.iload 6, 2) := by decide +kernel
theorem dM_window_69 : decode prog_7_method_26_code 69 = .ok (.i2l, 1) := by decide +kernel
theorem dM_window_70 : decode prog_7_method_26_code 70 = .ok (.iload_n 3, 1) := by decide +kernel
theorem dM_window_71 : decode prog_7_method_26_code 71 = .ok (.i2l, 1) := by decide +kernel
theorem dM_window_72 : decode prog_7_method_26_code 72 = .ok (.invokevirtual 117, 3) := by decide +kernel
theorem dM_window_75 : decode prog_7_method_26_code 75 = .ok (.l2i, 1) := by decide +kernel
theorem dM_window_76 : decode prog_7_method_26_code 76 = .ok (.ireturn, 1) := by decide +kernel
abbrev yM_tensor : MethodName := ⟨"ArenaNetworkModel", "tensor", "(III)I"⟩
abbrev rmM_tensor : Room := { frames := 1, cells := 0, slots := 0, locals := 21 }
theorem ykM_tensor : yOk yM_tensor 3 := by decide +kernel
theorem dM_tensor_0 : decode prog_7_method_4_code 0 = .ok (.iload_n 1, 1) := by decide +kernel
theorem dM_tensor_1 : decode prog_7_method_4_code 1 = .ok (.ifCond .lt (36), 3) := by decide +kernel
theorem dM_tensor_4 : decode prog_7_method_4_code 4 = .ok (.iload_n 1, 1) := by decide +kernel
theorem dM_tensor_5 : decode prog_7_method_4_code 5 = .ok (.iconst (2), 1) := by decide +kernel
theorem dM_tensor_6 : decode prog_7_method_4_code 6 = .ok (.if_icmp .gt (31), 3) := by decide +kernel
theorem dM_tensor_9 : decode prog_7_method_4_code 9 = .ok (.iload_n 2, 1) := by decide +kernel
theorem dM_tensor_10 : decode prog_7_method_4_code 10 = .ok (.iconst (1), 1) := by decide +kernel
theorem dM_tensor_11 : decode prog_7_method_4_code 11 = .ok (.if_icmp .lt (26), 3) := by decide +kernel
theorem dM_tensor_14 : decode prog_7_method_4_code 14 = .ok (.iload_n 2, 1) := by decide +kernel
theorem dM_tensor_15 : decode prog_7_method_4_code 15 = .ok (.iload_n 1, 1) := by decide +kernel
theorem dM_tensor_16 : decode prog_7_method_4_code 16 = .ok (.ifCond .ne (8), 3) := by decide +kernel
theorem dM_tensor_19 : decode prog_7_method_4_code 19 = .ok (.bipush (64), 2) := by decide +kernel
theorem dM_tensor_21 : decode prog_7_method_4_code 21 = .ok (.goto (5), 3) := by decide +kernel
theorem dM_tensor_24 : decode prog_7_method_4_code 24 = .ok (.bipush (16), 2) := by decide +kernel
theorem dM_tensor_26 : decode prog_7_method_4_code 26 = .ok (.if_icmp .gt (11), 3) := by decide +kernel
theorem dM_tensor_29 : decode prog_7_method_4_code 29 = .ok (.aload_n 0, 1) := by decide +kernel
theorem dM_tensor_30 : decode prog_7_method_4_code 30 = .ok (.iload_n 3, 1) := by decide +kernel
theorem dM_tensor_31 : decode prog_7_method_4_code 31 = .ok (.invokevirtual 64, 3) := by decide +kernel
theorem dM_tensor_34 : decode prog_7_method_4_code 34 = .ok (.ifCond .eq (5), 3) := by decide +kernel
theorem dM_tensor_37 : decode prog_7_method_4_code 37 = .ok (.iconst (-1), 1) := by decide +kernel
theorem dM_tensor_38 : decode prog_7_method_4_code 38 = .ok (.ireturn, 1) := by decide +kernel
theorem dM_tensor_39 : decode prog_7_method_4_code 39 = .ok (.aload_n 0, 1) := by decide +kernel
theorem dM_tensor_40 : decode prog_7_method_4_code 40 = .ok (.getfield 68, 3) := by decide +kernel
theorem dM_tensor_43 : decode prog_7_method_4_code 43 = .ok (.ifCond .eq (6), 3) := by decide +kernel
theorem dM_tensor_46 : decode prog_7_method_4_code 46 = .ok (.bipush (-3), 2) := by decide +kernel
theorem dM_tensor_48 : decode prog_7_method_4_code 48 = .ok (.ireturn, 1) := by decide +kernel
theorem dM_tensor_49 : decode prog_7_method_4_code 49 = .ok (.aload_n 0, 1) := by decide +kernel
theorem dM_tensor_50 : decode prog_7_method_4_code 50 = .ok (.getfield 61, 3) := by decide +kernel
theorem dM_tensor_53 : decode prog_7_method_4_code 53 = .ok (.bipush (20), 2) := by decide +kernel
theorem dM_tensor_55 : decode prog_7_method_4_code 55 = .ok (.if_icmp .ne (6), 3) := by decide +kernel
theorem dM_tensor_58 : decode prog_7_method_4_code 58 = .ok (.bipush (-2), 2) := by decide +kernel
theorem dM_tensor_60 : decode prog_7_method_4_code 60 = .ok (.ireturn, 1) := by decide +kernel
theorem dM_tensor_61 : decode prog_7_method_4_code 61 = .ok (.aload_n 0, 1) := by decide +kernel
theorem dM_tensor_62 : decode prog_7_method_4_code 62 = .ok (.getfield 7, 3) := by decide +kernel
theorem dM_tensor_65 : decode prog_7_method_4_code 65 = .ok (.aload_n 0, 1) := by decide +kernel
theorem dM_tensor_66 : decode prog_7_method_4_code 66 = .ok (.getfield 61, 3) := by decide +kernel
theorem dM_tensor_69 : decode prog_7_method_4_code 69 = .ok (.iload_n 1, 1) := by decide +kernel
theorem dM_tensor_70 : decode prog_7_method_4_code 70 = .ok (.iastore, 1) := by decide +kernel
theorem dM_tensor_71 : decode prog_7_method_4_code 71 = .ok (.aload_n 0, 1) := by decide +kernel
theorem dM_tensor_72 : decode prog_7_method_4_code 72 = .ok (.getfield 13, 3) := by decide +kernel
theorem dM_tensor_75 : decode prog_7_method_4_code 75 = .ok (.aload_n 0, 1) := by decide +kernel
theorem dM_tensor_76 : decode prog_7_method_4_code 76 = .ok (.getfield 61, 3) := by decide +kernel
theorem dM_tensor_79 : decode prog_7_method_4_code 79 = .ok (.iload_n 2, 1) := by decide +kernel
theorem dM_tensor_80 : decode prog_7_method_4_code 80 = .ok (.iastore, 1) := by decide +kernel
theorem dM_tensor_81 : decode prog_7_method_4_code 81 = .ok (.aload_n 0, 1) := by decide +kernel
theorem dM_tensor_82 : decode prog_7_method_4_code 82 = .ok (.getfield 16, 3) := by decide +kernel
theorem dM_tensor_85 : decode prog_7_method_4_code 85 = .ok (.aload_n 0, 1) := by decide +kernel
theorem dM_tensor_86 : decode prog_7_method_4_code 86 = .ok (.getfield 61, 3) := by decide +kernel
theorem dM_tensor_89 : decode prog_7_method_4_code 89 = .ok (.iload_n 3, 1) := by decide +kernel
theorem dM_tensor_90 : decode prog_7_method_4_code 90 = .ok (.iastore, 1) := by decide +kernel
theorem dM_tensor_91 : decode prog_7_method_4_code 91 = .ok (.aload_n 0, 1) := by decide +kernel
theorem dM_tensor_92 : decode prog_7_method_4_code 92 = .ok (.dup, 1) := by decide +kernel
theorem dM_tensor_93 : decode prog_7_method_4_code 93 = .ok (.getfield 61, 3) := by decide +kernel
theorem dM_tensor_96 : decode prog_7_method_4_code 96 = .ok (.iconst (1), 1) := by decide +kernel
theorem dM_tensor_97 : decode prog_7_method_4_code 97 = .ok (.iadd, 1) := by decide +kernel
theorem dM_tensor_98 : decode prog_7_method_4_code 98 = .ok (.putfield 61, 3) := by decide +kernel
theorem dM_tensor_101 : decode prog_7_method_4_code 101 = .ok (.aload_n 0, 1) := by decide +kernel
theorem dM_tensor_102 : decode prog_7_method_4_code 102 = .ok (.getfield 61, 3) := by decide +kernel
theorem dM_tensor_105 : decode prog_7_method_4_code 105 = .ok (.iconst (1), 1) := by decide +kernel
theorem dM_tensor_106 : decode prog_7_method_4_code 106 = .ok (.isub, 1) := by decide +kernel
theorem dM_tensor_107 : decode prog_7_method_4_code 107 = .ok (.ireturn, 1) := by decide +kernel
abbrev yM_set : MethodName := ⟨"ArenaNetworkModel", "set", "(III)I"⟩
abbrev rmM_set : Room := { frames := 1, cells := 0, slots := 0, locals := 21 }
theorem ykM_set : yOk yM_set 3 := by decide +kernel
theorem dM_set_0 : decode prog_7_method_5_code 0 = .ok (.aload_n 0, 1) := by decide +kernel
theorem dM_set_1 : decode prog_7_method_5_code 1 = .ok (.iload_n 1, 1) := by decide +kernel
theorem dM_set_2 : decode prog_7_method_5_code 2 = .ok (.invokevirtual 72, 3) := by decide +kernel
theorem dM_set_5 : decode prog_7_method_5_code 5 = .ok (.ifCond .ne (35), 3) := by decide +kernel
theorem dM_set_8 : decode prog_7_method_5_code 8 = .ok (.aload_n 0, 1) := by decide +kernel
theorem dM_set_9 : decode prog_7_method_5_code 9 = .ok (.getfield 7, 3) := by decide +kernel
theorem dM_set_12 : decode prog_7_method_5_code 12 = .ok (.iload_n 1, 1) := by decide +kernel
theorem dM_set_13 : decode prog_7_method_5_code 13 = .ok (.iaload, 1) := by decide +kernel
theorem dM_set_14 : decode prog_7_method_5_code 14 = .ok (.iconst (2), 1) := by decide +kernel
theorem dM_set_15 : decode prog_7_method_5_code 15 = .ok (.if_icmp .eq (25), 3) := by decide +kernel
theorem dM_set_18 : decode prog_7_method_5_code 18 = .ok (.iload_n 2, 1) := by decide +kernel
theorem dM_set_19 : decode prog_7_method_5_code 19 = .ok (.ifCond .lt (21), 3) := by decide +kernel
theorem dM_set_22 : decode prog_7_method_5_code 22 = .ok (.iload_n 2, 1) := by decide +kernel
theorem dM_set_23 : decode prog_7_method_5_code 23 = .ok (.aload_n 0, 1) := by decide +kernel
theorem dM_set_24 : decode prog_7_method_5_code 24 = .ok (.getfield 13, 3) := by decide +kernel
theorem dM_set_27 : decode prog_7_method_5_code 27 = .ok (.iload_n 1, 1) := by decide +kernel
theorem dM_set_28 : decode prog_7_method_5_code 28 = .ok (.iaload, 1) := by decide +kernel
theorem dM_set_29 : decode prog_7_method_5_code 29 = .ok (.if_icmp .ge (11), 3) := by decide +kernel
theorem dM_set_32 : decode prog_7_method_5_code 32 = .ok (.aload_n 0, 1) := by decide +kernel
theorem dM_set_33 : decode prog_7_method_5_code 33 = .ok (.iload_n 3, 1) := by decide +kernel
theorem dM_set_34 : decode prog_7_method_5_code 34 = .ok (.invokevirtual 64, 3) := by decide +kernel
theorem dM_set_37 : decode prog_7_method_5_code 37 = .ok (.ifCond .eq (5), 3) := by decide +kernel
theorem dM_set_40 : decode prog_7_method_5_code 40 = .ok (.iconst (-1), 1) := by decide +kernel
theorem dM_set_41 : decode prog_7_method_5_code 41 = .ok (.ireturn, 1) := by decide +kernel
theorem dM_set_42 : decode prog_7_method_5_code 42 = .ok (.aload_n 0, 1) := by decide +kernel
theorem dM_set_43 : decode prog_7_method_5_code 43 = .ok (.getfield 68, 3) := by decide +kernel
theorem dM_set_46 : decode prog_7_method_5_code 46 = .ok (.ifCond .eq (15), 3) := by decide +kernel
theorem dM_set_49 : decode prog_7_method_5_code 49 = .ok (.aload_n 0, 1) := by decide +kernel
theorem dM_set_50 : decode prog_7_method_5_code 50 = .ok (.getfield 7, 3) := by decide +kernel
theorem dM_set_53 : decode prog_7_method_5_code 53 = .ok (.iload_n 1, 1) := by decide +kernel
theorem dM_set_54 : decode prog_7_method_5_code 54 = .ok (.iaload, 1) := by decide +kernel
theorem dM_set_55 : decode prog_7_method_5_code 55 = .ok (.ifCond .ne (6), 3) := by decide +kernel
theorem dM_set_58 : decode prog_7_method_5_code 58 = .ok (.bipush (-3), 2) := by decide +kernel
theorem dM_set_60 : decode prog_7_method_5_code 60 = .ok (.ireturn, 1) := by decide +kernel
theorem dM_set_61 : decode prog_7_method_5_code 61 = .ok (.aload_n 0, 1) := by decide +kernel
theorem dM_set_62 : decode prog_7_method_5_code 62 = .ok (.getfield 23, 3) := by decide +kernel
theorem dM_set_65 : decode prog_7_method_5_code 65 = .ok (.iload_n 1, 1) := by decide +kernel
theorem dM_set_66 : decode prog_7_method_5_code 66 = .ok (.bipush (64), 2) := by decide +kernel
theorem dM_set_68 : decode prog_7_method_5_code 68 = .ok (.imul, 1) := by decide +kernel
theorem dM_set_69 : decode prog_7_method_5_code 69 = .ok (.iload_n 2, 1) := by decide +kernel
theorem dM_set_70 : decode prog_7_method_5_code 70 = .ok (.iadd, 1) := by decide +kernel
theorem dM_set_71 : decode prog_7_method_5_code 71 = .ok (.iload_n 3, 1) := by decide +kernel
theorem dM_set_72 : decode prog_7_method_5_code 72 = .ok (.iastore, 1) := by decide +kernel
theorem dM_set_73 : decode prog_7_method_5_code 73 = .ok (.iconst (0), 1) := by decide +kernel
theorem dM_set_74 : decode prog_7_method_5_code 74 = .ok (.ireturn, 1) := by decide +kernel
abbrev yM_lives : MethodName := ⟨"ArenaNetworkModel", "lives", "(I)Z"⟩
abbrev rmM_lives : Room := { frames := 1, cells := 0, slots := 0, locals := 23 }
theorem ykM_lives : yOk yM_lives 1 := by decide +kernel
theorem dM_lives_0 : decode prog_7_method_14_code 0 = .ok (.aload_n 0, 1) := by decide +kernel
theorem dM_lives_1 : decode prog_7_method_14_code 1 = .ok (.iload_n 1, 1) := by decide +kernel
theorem dM_lives_2 : decode prog_7_method_14_code 2 = .ok (.invokevirtual 72, 3) := by decide +kernel
theorem dM_lives_5 : decode prog_7_method_14_code 5 = .ok (.ifCond .ne (46), 3) := by decide +kernel
theorem dM_lives_8 : decode prog_7_method_14_code 8 = .ok (.aload_n 0, 1) := by decide +kernel
theorem dM_lives_9 : decode prog_7_method_14_code 9 = .ok (.getfield 68, 3) := by decide +kernel
theorem dM_lives_12 : decode prog_7_method_14_code 12 = .ok (.ifCond .eq (39), 3) := by decide +kernel
theorem dM_lives_15 : decode prog_7_method_14_code 15 = .ok (.aload_n 0, 1) := by decide +kernel
theorem dM_lives_16 : decode prog_7_method_14_code 16 = .ok (.getfield 7, 3) := by decide +kernel
theorem dM_lives_19 : decode prog_7_method_14_code 19 = .ok (.iload_n 1, 1) := by decide +kernel
theorem dM_lives_20 : decode prog_7_method_14_code 20 = .ok (.iaload, 1) := by decide +kernel
theorem dM_lives_21 : decode prog_7_method_14_code 21 = .ok (.iconst (1), 1) := by decide +kernel
theorem dM_lives_22 : decode prog_7_method_14_code 22 = .ok (.if_icmp .eq (25), 3) := by decide +kernel
theorem dM_lives_25 : decode prog_7_method_14_code 25 = .ok (.aload_n 0, 1) := by decide +kernel
theorem dM_lives_26 : decode prog_7_method_14_code 26 = .ok (.getfield 7, 3) := by decide +kernel
theorem dM_lives_29 : decode prog_7_method_14_code 29 = .ok (.iload_n 1, 1) := by decide +kernel
theorem dM_lives_30 : decode prog_7_method_14_code 30 = .ok (.iaload, 1) := by decide +kernel
theorem dM_lives_31 : decode prog_7_method_14_code 31 = .ok (.iconst (2), 1) := by decide +kernel
theorem dM_lives_32 : decode prog_7_method_14_code 32 = .ok (.if_icmp .ne (19), 3) := by decide +kernel
theorem dM_lives_35 : decode prog_7_method_14_code 35 = .ok (.aload_n 0, 1) := by decide +kernel
theorem dM_lives_36 : decode prog_7_method_14_code 36 = .ok (.iload_n 1, 1) := by decide +kernel
theorem dM_lives_37 : decode prog_7_method_14_code 37 = .ok (.aload_n 0, 1) := by decide +kernel
theorem dM_lives_38 : decode prog_7_method_14_code 38 = .ok (.getfield 75, 3) := by decide +kernel
theorem dM_lives_41 : decode prog_7_method_14_code 41 = .ok (.invokevirtual 78, 3) := by decide +kernel
theorem dM_lives_44 : decode prog_7_method_14_code 44 = .ok (.ifCond .lt (7), 3) := by decide +kernel
theorem dM_lives_47 : decode prog_7_method_14_code 47 = .ok (.iconst (1), 1) := by decide +kernel
theorem dM_lives_48 : decode prog_7_method_14_code 48 = .ok (.goto (4), 3) := by decide +kernel
theorem dM_lives_51 : decode prog_7_method_14_code 51 = .ok (.iconst (0), 1) := by decide +kernel
theorem dM_lives_52 : decode prog_7_method_14_code 52 = .ok (.ireturn, 1) := by decide +kernel
abbrev yM_fault : MethodName := ⟨"ArenaNetworkModel", "fault", "(I)I"⟩
abbrev rmM_fault : Room := { frames := 2, cells := 0, slots := 0, locals := 45 }
theorem ykM_fault : yOk yM_fault 1 := by decide +kernel
theorem dM_fault_0 : decode prog_7_method_12_code 0 = .ok (.aload_n 0, 1) := by decide +kernel
theorem dM_fault_1 : decode prog_7_method_12_code 1 = .ok (.getfield 7, 3) := by decide +kernel
theorem dM_fault_4 : decode prog_7_method_12_code 4 = .ok (.aload_n 0, 1) := by decide +kernel
theorem dM_fault_5 : decode prog_7_method_12_code 5 = .ok (.getfield 44, 3) := by decide +kernel
theorem dM_fault_8 : decode prog_7_method_12_code 8 = .ok (.iload_n 1, 1) := by decide +kernel
theorem dM_fault_9 : decode prog_7_method_12_code 9 = .ok (.iaload, 1) := by decide +kernel
theorem dM_fault_10 : decode prog_7_method_12_code 10 = .ok (.iaload, 1) := by decide +kernel
theorem dM_fault_11 : decode prog_7_method_12_code 11 = .ok (.iconst (2), 1) := by decide +kernel
theorem dM_fault_12 : decode prog_7_method_12_code 12 = .ok (.if_icmp .ne (17), 3) := by decide +kernel
theorem dM_fault_15 : decode prog_7_method_12_code 15 = .ok (.aload_n 0, 1) := by decide +kernel
theorem dM_fault_16 : decode prog_7_method_12_code 16 = .ok (.aload_n 0, 1) := by decide +kernel
theorem dM_fault_17 : decode prog_7_method_12_code 17 = .ok (.getfield 44, 3) := by decide +kernel
theorem dM_fault_20 : decode prog_7_method_12_code 20 = .ok (.iload_n 1, 1) := by decide +kernel
theorem dM_fault_21 : decode prog_7_method_12_code 21 = .ok (.iaload, 1) := by decide +kernel
theorem dM_fault_22 : decode prog_7_method_12_code 22 = .ok (.iload_n 1, 1) := by decide +kernel
theorem dM_fault_23 : decode prog_7_method_12_code 23 = .ok (.invokevirtual 78, 3) := by decide +kernel
theorem dM_fault_26 : decode prog_7_method_12_code 26 = .ok (.ifCond .lt (5), 3) := by decide +kernel
theorem dM_fault_29 : decode prog_7_method_12_code 29 = .ok (.iconst (1), 1) := by decide +kernel
theorem dM_fault_30 : decode prog_7_method_12_code 30 = .ok (.ireturn, 1) := by decide +kernel
theorem dM_fault_31 : decode prog_7_method_12_code 31 = .ok (.aload_n 0, 1) := by decide +kernel
theorem dM_fault_32 : decode prog_7_method_12_code 32 = .ok (.aload_n 0, 1) := by decide +kernel
theorem dM_fault_33 : decode prog_7_method_12_code 33 = .ok (.getfield 38, 3) := by decide +kernel
theorem dM_fault_36 : decode prog_7_method_12_code 36 = .ok (.iload_n 1, 1) := by decide +kernel
theorem dM_fault_37 : decode prog_7_method_12_code 37 = .ok (.iaload, 1) := by decide +kernel
theorem dM_fault_38 : decode prog_7_method_12_code 38 = .ok (.iload_n 1, 1) := by decide +kernel
theorem dM_fault_39 : decode prog_7_method_12_code 39 = .ok (.invokevirtual 82, 3) := by decide +kernel
theorem dM_fault_42 : decode prog_7_method_12_code 42 = .ok (.ifCond .ne (17), 3) := by decide +kernel
theorem dM_fault_45 : decode prog_7_method_12_code 45 = .ok (.aload_n 0, 1) := by decide +kernel
theorem dM_fault_46 : decode prog_7_method_12_code 46 = .ok (.aload_n 0, 1) := by decide +kernel
theorem dM_fault_47 : decode prog_7_method_12_code 47 = .ok (.getfield 41, 3) := by decide +kernel
theorem dM_fault_50 : decode prog_7_method_12_code 50 = .ok (.iload_n 1, 1) := by decide +kernel
theorem dM_fault_51 : decode prog_7_method_12_code 51 = .ok (.iaload, 1) := by decide +kernel
theorem dM_fault_52 : decode prog_7_method_12_code 52 = .ok (.iload_n 1, 1) := by decide +kernel
theorem dM_fault_53 : decode prog_7_method_12_code 53 = .ok (.invokevirtual 82, 3) := by decide +kernel
theorem dM_fault_56 : decode prog_7_method_12_code 56 = .ok (.ifCond .eq (5), 3) := by decide +kernel
theorem dM_fault_59 : decode prog_7_method_12_code 59 = .ok (.iconst (2), 1) := by decide +kernel
theorem dM_fault_60 : decode prog_7_method_12_code 60 = .ok (.ireturn, 1) := by decide +kernel
theorem dM_fault_61 : decode prog_7_method_12_code 61 = .ok (.aload_n 0, 1) := by decide +kernel
theorem dM_fault_62 : decode prog_7_method_12_code 62 = .ok (.iload_n 1, 1) := by decide +kernel
theorem dM_fault_63 : decode prog_7_method_12_code 63 = .ok (.invokevirtual 86, 3) := by decide +kernel
theorem dM_fault_66 : decode prog_7_method_12_code 66 = .ok (.ifCond .eq (7), 3) := by decide +kernel
theorem dM_fault_69 : decode prog_7_method_12_code 69 = .ok (.iconst (0), 1) := by decide +kernel
theorem dM_fault_70 : decode prog_7_method_12_code 70 = .ok (.goto (4), 3) := by decide +kernel
theorem dM_fault_73 : decode prog_7_method_12_code 73 = .ok (.iconst (3), 1) := by decide +kernel
theorem dM_fault_74 : decode prog_7_method_12_code 74 = .ok (.ireturn, 1) := by decide +kernel
def fM_difference (b : Nat) (a1 : Int32) (a2 : Int32) (w : cW) : Option (Int32 × cW) :=
  (gQ w (some b) 5 5).bind fun r1 =>
  (ldI w r1 .int ((a1 * (64 : Int32)) + a2)).bind fun x2 =>
  (gQ w (some b) 5 2).bind fun r3 =>
  (ldI w r3 .int a1).bind fun x4 =>
  some ((x2 - x4), w)
def fM_rounded_b12 (b : Nat)  (a1 : Int64) (a3 : Int64) (s0 : Int64) (w : cW) : Option (Int64 × cW) :=
  if ((2 : Int64) * a3) = 0 then none else
  bnd ((((2 : Int64) * s0) + a3) / ((2 : Int64) * a3)) fun j1 =>
  if 0 ≤ (lg_cmp a1 (0 : Int64)) then (
    some (j1, w)) else
  some ((-j1), w)
def fM_rounded (b : Nat) (a1 : Int64) (a3 : Int64) (w : cW) : Option (Int64 × cW) :=
  if 0 ≤ (lg_cmp a1 (0 : Int64)) then (
    fM_rounded_b12 b a1 a3 a1 w) else
  fM_rounded_b12 b a1 a3 (-a1) w
def fM_clamped (b : Nat) (a1 : Int32) (w : cW) : Option (Int32 × cW) :=
  if (-128 : Int32) ≤ a1 then (
    if a1 ≤ (127 : Int32) then (
      some (a1, w)) else
    some ((127 : Int32), w)) else
  some ((-128 : Int32), w)
def fM_window_b56 (b : Nat)  (a3 : Int32) (a4 : Int32) (a5 : Int32) (a6 : Int32) (w : cW) : Option (Int32 × cW) :=
  if a4 = 0 then (
    (cRcv w (some b) 5).bind fun b3 => cbd (fM_rounded b3 a6.toInt64 a3.toInt64 w) fun j1 w2 =>
    some (j1.toInt32, w2)) else
  some (a5, w)
def fM_window_b10 (b : Nat)  (rec10 : Int32 → Int32 → Int32 → Int32 → Int32 → Int32 → Int32 → cW → Option (Int32 × cW)) (a1 : Int32) (a2 : Int32) (a3 : Int32) (a4 : Int32) (a5 : Int32) (a6 : Int32) (a7 : Int32) (w : cW) : Option (Int32 × cW) :=
  if (a2 + a3) ≤ a7 then (
    fM_window_b56 b a3 a4 a5 a6 w) else
  (gQ w (some b) 5 5).bind fun r1 =>
  (ldI w r1 .int ((a1 * (64 : Int32)) + a7)).bind fun x2 =>
  if x2 ≤ a5 then (
    bnd (a6 + x2) fun x3 =>
    bnd (a7 + (1 : Int32)) fun x4 =>
    rec10 a1 a2 a3 a4 a5 x3 x4 w) else
  bnd (a6 + x2) fun x5 =>
  bnd (a7 + (1 : Int32)) fun x6 =>
  rec10 a1 a2 a3 a4 x2 x5 x6 w
def fM_window_l10 (b : Nat)  (n : Nat) : Int32 → Int32 → Int32 → Int32 → Int32 → Int32 → Int32 → cW → Option (Int32 × cW) := lp (fun _ _ _ _ _ _ _ _ => none) (fM_window_b10 b ) n
def fM_window (b : Nat) (a1 : Int32) (a2 : Int32) (a3 : Int32) (a4 : Int32) (w : cW) : Option (Int32 × cW) :=
  fM_window_l10 b FU a1 a2 a3 a4 (-128 : Int32) (0 : Int32) a2 w
def fM_tensor_b26 (b : Nat)  (a1 : Int32) (a2 : Int32) (a3 : Int32) (s0 : Int32) (s1 : Int32) (w : cW) : Option (Int32 × cW) :=
  if s1 < s0 then (
    some ((-1 : Int32), w)) else
  (cRcv w (some b) 5).bind fun b3 => cbd (fM_noByte b3 a3 w) fun x1 w2 =>
  if x1 = 0 then (
    (gI w2 (some b) 5 15).bind fun x4 =>
    if x4 = 0 then (
      (gI w2 (some b) 5 6).bind fun x5 =>
      if x5 = (20 : Int32) then (
        some ((-2 : Int32), w2)) else
      (gQ w2 (some b) 5 0).bind fun r6 =>
      (gI w2 (some b) 5 6).bind fun x7 =>
      (stI w2 r6 .int x7 a1).bind fun w8 =>
      (gQ w8 (some b) 5 1).bind fun r9 =>
      (gI w8 (some b) 5 6).bind fun x10 =>
      (stI w8 r9 .int x10 a2).bind fun w11 =>
      (gQ w11 (some b) 5 2).bind fun r12 =>
      (gI w11 (some b) 5 6).bind fun x13 =>
      (stI w11 r12 .int x13 a3).bind fun w14 =>
      (gI w14 (some b) 5 6).bind fun x15 =>
      (pI w14 (some b) 5 6 (x15 + (1 : Int32))).bind fun w16 =>
      (gI w16 (some b) 5 6).bind fun x17 =>
      some ((x17 - (1 : Int32)), w16)) else
    some ((-3 : Int32), w2)) else
  some ((-1 : Int32), w2)
def fM_tensor (b : Nat) (a1 : Int32) (a2 : Int32) (a3 : Int32) (w : cW) : Option (Int32 × cW) :=
  if a1 < 0 then (
    some ((-1 : Int32), w)) else
  if (2 : Int32) < a1 then (
    some ((-1 : Int32), w)) else
  if a2 < (1 : Int32) then (
    some ((-1 : Int32), w)) else
  if a1 = 0 then (
    fM_tensor_b26 b a1 a2 a3 a2 (64 : Int32) w) else
  fM_tensor_b26 b a1 a2 a3 a2 (16 : Int32) w
def fM_set_b61 (b : Nat)  (a1 : Int32) (a2 : Int32) (a3 : Int32) (w : cW) : Option (Int32 × cW) :=
  (gQ w (some b) 5 4).bind fun r1 =>
  (stI w r1 .int ((a1 * (64 : Int32)) + a2) a3).bind fun w2 =>
  some ((0 : Int32), w2)
def fM_set (b : Nat) (a1 : Int32) (a2 : Int32) (a3 : Int32) (w : cW) : Option (Int32 × cW) :=
  (cRcv w (some b) 5).bind fun b3 => cbd (fM_noTensor b3 a1 w) fun x1 w2 =>
  if x1 = 0 then (
    (gQ w2 (some b) 5 0).bind fun r4 =>
    (ldI w2 r4 .int a1).bind fun x5 =>
    if x5 = (2 : Int32) then (
      some ((-1 : Int32), w2)) else
    if a2 < 0 then (
      some ((-1 : Int32), w2)) else
    (gQ w2 (some b) 5 1).bind fun r6 =>
    (ldI w2 r6 .int a1).bind fun x7 =>
    if x7 ≤ a2 then (
      some ((-1 : Int32), w2)) else
    (cRcv w2 (some b) 5).bind fun b10 => cbd (fM_noByte b10 a3 w2) fun x8 w9 =>
    if x8 = 0 then (
      (gI w9 (some b) 5 15).bind fun x11 =>
      if x11 = 0 then (
        fM_set_b61 b a1 a2 a3 w9) else
      (gQ w9 (some b) 5 0).bind fun r12 =>
      (ldI w9 r12 .int a1).bind fun x13 =>
      if x13 = 0 then (
        some ((-3 : Int32), w9)) else
      fM_set_b61 b a1 a2 a3 w9) else
    some ((-1 : Int32), w9)) else
  some ((-1 : Int32), w2)
def fM_lives (b : Nat) (a1 : Int32) (w : cW) : Option (Int32 × cW) :=
  (cRcv w (some b) 5).bind fun b3 => cbd (fM_noTensor b3 a1 w) fun x1 w2 =>
  if x1 = 0 then (
    (gI w2 (some b) 5 15).bind fun x4 =>
    if x4 = 0 then (
      some ((0 : Int32), w2)) else
    (gQ w2 (some b) 5 0).bind fun r5 =>
    (ldI w2 r5 .int a1).bind fun x6 =>
    if x6 = (1 : Int32) then (
      some ((1 : Int32), w2)) else
    (gQ w2 (some b) 5 0).bind fun r7 =>
    (ldI w2 r7 .int a1).bind fun x8 =>
    if x8 = (2 : Int32) then (
      (gI w2 (some b) 5 14).bind fun x9 =>
      (cRcv w2 (some b) 5).bind fun b12 => cbd (fM_maker b12 a1 x9 w2) fun x10 w11 =>
      if x10 < 0 then (
        some ((0 : Int32), w11)) else
      some ((1 : Int32), w11)) else
    some ((0 : Int32), w2)) else
  some ((0 : Int32), w2)
def fM_fault (b : Nat) (a1 : Int32) (w : cW) : Option (Int32 × cW) :=
  (gQ w (some b) 5 0).bind fun r1 =>
  (gQ w (some b) 5 12).bind fun r2 =>
  (ldI w r2 .int a1).bind fun x3 =>
  (ldI w r1 .int x3).bind fun x4 =>
  if x4 = (2 : Int32) then (
    (gQ w (some b) 5 12).bind fun r5 =>
    (ldI w r5 .int a1).bind fun x6 =>
    (cRcv w (some b) 5).bind fun b9 => cbd (fM_maker b9 x6 a1 w) fun x7 w8 =>
    if x7 < 0 then (
      (gQ w8 (some b) 5 10).bind fun r10 =>
      (ldI w8 r10 .int a1).bind fun x11 =>
      (cRcv w8 (some b) 5).bind fun b14 => cbd (fM_unmade b14 x11 a1 w8) fun x12 w13 =>
      if x12 = 0 then (
        (gQ w13 (some b) 5 11).bind fun r15 =>
        (ldI w13 r15 .int a1).bind fun x16 =>
        (cRcv w13 (some b) 5).bind fun b19 => cbd (fM_unmade b19 x16 a1 w13) fun x17 w18 =>
        if x17 = 0 then (
          (cRcv w18 (some b) 5).bind fun b22 => cbd (fM_fits b22 a1 w18) fun x20 w21 =>
          if x20 = 0 then (
            some ((3 : Int32), w21)) else
          some ((0 : Int32), w21)) else
        some ((2 : Int32), w18)) else
      some ((2 : Int32), w13)) else
    some ((1 : Int32), w8)) else
  some ((1 : Int32), w)
set_option maxHeartbeats 4000000 in
set_option maxRecDepth 100000 in
theorem tM_difference {C : xC} {G : cG} {w0 w' : cW} {r : Int32} {b : Nat} (hC : okC C prog_7_method_25_code 3 "ArenaNetworkModel" lw_gd) (hE : xE C (some .int) mkI G w0 w' r) (hR : xR C = rmM_difference) (a1 : Int32) (a2 : Int32) (w : cW) (hf : fM_difference b a1 a2 w = some (r, w')) : V C w 0 0 0 [(0, va_rf (some b)), (1, .int a1), (2, .int a2)] [] := by
  unfold fM_difference at hf
  refine v_aload_n (pc := 0) (i := 0) (r := (some b)) hC dM_difference_0 rfl 0 rfl ?_
  refine v_getQ (pc := 1) (r := (some b)) hC dM_difference_1 inM rfl 5 (by decide) q480 (Or.inl rfl) hf (fun r1 hf => ?_)
  refine v_iload_n (pc := 4) (i := 1) (x := a1) hC dM_difference_4 rfl 1 rfl ?_
  refine v_bipush (pc := 5) (v := (64 : Int32)) hC dM_difference_5 (by decide) ?_
  refine v_imul (pc := 7) hC dM_difference_7 ?_
  refine v_iload_n (pc := 8) (i := 2) (x := a2) hC dM_difference_8 rfl 2 rfl ?_
  refine v_iadd (pc := 9) hC dM_difference_9 ?_
  refine v_iald (pc := 10) hC dM_difference_10 hf (fun x2 hf => ?_)
  refine v_aload_n (pc := 11) (i := 0) (r := (some b)) hC dM_difference_11 rfl 0 rfl ?_
  refine v_getQ (pc := 12) (r := (some b)) hC dM_difference_12 inM rfl 2 (by decide) q477 (Or.inl rfl) hf (fun r3 hf => ?_)
  refine v_iload_n (pc := 15) (i := 1) (x := a1) hC dM_difference_15 rfl 1 rfl ?_
  refine v_iald (pc := 16) hC dM_difference_16 hf (fun x4 hf => ?_)
  refine v_isub (pc := 17) hC dM_difference_17 ?_
  exact v_iret (pc := 18) hC hE dM_difference_18 (by rw [hR]; decide) (by rw [hR]; decide) hf
theorem mM_difference (l : Launch) (G : cG) (b : Nat) (a1 : Int32) (a2 : Int32) (w : cW) (r : Int32) (w' : cW) (hf : fM_difference b a1 a2 w = some (r, w')) : Met l yM_difference (wsM yM_difference prog_7_method_25_code 3 (some .int)) rmM_difference (mP G w [va_rf (some b), .int a1, .int a2]) (mQ mkI G w w' r) (rmM_difference).cells (rmM_difference).slots (Aw w) :=
  met_of (by decide +kernel) rfl (Nat.le_of_ble_eq_true rfl) (fun C hC hR _ _ _ hts hE => tM_difference (okC.tbl hC) hE hR a1 a2 w hf)
set_option maxHeartbeats 4000000 in
set_option maxRecDepth 100000 in
theorem tM_rounded_b12 {C : xC} {G : cG} {w0 w' : cW} {r : Int64} {b : Nat} (hC : okC C prog_7_method_22_code 9 "ArenaNetworkModel" lw_gd) (hE : xE C (some .long) mkL G w0 w' r) (hR : xR C = rmM_rounded)  (a1 : Int64) (a3 : Int64) (s0 : Int64) (w : cW) (hf : fM_rounded_b12 b a1 a3 s0 w = some (r, w')) : V C w 0 0 12 [(1, .long a1), (3, .long a3)] [.long s0] := by
  unfold fM_rounded_b12 at hf
  refine v_lstore (pc := 12) (i := 5) (x := s0) hC dM_rounded_12 (by decide) [(5, .long s0), (1, .long a1), (3, .long a3)] rfl ?_
  refine v_ldc2 (pc := 14) (v := (2 : Int64)) hC dM_rounded_14 q636 ?_
  refine v_lload (pc := 17) (i := 5) (x := s0) hC dM_rounded_17 0 rfl ?_
  refine v_lmul (pc := 19) hC dM_rounded_19 ?_
  refine v_lload_n (pc := 20) (i := 3) (x := a3) hC dM_rounded_20 rfl 2 rfl ?_
  refine v_ladd (pc := 21) hC dM_rounded_21 ?_
  refine v_ldc2 (pc := 22) (v := (2 : Int64)) hC dM_rounded_22 q636 ?_
  refine v_lload_n (pc := 25) (i := 3) (x := a3) hC dM_rounded_25 rfl 2 rfl ?_
  refine v_lmul (pc := 26) hC dM_rounded_26 ?_
  by_cases e27 : ((2 : Int64) * a3) = 0
  · rw [if_pos e27] at hf; cases hf
  rw [if_neg e27] at hf
  refine v_ldiv (pc := 27) hC dM_rounded_27 e27 ?_
  refine v_bndl hf (fun j1 hf => ?_)
  refine v_lstore (pc := 28) (i := 7) (x := j1) hC dM_rounded_28 (by decide) [(7, .long j1), (5, .long s0), (1, .long a1), (3, .long a3)] rfl ?_
  refine v_lload_n (pc := 30) (i := 1) (x := a1) hC dM_rounded_30 rfl 2 rfl ?_
  refine v_lconst (pc := 31) (v := (0 : Int64)) hC dM_rounded_31 (by decide) ?_
  refine v_lcmp (pc := 32) hC dM_rounded_32 ?_
  refine v_if_ge (pc := 33) (tgt := 42) hC dM_rounded_33 (by decide) hf (fun hf => ?_) (fun hf => ?_)
  · refine v_lload (pc := 42) (i := 7) (x := j1) hC dM_rounded_42 0 rfl ?_
    exact v_lret (pc := 44) hC hE dM_rounded_44 (by rw [hR]; decide) (by rw [hR]; decide) hf
  · refine v_lload (pc := 36) (i := 7) (x := j1) hC dM_rounded_36 0 rfl ?_
    refine v_lneg (pc := 38) hC dM_rounded_38 ?_
    refine v_goto (pc := 39) (tgt := 44) hC dM_rounded_39 (by decide) ?_
    exact v_lret (pc := 44) hC hE dM_rounded_44 (by rw [hR]; decide) (by rw [hR]; decide) hf
set_option maxHeartbeats 4000000 in
set_option maxRecDepth 100000 in
theorem tM_rounded {C : xC} {G : cG} {w0 w' : cW} {r : Int64} {b : Nat} (hC : okC C prog_7_method_22_code 9 "ArenaNetworkModel" lw_gd) (hE : xE C (some .long) mkL G w0 w' r) (hR : xR C = rmM_rounded) (a1 : Int64) (a3 : Int64) (w : cW) (hf : fM_rounded b a1 a3 w = some (r, w')) : V C w 0 0 0 [(0, va_rf (some b)), (1, .long a1), (3, .long a3)] [] := by
  unfold fM_rounded at hf
  refine v_lload_n (pc := 0) (i := 1) (x := a1) hC dM_rounded_0 rfl 1 rfl ?_
  refine v_lconst (pc := 1) (v := (0 : Int64)) hC dM_rounded_1 (by decide) ?_
  refine v_lcmp (pc := 2) hC dM_rounded_2 ?_
  refine v_if_ge (pc := 3) (tgt := 11) hC dM_rounded_3 (by decide) hf (fun hf => ?_) (fun hf => ?_)
  · refine v_lload_n (pc := 11) (i := 1) (x := a1) hC dM_rounded_11 rfl 1 rfl ?_
    exact V.sub [1, 2] rfl (tM_rounded_b12 hC hE hR  _ _ _ _ hf)
  · refine v_lload_n (pc := 6) (i := 1) (x := a1) hC dM_rounded_6 rfl 1 rfl ?_
    refine v_lneg (pc := 7) hC dM_rounded_7 ?_
    refine v_goto (pc := 8) (tgt := 12) hC dM_rounded_8 (by decide) ?_
    exact V.sub [1, 2] rfl (tM_rounded_b12 hC hE hR  _ _ _ _ hf)
theorem mM_rounded (l : Launch) (G : cG) (b : Nat) (a1 : Int64) (a3 : Int64) (w : cW) (r : Int64) (w' : cW) (hf : fM_rounded b a1 a3 w = some (r, w')) : Met l yM_rounded (wsM yM_rounded prog_7_method_22_code 9 (some .long)) rmM_rounded (mP G w [va_rf (some b), .long a1, .long a3]) (mQ mkL G w w' r) (rmM_rounded).cells (rmM_rounded).slots (Aw w) :=
  met_of (by decide +kernel) rfl (Nat.le_of_ble_eq_true rfl) (fun C hC hR _ _ _ hts hE => tM_rounded (okC.tbl hC) hE hR a1 a3 w hf)
set_option maxHeartbeats 4000000 in
set_option maxRecDepth 100000 in
theorem tM_clamped {C : xC} {G : cG} {w0 w' : cW} {r : Int32} {b : Nat} (hC : okC C prog_7_method_24_code 2 "ArenaNetworkModel" lw_gd) (hE : xE C (some .int) mkI G w0 w' r) (hR : xR C = rmM_clamped) (a1 : Int32) (w : cW) (hf : fM_clamped b a1 w = some (r, w')) : V C w 0 0 0 [(0, va_rf (some b)), (1, .int a1)] [] := by
  unfold fM_clamped at hf
  refine v_iload_n (pc := 0) (i := 1) (x := a1) hC dM_clamped_0 rfl 1 rfl ?_
  refine v_bipush (pc := 1) (v := (-128 : Int32)) hC dM_clamped_1 (by decide) ?_
  refine v_icmp_ge (pc := 3) (tgt := 11) hC dM_clamped_3 (by decide) hf (fun hf => ?_) (fun hf => ?_)
  · refine v_iload_n (pc := 11) (i := 1) (x := a1) hC dM_clamped_11 rfl 1 rfl ?_
    refine v_bipush (pc := 12) (v := (127 : Int32)) hC dM_clamped_12 (by decide) ?_
    refine v_icmp_le (pc := 14) (tgt := 22) hC dM_clamped_14 (by decide) hf (fun hf => ?_) (fun hf => ?_)
    · refine v_iload_n (pc := 22) (i := 1) (x := a1) hC dM_clamped_22 rfl 1 rfl ?_
      exact v_iret (pc := 23) hC hE dM_clamped_23 (by rw [hR]; decide) (by rw [hR]; decide) hf
    · refine v_bipush (pc := 17) (v := (127 : Int32)) hC dM_clamped_17 (by decide) ?_
      refine v_goto (pc := 19) (tgt := 23) hC dM_clamped_19 (by decide) ?_
      exact v_iret (pc := 23) hC hE dM_clamped_23 (by rw [hR]; decide) (by rw [hR]; decide) hf
  · refine v_bipush (pc := 6) (v := (-128 : Int32)) hC dM_clamped_6 (by decide) ?_
    refine v_goto (pc := 8) (tgt := 23) hC dM_clamped_8 (by decide) ?_
    exact v_iret (pc := 23) hC hE dM_clamped_23 (by rw [hR]; decide) (by rw [hR]; decide) hf
theorem mM_clamped (l : Launch) (G : cG) (b : Nat) (a1 : Int32) (w : cW) (r : Int32) (w' : cW) (hf : fM_clamped b a1 w = some (r, w')) : Met l yM_clamped (wsM yM_clamped prog_7_method_24_code 2 (some .int)) rmM_clamped (mP G w [va_rf (some b), .int a1]) (mQ mkI G w w' r) (rmM_clamped).cells (rmM_clamped).slots (Aw w) :=
  met_of (by decide +kernel) rfl (Nat.le_of_ble_eq_true rfl) (fun C hC hR _ _ _ hts hE => tM_clamped (okC.tbl hC) hE hR a1 w hf)
set_option maxHeartbeats 4000000 in
set_option maxRecDepth 100000 in
theorem tM_window_b56 {C : xC} {G : cG} {w0 w' : cW} {r : Int32} {b : Nat} (hC : okC C prog_7_method_26_code 9 "ArenaNetworkModel" lw_gd) (hE : xE C (some .int) mkI G w0 w' r) (hR : xR C = rmM_window)  (a3 : Int32) (a4 : Int32) (a5 : Int32) (a6 : Int32) (w : cW) (hf : fM_window_b56 b a3 a4 a5 a6 w = some (r, w')) : V C w 0 0 56 [(0, va_rf (some b)), (3, .int a3), (4, .int a4), (5, .int a5), (6, .int a6)] [] := by
  unfold fM_window_b56 at hf
  refine v_iload (pc := 56) (i := 4) (x := a4) hC dM_window_56 2 rfl ?_
  refine v_if_eq (pc := 58) (tgt := 66) hC dM_window_58 (by decide) hf (fun hf => ?_) (fun hf => ?_)
  · refine v_aload_n (pc := 66) (i := 0) (r := (some b)) hC dM_window_66 rfl 0 rfl ?_
    refine v_iload (pc := 67) (i := 6) (x := a6) hC dM_window_67 4 rfl ?_
    refine v_i2l (pc := 69) hC dM_window_69 ?_
    refine v_iload_n (pc := 70) (i := 3) (x := a3) hC dM_window_70 rfl 1 rfl ?_
    refine v_i2l (pc := 71) hC dM_window_71 ?_
    refine v_callV (pc := 72) (r := (some b)) (As := [.long a6.toInt64, .long a3.toInt64]) (rest := []) (k' := 0) (n' := 0) (st1 := (fun yq => [.long yq])) hC dM_window_72 q632 q634 p32 q7 q635 ykM_rounded rfl rfl (fun bq rq wq hq => mM_rounded _ _ bq a6.toInt64 a3.toInt64 _ rq wq hq) (by rw [hR]; decide) (by simp only [List.map_cons, List.map_nil, va_cat]; exact Nat.le_of_ble_eq_true rfl) (by decide) (by rw [hR]; decide) hf rfl (fun _ => rfl) (fun j1 w2 hf => ?_)
    refine v_l2i (pc := 75) hC dM_window_75 ?_
    exact v_iret (pc := 76) hC hE dM_window_76 (by rw [hR]; decide) (by rw [hR]; decide) hf
  · refine v_iload (pc := 61) (i := 5) (x := a5) hC dM_window_61 3 rfl ?_
    refine v_goto (pc := 63) (tgt := 76) hC dM_window_63 (by decide) ?_
    exact v_iret (pc := 76) hC hE dM_window_76 (by rw [hR]; decide) (by rw [hR]; decide) hf
set_option maxHeartbeats 4000000 in
set_option maxRecDepth 100000 in
theorem tM_window_l10 {C : xC} {G : cG} {w0 w' : cW} {r : Int32} {b : Nat} (hC : okC C prog_7_method_26_code 9 "ArenaNetworkModel" lw_gd) (hE : xE C (some .int) mkI G w0 w' r) (hR : xR C = rmM_window)  : ∀ n : Nat, ∀ (a1 : Int32) (a2 : Int32) (a3 : Int32) (a4 : Int32) (a5 : Int32) (a6 : Int32) (a7 : Int32) (w : cW), fM_window_l10 b n a1 a2 a3 a4 a5 a6 a7 w = some (r, w') → V C w 0 0 10 [(0, va_rf (some b)), (1, .int a1), (2, .int a2), (3, .int a3), (4, .int a4), (5, .int a5), (6, .int a6), (7, .int a7)] [] := by
  refine lp_P (P := fun (f : Int32 → Int32 → Int32 → Int32 → Int32 → Int32 → Int32 → cW → Option (Int32 × cW)) => ∀ (a1 : Int32) (a2 : Int32) (a3 : Int32) (a4 : Int32) (a5 : Int32) (a6 : Int32) (a7 : Int32) (w : cW), f a1 a2 a3 a4 a5 a6 a7 w = some (r, w') → V C w 0 0 10 [(0, va_rf (some b)), (1, .int a1), (2, .int a2), (3, .int a3), (4, .int a4), (5, .int a5), (6, .int a6), (7, .int a7)] []) ?_ ?_
  · intro a1 a2 a3 a4 a5 a6 a7 w hf
    cases hf
  · intro rec10 hrec10 a1 a2 a3 a4 a5 a6 a7 w hf
    unfold fM_window_b10 at hf
    refine v_iload (pc := 10) (i := 7) (x := a7) hC dM_window_10 7 rfl ?_
    refine v_iload_n (pc := 12) (i := 2) (x := a2) hC dM_window_12 rfl 2 rfl ?_
    refine v_iload_n (pc := 13) (i := 3) (x := a3) hC dM_window_13 rfl 3 rfl ?_
    refine v_iadd (pc := 14) hC dM_window_14 ?_
    refine v_icmp_ge (pc := 15) (tgt := 56) hC dM_window_15 (by decide) hf (fun hf => ?_) (fun hf => ?_)
    · exact V.sub [0, 3, 4, 5, 6] rfl (tM_window_b56 hC hE hR  _ _ _ _ _ hf)
    · refine v_aload_n (pc := 18) (i := 0) (r := (some b)) hC dM_window_18 rfl 0 rfl ?_
      refine v_getQ (pc := 19) (r := (some b)) hC dM_window_19 inM rfl 5 (by decide) q480 (Or.inl rfl) hf (fun r1 hf => ?_)
      refine v_iload_n (pc := 22) (i := 1) (x := a1) hC dM_window_22 rfl 1 rfl ?_
      refine v_bipush (pc := 23) (v := (64 : Int32)) hC dM_window_23 (by decide) ?_
      refine v_imul (pc := 25) hC dM_window_25 ?_
      refine v_iload (pc := 26) (i := 7) (x := a7) hC dM_window_26 7 rfl ?_
      refine v_iadd (pc := 28) hC dM_window_28 ?_
      refine v_iald (pc := 29) hC dM_window_29 hf (fun x2 hf => ?_)
      refine v_istore (pc := 30) (i := 8) (x := x2) hC dM_window_30 (by decide) [(8, .int x2), (0, va_rf (some b)), (1, .int a1), (2, .int a2), (3, .int a3), (4, .int a4), (5, .int a5), (6, .int a6), (7, .int a7)] rfl ?_
      refine v_iload (pc := 32) (i := 8) (x := x2) hC dM_window_32 0 rfl ?_
      refine v_iload (pc := 34) (i := 5) (x := a5) hC dM_window_34 6 rfl ?_
      refine v_icmp_le (pc := 36) (tgt := 43) hC dM_window_36 (by decide) hf (fun hf => ?_) (fun hf => ?_)
      · refine v_iload (pc := 43) (i := 6) (x := a6) hC dM_window_43 7 rfl ?_
        refine v_iload (pc := 45) (i := 8) (x := x2) hC dM_window_45 0 rfl ?_
        refine v_iadd (pc := 47) hC dM_window_47 ?_
        refine v_bndi hf (fun x3 hf => ?_)
        refine v_istore (pc := 48) (i := 6) (x := x3) hC dM_window_48 (by decide) [(6, .int x3), (8, .int x2), (0, va_rf (some b)), (1, .int a1), (2, .int a2), (3, .int a3), (4, .int a4), (5, .int a5), (7, .int a7)] rfl ?_
        refine v_iincB (pc := 50) (i := 7) (x := a7) (v := (1 : Int32)) hC dM_window_50 8 rfl (by decide) (by decide) (fun x4 => [(7, .int x4), (6, .int x3), (8, .int x2), (0, va_rf (some b)), (1, .int a1), (2, .int a2), (3, .int a3), (4, .int a4), (5, .int a5)]) (fun _ => rfl) hf (fun x4 hf => ?_)
        refine v_goto (pc := 53) (tgt := 10) hC dM_window_53 (by decide) ?_
        exact V.sub [3, 4, 5, 6, 7, 8, 1, 0] rfl (hrec10 _ _ _ _ _ _ _ _ hf)
      · refine v_iload (pc := 39) (i := 8) (x := x2) hC dM_window_39 0 rfl ?_
        refine v_istore (pc := 41) (i := 5) (x := x2) hC dM_window_41 (by decide) [(5, .int x2), (8, .int x2), (0, va_rf (some b)), (1, .int a1), (2, .int a2), (3, .int a3), (4, .int a4), (6, .int a6), (7, .int a7)] rfl ?_
        refine v_iload (pc := 43) (i := 6) (x := a6) hC dM_window_43 7 rfl ?_
        refine v_iload (pc := 45) (i := 8) (x := x2) hC dM_window_45 1 rfl ?_
        refine v_iadd (pc := 47) hC dM_window_47 ?_
        refine v_bndi hf (fun x5 hf => ?_)
        refine v_istore (pc := 48) (i := 6) (x := x5) hC dM_window_48 (by decide) [(6, .int x5), (5, .int x2), (8, .int x2), (0, va_rf (some b)), (1, .int a1), (2, .int a2), (3, .int a3), (4, .int a4), (7, .int a7)] rfl ?_
        refine v_iincB (pc := 50) (i := 7) (x := a7) (v := (1 : Int32)) hC dM_window_50 8 rfl (by decide) (by decide) (fun x6 => [(7, .int x6), (6, .int x5), (5, .int x2), (8, .int x2), (0, va_rf (some b)), (1, .int a1), (2, .int a2), (3, .int a3), (4, .int a4)]) (fun _ => rfl) hf (fun x6 hf => ?_)
        refine v_goto (pc := 53) (tgt := 10) hC dM_window_53 (by decide) ?_
        exact V.sub [4, 5, 6, 7, 8, 2, 1, 0] rfl (hrec10 _ _ _ _ _ _ _ _ hf)
set_option maxHeartbeats 4000000 in
set_option maxRecDepth 100000 in
theorem tM_window {C : xC} {G : cG} {w0 w' : cW} {r : Int32} {b : Nat} (hC : okC C prog_7_method_26_code 9 "ArenaNetworkModel" lw_gd) (hE : xE C (some .int) mkI G w0 w' r) (hR : xR C = rmM_window) (a1 : Int32) (a2 : Int32) (a3 : Int32) (a4 : Int32) (w : cW) (hf : fM_window b a1 a2 a3 a4 w = some (r, w')) : V C w 0 0 0 [(0, va_rf (some b)), (1, .int a1), (2, .int a2), (3, .int a3), (4, .int a4)] [] := by
  unfold fM_window at hf
  refine v_bipush (pc := 0) (v := (-128 : Int32)) hC dM_window_0 (by decide) ?_
  refine v_istore (pc := 2) (i := 5) (x := (-128 : Int32)) hC dM_window_2 (by decide) [(5, .int (-128 : Int32)), (0, va_rf (some b)), (1, .int a1), (2, .int a2), (3, .int a3), (4, .int a4)] rfl ?_
  refine v_iconst (pc := 4) (v := (0 : Int32)) hC dM_window_4 (by decide) ?_
  refine v_istore (pc := 5) (i := 6) (x := (0 : Int32)) hC dM_window_5 (by decide) [(6, .int (0 : Int32)), (5, .int (-128 : Int32)), (0, va_rf (some b)), (1, .int a1), (2, .int a2), (3, .int a3), (4, .int a4)] rfl ?_
  refine v_iload_n (pc := 7) (i := 2) (x := a2) hC dM_window_7 rfl 4 rfl ?_
  refine v_istore (pc := 8) (i := 7) (x := a2) hC dM_window_8 (by decide) [(7, .int a2), (6, .int (0 : Int32)), (5, .int (-128 : Int32)), (0, va_rf (some b)), (1, .int a1), (2, .int a2), (3, .int a3), (4, .int a4)] rfl ?_
  exact V.sub [3, 4, 5, 6, 7, 2, 1, 0] rfl (tM_window_l10 hC hE hR  FU _ _ _ _ _ _ _ _ hf)
theorem mM_window (l : Launch) (G : cG) (b : Nat) (a1 : Int32) (a2 : Int32) (a3 : Int32) (a4 : Int32) (w : cW) (r : Int32) (w' : cW) (hf : fM_window b a1 a2 a3 a4 w = some (r, w')) : Met l yM_window (wsM yM_window prog_7_method_26_code 9 (some .int)) rmM_window (mP G w [va_rf (some b), .int a1, .int a2, .int a3, .int a4]) (mQ mkI G w w' r) (rmM_window).cells (rmM_window).slots (Aw w) :=
  met_of (by decide +kernel) rfl (Nat.le_of_ble_eq_true rfl) (fun C hC hR _ _ _ hts hE => tM_window (okC.tbl hC) hE hR a1 a2 a3 a4 w hf)
set_option maxHeartbeats 4000000 in
set_option maxRecDepth 100000 in
theorem tM_tensor_b26 {C : xC} {G : cG} {w0 w' : cW} {r : Int32} {b : Nat} (hC : okC C prog_7_method_4_code 4 "ArenaNetworkModel" lw_gd) (hE : xE C (some .int) mkI G w0 w' r) (hR : xR C = rmM_tensor)  (a1 : Int32) (a2 : Int32) (a3 : Int32) (s0 : Int32) (s1 : Int32) (w : cW) (hf : fM_tensor_b26 b a1 a2 a3 s0 s1 w = some (r, w')) : V C w 0 0 26 [(0, va_rf (some b)), (1, .int a1), (2, .int a2), (3, .int a3)] [.int s1, .int s0] := by
  unfold fM_tensor_b26 at hf
  refine v_icmp_gt (pc := 26) (tgt := 37) hC dM_tensor_26 (by decide) hf (fun hf => ?_) (fun hf => ?_)
  · refine v_iconst (pc := 37) (v := (-1 : Int32)) hC dM_tensor_37 (by decide) ?_
    exact v_iret (pc := 38) hC hE dM_tensor_38 (by rw [hR]; decide) (by rw [hR]; decide) hf
  · refine v_aload_n (pc := 29) (i := 0) (r := (some b)) hC dM_tensor_29 rfl 0 rfl ?_
    refine v_iload_n (pc := 30) (i := 3) (x := a3) hC dM_tensor_30 rfl 3 rfl ?_
    refine v_callV (pc := 31) (r := (some b)) (As := [.int a3]) (rest := []) (k' := 0) (n' := 0) (st1 := (fun yq => [.int yq])) hC dM_tensor_31 q538 q540 p18 q7 q541 ykM_noByte rfl rfl (fun bq rq wq hq => mM_noByte _ _ bq a3 _ rq wq hq) (by rw [hR]; decide) (by simp only [List.map_cons, List.map_nil, va_cat]; exact Nat.le_of_ble_eq_true rfl) (by decide) (by rw [hR]; decide) hf rfl (fun _ => rfl) (fun x1 w2 hf => ?_)
    refine v_if_eq (pc := 34) (tgt := 39) hC dM_tensor_34 (by decide) hf (fun hf => ?_) (fun hf => ?_)
    · refine v_aload_n (pc := 39) (i := 0) (r := (some b)) hC dM_tensor_39 rfl 0 rfl ?_
      refine v_getI (pc := 40) (r := (some b)) hC dM_tensor_40 inM rfl 15 (by decide) q490 (Or.inl rfl) hf (fun x4 hf => ?_)
      refine v_if_eq (pc := 43) (tgt := 49) hC dM_tensor_43 (by decide) hf (fun hf => ?_) (fun hf => ?_)
      · refine v_aload_n (pc := 49) (i := 0) (r := (some b)) hC dM_tensor_49 rfl 0 rfl ?_
        refine v_getI (pc := 50) (r := (some b)) hC dM_tensor_50 inM rfl 6 (by decide) q481 (Or.inl rfl) hf (fun x5 hf => ?_)
        refine v_bipush (pc := 53) (v := (20 : Int32)) hC dM_tensor_53 (by decide) ?_
        refine v_icmp_ne (pc := 55) (tgt := 61) hC dM_tensor_55 (by decide) hf (fun hf => ?_) (fun hf => ?_)
        · refine v_aload_n (pc := 61) (i := 0) (r := (some b)) hC dM_tensor_61 rfl 0 rfl ?_
          refine v_getQ (pc := 62) (r := (some b)) hC dM_tensor_62 inM rfl 0 (by decide) q475 (Or.inl rfl) hf (fun r6 hf => ?_)
          refine v_aload_n (pc := 65) (i := 0) (r := (some b)) hC dM_tensor_65 rfl 0 rfl ?_
          refine v_getI (pc := 66) (r := (some b)) hC dM_tensor_66 inM rfl 6 (by decide) q481 (Or.inl rfl) hf (fun x7 hf => ?_)
          refine v_iload_n (pc := 69) (i := 1) (x := a1) hC dM_tensor_69 rfl 1 rfl ?_
          refine v_iast (pc := 70) hC dM_tensor_70 hf (fun w8 hf => ?_)
          refine v_aload_n (pc := 71) (i := 0) (r := (some b)) hC dM_tensor_71 rfl 0 rfl ?_
          refine v_getQ (pc := 72) (r := (some b)) hC dM_tensor_72 inM rfl 1 (by decide) q476 (Or.inl rfl) hf (fun r9 hf => ?_)
          refine v_aload_n (pc := 75) (i := 0) (r := (some b)) hC dM_tensor_75 rfl 0 rfl ?_
          refine v_getI (pc := 76) (r := (some b)) hC dM_tensor_76 inM rfl 6 (by decide) q481 (Or.inl rfl) hf (fun x10 hf => ?_)
          refine v_iload_n (pc := 79) (i := 2) (x := a2) hC dM_tensor_79 rfl 2 rfl ?_
          refine v_iast (pc := 80) hC dM_tensor_80 hf (fun w11 hf => ?_)
          refine v_aload_n (pc := 81) (i := 0) (r := (some b)) hC dM_tensor_81 rfl 0 rfl ?_
          refine v_getQ (pc := 82) (r := (some b)) hC dM_tensor_82 inM rfl 2 (by decide) q477 (Or.inl rfl) hf (fun r12 hf => ?_)
          refine v_aload_n (pc := 85) (i := 0) (r := (some b)) hC dM_tensor_85 rfl 0 rfl ?_
          refine v_getI (pc := 86) (r := (some b)) hC dM_tensor_86 inM rfl 6 (by decide) q481 (Or.inl rfl) hf (fun x13 hf => ?_)
          refine v_iload_n (pc := 89) (i := 3) (x := a3) hC dM_tensor_89 rfl 3 rfl ?_
          refine v_iast (pc := 90) hC dM_tensor_90 hf (fun w14 hf => ?_)
          refine v_aload_n (pc := 91) (i := 0) (r := (some b)) hC dM_tensor_91 rfl 0 rfl ?_
          refine v_dupR (pc := 92) hC dM_tensor_92 ?_
          refine v_getI (pc := 93) (r := (some b)) hC dM_tensor_93 inM rfl 6 (by decide) q481 (Or.inl rfl) hf (fun x15 hf => ?_)
          refine v_iconst (pc := 96) (v := (1 : Int32)) hC dM_tensor_96 (by decide) ?_
          refine v_iadd (pc := 97) hC dM_tensor_97 ?_
          refine v_putI (pc := 98) (r := (some b)) hC dM_tensor_98 inM rfl tyM tkM nmM 6 (by decide) q481 (Or.inl rfl) rfl (tkM 6 (by decide)) hf (fun w16 hf => ?_)
          refine v_aload_n (pc := 101) (i := 0) (r := (some b)) hC dM_tensor_101 rfl 0 rfl ?_
          refine v_getI (pc := 102) (r := (some b)) hC dM_tensor_102 inM rfl 6 (by decide) q481 (Or.inl rfl) hf (fun x17 hf => ?_)
          refine v_iconst (pc := 105) (v := (1 : Int32)) hC dM_tensor_105 (by decide) ?_
          refine v_isub (pc := 106) hC dM_tensor_106 ?_
          exact v_iret (pc := 107) hC hE dM_tensor_107 (by rw [hR]; decide) (by rw [hR]; decide) hf
        · refine v_bipush (pc := 58) (v := (-2 : Int32)) hC dM_tensor_58 (by decide) ?_
          exact v_iret (pc := 60) hC hE dM_tensor_60 (by rw [hR]; decide) (by rw [hR]; decide) hf
      · refine v_bipush (pc := 46) (v := (-3 : Int32)) hC dM_tensor_46 (by decide) ?_
        exact v_iret (pc := 48) hC hE dM_tensor_48 (by rw [hR]; decide) (by rw [hR]; decide) hf
    · refine v_iconst (pc := 37) (v := (-1 : Int32)) hC dM_tensor_37 (by decide) ?_
      exact v_iret (pc := 38) hC hE dM_tensor_38 (by rw [hR]; decide) (by rw [hR]; decide) hf
set_option maxHeartbeats 4000000 in
set_option maxRecDepth 100000 in
theorem tM_tensor {C : xC} {G : cG} {w0 w' : cW} {r : Int32} {b : Nat} (hC : okC C prog_7_method_4_code 4 "ArenaNetworkModel" lw_gd) (hE : xE C (some .int) mkI G w0 w' r) (hR : xR C = rmM_tensor) (a1 : Int32) (a2 : Int32) (a3 : Int32) (w : cW) (hf : fM_tensor b a1 a2 a3 w = some (r, w')) : V C w 0 0 0 [(0, va_rf (some b)), (1, .int a1), (2, .int a2), (3, .int a3)] [] := by
  unfold fM_tensor at hf
  refine v_iload_n (pc := 0) (i := 1) (x := a1) hC dM_tensor_0 rfl 1 rfl ?_
  refine v_if_lt (pc := 1) (tgt := 37) hC dM_tensor_1 (by decide) hf (fun hf => ?_) (fun hf => ?_)
  · refine v_iconst (pc := 37) (v := (-1 : Int32)) hC dM_tensor_37 (by decide) ?_
    exact v_iret (pc := 38) hC hE dM_tensor_38 (by rw [hR]; decide) (by rw [hR]; decide) hf
  · refine v_iload_n (pc := 4) (i := 1) (x := a1) hC dM_tensor_4 rfl 1 rfl ?_
    refine v_iconst (pc := 5) (v := (2 : Int32)) hC dM_tensor_5 (by decide) ?_
    refine v_icmp_gt (pc := 6) (tgt := 37) hC dM_tensor_6 (by decide) hf (fun hf => ?_) (fun hf => ?_)
    · refine v_iconst (pc := 37) (v := (-1 : Int32)) hC dM_tensor_37 (by decide) ?_
      exact v_iret (pc := 38) hC hE dM_tensor_38 (by rw [hR]; decide) (by rw [hR]; decide) hf
    · refine v_iload_n (pc := 9) (i := 2) (x := a2) hC dM_tensor_9 rfl 2 rfl ?_
      refine v_iconst (pc := 10) (v := (1 : Int32)) hC dM_tensor_10 (by decide) ?_
      refine v_icmp_lt (pc := 11) (tgt := 37) hC dM_tensor_11 (by decide) hf (fun hf => ?_) (fun hf => ?_)
      · refine v_iconst (pc := 37) (v := (-1 : Int32)) hC dM_tensor_37 (by decide) ?_
        exact v_iret (pc := 38) hC hE dM_tensor_38 (by rw [hR]; decide) (by rw [hR]; decide) hf
      · refine v_iload_n (pc := 14) (i := 2) (x := a2) hC dM_tensor_14 rfl 2 rfl ?_
        refine v_iload_n (pc := 15) (i := 1) (x := a1) hC dM_tensor_15 rfl 1 rfl ?_
        refine v_if_ne (pc := 16) (tgt := 24) hC dM_tensor_16 (by decide) hf (fun hf => ?_) (fun hf => ?_)
        · refine v_bipush (pc := 24) (v := (16 : Int32)) hC dM_tensor_24 (by decide) ?_
          exact V.sub [0, 1, 2, 3] rfl (tM_tensor_b26 hC hE hR  _ _ _ _ _ _ hf)
        · refine v_bipush (pc := 19) (v := (64 : Int32)) hC dM_tensor_19 (by decide) ?_
          refine v_goto (pc := 21) (tgt := 26) hC dM_tensor_21 (by decide) ?_
          exact V.sub [0, 1, 2, 3] rfl (tM_tensor_b26 hC hE hR  _ _ _ _ _ _ hf)
theorem mM_tensor (l : Launch) (G : cG) (b : Nat) (a1 : Int32) (a2 : Int32) (a3 : Int32) (w : cW) (r : Int32) (w' : cW) (hf : fM_tensor b a1 a2 a3 w = some (r, w')) : Met l yM_tensor (wsM yM_tensor prog_7_method_4_code 4 (some .int)) rmM_tensor (mP G w [va_rf (some b), .int a1, .int a2, .int a3]) (mQ mkI G w w' r) (rmM_tensor).cells (rmM_tensor).slots (Aw w) :=
  met_of (by decide +kernel) rfl (Nat.le_of_ble_eq_true rfl) (fun C hC hR _ _ _ hts hE => tM_tensor (okC.tbl hC) hE hR a1 a2 a3 w hf)
set_option maxHeartbeats 4000000 in
set_option maxRecDepth 100000 in
theorem tM_set_b61 {C : xC} {G : cG} {w0 w' : cW} {r : Int32} {b : Nat} (hC : okC C prog_7_method_5_code 4 "ArenaNetworkModel" lw_gd) (hE : xE C (some .int) mkI G w0 w' r) (hR : xR C = rmM_set)  (a1 : Int32) (a2 : Int32) (a3 : Int32) (w : cW) (hf : fM_set_b61 b a1 a2 a3 w = some (r, w')) : V C w 0 0 61 [(0, va_rf (some b)), (1, .int a1), (2, .int a2), (3, .int a3)] [] := by
  unfold fM_set_b61 at hf
  refine v_aload_n (pc := 61) (i := 0) (r := (some b)) hC dM_set_61 rfl 0 rfl ?_
  refine v_getQ (pc := 62) (r := (some b)) hC dM_set_62 inM rfl 4 (by decide) q479 (Or.inl rfl) hf (fun r1 hf => ?_)
  refine v_iload_n (pc := 65) (i := 1) (x := a1) hC dM_set_65 rfl 1 rfl ?_
  refine v_bipush (pc := 66) (v := (64 : Int32)) hC dM_set_66 (by decide) ?_
  refine v_imul (pc := 68) hC dM_set_68 ?_
  refine v_iload_n (pc := 69) (i := 2) (x := a2) hC dM_set_69 rfl 2 rfl ?_
  refine v_iadd (pc := 70) hC dM_set_70 ?_
  refine v_iload_n (pc := 71) (i := 3) (x := a3) hC dM_set_71 rfl 3 rfl ?_
  refine v_iast (pc := 72) hC dM_set_72 hf (fun w2 hf => ?_)
  refine v_iconst (pc := 73) (v := (0 : Int32)) hC dM_set_73 (by decide) ?_
  exact v_iret (pc := 74) hC hE dM_set_74 (by rw [hR]; decide) (by rw [hR]; decide) hf
set_option maxHeartbeats 4000000 in
set_option maxRecDepth 100000 in
theorem tM_set {C : xC} {G : cG} {w0 w' : cW} {r : Int32} {b : Nat} (hC : okC C prog_7_method_5_code 4 "ArenaNetworkModel" lw_gd) (hE : xE C (some .int) mkI G w0 w' r) (hR : xR C = rmM_set) (a1 : Int32) (a2 : Int32) (a3 : Int32) (w : cW) (hf : fM_set b a1 a2 a3 w = some (r, w')) : V C w 0 0 0 [(0, va_rf (some b)), (1, .int a1), (2, .int a2), (3, .int a3)] [] := by
  unfold fM_set at hf
  refine v_aload_n (pc := 0) (i := 0) (r := (some b)) hC dM_set_0 rfl 0 rfl ?_
  refine v_iload_n (pc := 1) (i := 1) (x := a1) hC dM_set_1 rfl 1 rfl ?_
  refine v_callV (pc := 2) (r := (some b)) (As := [.int a1]) (rest := []) (k' := 0) (n' := 0) (st1 := (fun yq => [.int yq])) hC dM_set_2 q546 q548 p19 q7 q549 ykM_noTensor rfl rfl (fun bq rq wq hq => mM_noTensor _ _ bq a1 _ rq wq hq) (by rw [hR]; decide) (by simp only [List.map_cons, List.map_nil, va_cat]; exact Nat.le_of_ble_eq_true rfl) (by decide) (by rw [hR]; decide) hf rfl (fun _ => rfl) (fun x1 w2 hf => ?_)
  refine v_if_ne (pc := 5) (tgt := 40) hC dM_set_5 (by decide) hf (fun hf => ?_) (fun hf => ?_)
  · refine v_iconst (pc := 40) (v := (-1 : Int32)) hC dM_set_40 (by decide) ?_
    exact v_iret (pc := 41) hC hE dM_set_41 (by rw [hR]; decide) (by rw [hR]; decide) hf
  · refine v_aload_n (pc := 8) (i := 0) (r := (some b)) hC dM_set_8 rfl 0 rfl ?_
    refine v_getQ (pc := 9) (r := (some b)) hC dM_set_9 inM rfl 0 (by decide) q475 (Or.inl rfl) hf (fun r4 hf => ?_)
    refine v_iload_n (pc := 12) (i := 1) (x := a1) hC dM_set_12 rfl 1 rfl ?_
    refine v_iald (pc := 13) hC dM_set_13 hf (fun x5 hf => ?_)
    refine v_iconst (pc := 14) (v := (2 : Int32)) hC dM_set_14 (by decide) ?_
    refine v_icmp_eq (pc := 15) (tgt := 40) hC dM_set_15 (by decide) hf (fun hf => ?_) (fun hf => ?_)
    · refine v_iconst (pc := 40) (v := (-1 : Int32)) hC dM_set_40 (by decide) ?_
      exact v_iret (pc := 41) hC hE dM_set_41 (by rw [hR]; decide) (by rw [hR]; decide) hf
    · refine v_iload_n (pc := 18) (i := 2) (x := a2) hC dM_set_18 rfl 2 rfl ?_
      refine v_if_lt (pc := 19) (tgt := 40) hC dM_set_19 (by decide) hf (fun hf => ?_) (fun hf => ?_)
      · refine v_iconst (pc := 40) (v := (-1 : Int32)) hC dM_set_40 (by decide) ?_
        exact v_iret (pc := 41) hC hE dM_set_41 (by rw [hR]; decide) (by rw [hR]; decide) hf
      · refine v_iload_n (pc := 22) (i := 2) (x := a2) hC dM_set_22 rfl 2 rfl ?_
        refine v_aload_n (pc := 23) (i := 0) (r := (some b)) hC dM_set_23 rfl 0 rfl ?_
        refine v_getQ (pc := 24) (r := (some b)) hC dM_set_24 inM rfl 1 (by decide) q476 (Or.inl rfl) hf (fun r6 hf => ?_)
        refine v_iload_n (pc := 27) (i := 1) (x := a1) hC dM_set_27 rfl 1 rfl ?_
        refine v_iald (pc := 28) hC dM_set_28 hf (fun x7 hf => ?_)
        refine v_icmp_ge (pc := 29) (tgt := 40) hC dM_set_29 (by decide) hf (fun hf => ?_) (fun hf => ?_)
        · refine v_iconst (pc := 40) (v := (-1 : Int32)) hC dM_set_40 (by decide) ?_
          exact v_iret (pc := 41) hC hE dM_set_41 (by rw [hR]; decide) (by rw [hR]; decide) hf
        · refine v_aload_n (pc := 32) (i := 0) (r := (some b)) hC dM_set_32 rfl 0 rfl ?_
          refine v_iload_n (pc := 33) (i := 3) (x := a3) hC dM_set_33 rfl 3 rfl ?_
          refine v_callV (pc := 34) (r := (some b)) (As := [.int a3]) (rest := []) (k' := 0) (n' := 0) (st1 := (fun yq => [.int yq])) hC dM_set_34 q538 q540 p18 q7 q541 ykM_noByte rfl rfl (fun bq rq wq hq => mM_noByte _ _ bq a3 _ rq wq hq) (by rw [hR]; decide) (by simp only [List.map_cons, List.map_nil, va_cat]; exact Nat.le_of_ble_eq_true rfl) (by decide) (by rw [hR]; decide) hf rfl (fun _ => rfl) (fun x8 w9 hf => ?_)
          refine v_if_eq (pc := 37) (tgt := 42) hC dM_set_37 (by decide) hf (fun hf => ?_) (fun hf => ?_)
          · refine v_aload_n (pc := 42) (i := 0) (r := (some b)) hC dM_set_42 rfl 0 rfl ?_
            refine v_getI (pc := 43) (r := (some b)) hC dM_set_43 inM rfl 15 (by decide) q490 (Or.inl rfl) hf (fun x11 hf => ?_)
            refine v_if_eq (pc := 46) (tgt := 61) hC dM_set_46 (by decide) hf (fun hf => ?_) (fun hf => ?_)
            · exact V.sub [0, 1, 2, 3] rfl (tM_set_b61 hC hE hR  _ _ _ _ hf)
            · refine v_aload_n (pc := 49) (i := 0) (r := (some b)) hC dM_set_49 rfl 0 rfl ?_
              refine v_getQ (pc := 50) (r := (some b)) hC dM_set_50 inM rfl 0 (by decide) q475 (Or.inl rfl) hf (fun r12 hf => ?_)
              refine v_iload_n (pc := 53) (i := 1) (x := a1) hC dM_set_53 rfl 1 rfl ?_
              refine v_iald (pc := 54) hC dM_set_54 hf (fun x13 hf => ?_)
              refine v_if_ne (pc := 55) (tgt := 61) hC dM_set_55 (by decide) hf (fun hf => ?_) (fun hf => ?_)
              · exact V.sub [0, 1, 2, 3] rfl (tM_set_b61 hC hE hR  _ _ _ _ hf)
              · refine v_bipush (pc := 58) (v := (-3 : Int32)) hC dM_set_58 (by decide) ?_
                exact v_iret (pc := 60) hC hE dM_set_60 (by rw [hR]; decide) (by rw [hR]; decide) hf
          · refine v_iconst (pc := 40) (v := (-1 : Int32)) hC dM_set_40 (by decide) ?_
            exact v_iret (pc := 41) hC hE dM_set_41 (by rw [hR]; decide) (by rw [hR]; decide) hf
theorem mM_set (l : Launch) (G : cG) (b : Nat) (a1 : Int32) (a2 : Int32) (a3 : Int32) (w : cW) (r : Int32) (w' : cW) (hf : fM_set b a1 a2 a3 w = some (r, w')) : Met l yM_set (wsM yM_set prog_7_method_5_code 4 (some .int)) rmM_set (mP G w [va_rf (some b), .int a1, .int a2, .int a3]) (mQ mkI G w w' r) (rmM_set).cells (rmM_set).slots (Aw w) :=
  met_of (by decide +kernel) rfl (Nat.le_of_ble_eq_true rfl) (fun C hC hR _ _ _ hts hE => tM_set (okC.tbl hC) hE hR a1 a2 a3 w hf)
set_option maxHeartbeats 4000000 in
set_option maxRecDepth 100000 in
theorem tM_lives {C : xC} {G : cG} {w0 w' : cW} {r : Int32} {b : Nat} (hC : okC C prog_7_method_14_code 2 "ArenaNetworkModel" lw_gd) (hE : xE C (some .boolean) mkI G w0 w' r) (hR : xR C = rmM_lives) (a1 : Int32) (w : cW) (hf : fM_lives b a1 w = some (r, w')) : V C w 0 0 0 [(0, va_rf (some b)), (1, .int a1)] [] := by
  unfold fM_lives at hf
  refine v_aload_n (pc := 0) (i := 0) (r := (some b)) hC dM_lives_0 rfl 0 rfl ?_
  refine v_iload_n (pc := 1) (i := 1) (x := a1) hC dM_lives_1 rfl 1 rfl ?_
  refine v_callV (pc := 2) (r := (some b)) (As := [.int a1]) (rest := []) (k' := 0) (n' := 0) (st1 := (fun yq => [.int yq])) hC dM_lives_2 q546 q548 p19 q7 q549 ykM_noTensor rfl rfl (fun bq rq wq hq => mM_noTensor _ _ bq a1 _ rq wq hq) (by rw [hR]; decide) (by simp only [List.map_cons, List.map_nil, va_cat]; exact Nat.le_of_ble_eq_true rfl) (by decide) (by rw [hR]; decide) hf rfl (fun _ => rfl) (fun x1 w2 hf => ?_)
  refine v_if_ne (pc := 5) (tgt := 51) hC dM_lives_5 (by decide) hf (fun hf => ?_) (fun hf => ?_)
  · refine v_iconst (pc := 51) (v := (0 : Int32)) hC dM_lives_51 (by decide) ?_
    exact v_zret (pc := 52) hC hE dM_lives_52 (by rw [hR]; decide) (by rw [hR]; decide) (by rw [if_pos (by decide)]; exact hf)
  · refine v_aload_n (pc := 8) (i := 0) (r := (some b)) hC dM_lives_8 rfl 0 rfl ?_
    refine v_getI (pc := 9) (r := (some b)) hC dM_lives_9 inM rfl 15 (by decide) q490 (Or.inl rfl) hf (fun x4 hf => ?_)
    refine v_if_eq (pc := 12) (tgt := 51) hC dM_lives_12 (by decide) hf (fun hf => ?_) (fun hf => ?_)
    · refine v_iconst (pc := 51) (v := (0 : Int32)) hC dM_lives_51 (by decide) ?_
      exact v_zret (pc := 52) hC hE dM_lives_52 (by rw [hR]; decide) (by rw [hR]; decide) (by rw [if_pos (by decide)]; exact hf)
    · refine v_aload_n (pc := 15) (i := 0) (r := (some b)) hC dM_lives_15 rfl 0 rfl ?_
      refine v_getQ (pc := 16) (r := (some b)) hC dM_lives_16 inM rfl 0 (by decide) q475 (Or.inl rfl) hf (fun r5 hf => ?_)
      refine v_iload_n (pc := 19) (i := 1) (x := a1) hC dM_lives_19 rfl 1 rfl ?_
      refine v_iald (pc := 20) hC dM_lives_20 hf (fun x6 hf => ?_)
      refine v_iconst (pc := 21) (v := (1 : Int32)) hC dM_lives_21 (by decide) ?_
      refine v_icmp_eq (pc := 22) (tgt := 47) hC dM_lives_22 (by decide) hf (fun hf => ?_) (fun hf => ?_)
      · refine v_iconst (pc := 47) (v := (1 : Int32)) hC dM_lives_47 (by decide) ?_
        refine v_goto (pc := 48) (tgt := 52) hC dM_lives_48 (by decide) ?_
        exact v_zret (pc := 52) hC hE dM_lives_52 (by rw [hR]; decide) (by rw [hR]; decide) (by rw [if_pos (by decide)]; exact hf)
      · refine v_aload_n (pc := 25) (i := 0) (r := (some b)) hC dM_lives_25 rfl 0 rfl ?_
        refine v_getQ (pc := 26) (r := (some b)) hC dM_lives_26 inM rfl 0 (by decide) q475 (Or.inl rfl) hf (fun r7 hf => ?_)
        refine v_iload_n (pc := 29) (i := 1) (x := a1) hC dM_lives_29 rfl 1 rfl ?_
        refine v_iald (pc := 30) hC dM_lives_30 hf (fun x8 hf => ?_)
        refine v_iconst (pc := 31) (v := (2 : Int32)) hC dM_lives_31 (by decide) ?_
        refine v_icmp_ne (pc := 32) (tgt := 51) hC dM_lives_32 (by decide) hf (fun hf => ?_) (fun hf => ?_)
        · refine v_iconst (pc := 51) (v := (0 : Int32)) hC dM_lives_51 (by decide) ?_
          exact v_zret (pc := 52) hC hE dM_lives_52 (by rw [hR]; decide) (by rw [hR]; decide) (by rw [if_pos (by decide)]; exact hf)
        · refine v_aload_n (pc := 35) (i := 0) (r := (some b)) hC dM_lives_35 rfl 0 rfl ?_
          refine v_iload_n (pc := 36) (i := 1) (x := a1) hC dM_lives_36 rfl 1 rfl ?_
          refine v_aload_n (pc := 37) (i := 0) (r := (some b)) hC dM_lives_37 rfl 0 rfl ?_
          refine v_getI (pc := 38) (r := (some b)) hC dM_lives_38 inM rfl 14 (by decide) q489 (Or.inl rfl) hf (fun x9 hf => ?_)
          refine v_callV (pc := 41) (r := (some b)) (As := [.int a1, .int x9]) (rest := []) (k' := 0) (n' := 0) (st1 := (fun yq => [.int yq])) hC dM_lives_41 q570 q572 p21 q7 q573 ykM_maker rfl rfl (fun bq rq wq hq => mM_maker _ _ bq a1 x9 _ rq wq hq) (by rw [hR]; decide) (by simp only [List.map_cons, List.map_nil, va_cat]; exact Nat.le_of_ble_eq_true rfl) (by decide) (by rw [hR]; decide) hf rfl (fun _ => rfl) (fun x10 w11 hf => ?_)
          refine v_if_lt (pc := 44) (tgt := 51) hC dM_lives_44 (by decide) hf (fun hf => ?_) (fun hf => ?_)
          · refine v_iconst (pc := 51) (v := (0 : Int32)) hC dM_lives_51 (by decide) ?_
            exact v_zret (pc := 52) hC hE dM_lives_52 (by rw [hR]; decide) (by rw [hR]; decide) (by rw [if_pos (by decide)]; exact hf)
          · refine v_iconst (pc := 47) (v := (1 : Int32)) hC dM_lives_47 (by decide) ?_
            refine v_goto (pc := 48) (tgt := 52) hC dM_lives_48 (by decide) ?_
            exact v_zret (pc := 52) hC hE dM_lives_52 (by rw [hR]; decide) (by rw [hR]; decide) (by rw [if_pos (by decide)]; exact hf)
theorem mM_lives (l : Launch) (G : cG) (b : Nat) (a1 : Int32) (w : cW) (r : Int32) (w' : cW) (hf : fM_lives b a1 w = some (r, w')) : Met l yM_lives (wsM yM_lives prog_7_method_14_code 2 (some .boolean)) rmM_lives (mP G w [va_rf (some b), .int a1]) (mQ mkI G w w' r) (rmM_lives).cells (rmM_lives).slots (Aw w) :=
  met_of (by decide +kernel) rfl (Nat.le_of_ble_eq_true rfl) (fun C hC hR _ _ _ hts hE => tM_lives (okC.tbl hC) hE hR a1 w hf)
set_option maxHeartbeats 4000000 in
set_option maxRecDepth 100000 in
theorem tM_fault {C : xC} {G : cG} {w0 w' : cW} {r : Int32} {b : Nat} (hC : okC C prog_7_method_12_code 2 "ArenaNetworkModel" lw_gd) (hE : xE C (some .int) mkI G w0 w' r) (hR : xR C = rmM_fault) (a1 : Int32) (w : cW) (hf : fM_fault b a1 w = some (r, w')) : V C w 0 0 0 [(0, va_rf (some b)), (1, .int a1)] [] := by
  unfold fM_fault at hf
  refine v_aload_n (pc := 0) (i := 0) (r := (some b)) hC dM_fault_0 rfl 0 rfl ?_
  refine v_getQ (pc := 1) (r := (some b)) hC dM_fault_1 inM rfl 0 (by decide) q475 (Or.inl rfl) hf (fun r1 hf => ?_)
  refine v_aload_n (pc := 4) (i := 0) (r := (some b)) hC dM_fault_4 rfl 0 rfl ?_
  refine v_getQ (pc := 5) (r := (some b)) hC dM_fault_5 inM rfl 12 (by decide) q487 (Or.inl rfl) hf (fun r2 hf => ?_)
  refine v_iload_n (pc := 8) (i := 1) (x := a1) hC dM_fault_8 rfl 1 rfl ?_
  refine v_iald (pc := 9) hC dM_fault_9 hf (fun x3 hf => ?_)
  refine v_iald (pc := 10) hC dM_fault_10 hf (fun x4 hf => ?_)
  refine v_iconst (pc := 11) (v := (2 : Int32)) hC dM_fault_11 (by decide) ?_
  refine v_icmp_ne (pc := 12) (tgt := 29) hC dM_fault_12 (by decide) hf (fun hf => ?_) (fun hf => ?_)
  · refine v_iconst (pc := 29) (v := (1 : Int32)) hC dM_fault_29 (by decide) ?_
    exact v_iret (pc := 30) hC hE dM_fault_30 (by rw [hR]; decide) (by rw [hR]; decide) hf
  · refine v_aload_n (pc := 15) (i := 0) (r := (some b)) hC dM_fault_15 rfl 0 rfl ?_
    refine v_aload_n (pc := 16) (i := 0) (r := (some b)) hC dM_fault_16 rfl 0 rfl ?_
    refine v_getQ (pc := 17) (r := (some b)) hC dM_fault_17 inM rfl 12 (by decide) q487 (Or.inl rfl) hf (fun r5 hf => ?_)
    refine v_iload_n (pc := 20) (i := 1) (x := a1) hC dM_fault_20 rfl 1 rfl ?_
    refine v_iald (pc := 21) hC dM_fault_21 hf (fun x6 hf => ?_)
    refine v_iload_n (pc := 22) (i := 1) (x := a1) hC dM_fault_22 rfl 1 rfl ?_
    refine v_callV (pc := 23) (r := (some b)) (As := [.int x6, .int a1]) (rest := []) (k' := 0) (n' := 0) (st1 := (fun yq => [.int yq])) hC dM_fault_23 q570 q572 p21 q7 q573 ykM_maker rfl rfl (fun bq rq wq hq => mM_maker _ _ bq x6 a1 _ rq wq hq) (by rw [hR]; decide) (by simp only [List.map_cons, List.map_nil, va_cat]; exact Nat.le_of_ble_eq_true rfl) (by decide) (by rw [hR]; decide) hf rfl (fun _ => rfl) (fun x7 w8 hf => ?_)
    refine v_if_lt (pc := 26) (tgt := 31) hC dM_fault_26 (by decide) hf (fun hf => ?_) (fun hf => ?_)
    · refine v_aload_n (pc := 31) (i := 0) (r := (some b)) hC dM_fault_31 rfl 0 rfl ?_
      refine v_aload_n (pc := 32) (i := 0) (r := (some b)) hC dM_fault_32 rfl 0 rfl ?_
      refine v_getQ (pc := 33) (r := (some b)) hC dM_fault_33 inM rfl 10 (by decide) q485 (Or.inl rfl) hf (fun r10 hf => ?_)
      refine v_iload_n (pc := 36) (i := 1) (x := a1) hC dM_fault_36 rfl 1 rfl ?_
      refine v_iald (pc := 37) hC dM_fault_37 hf (fun x11 hf => ?_)
      refine v_iload_n (pc := 38) (i := 1) (x := a1) hC dM_fault_38 rfl 1 rfl ?_
      refine v_callV (pc := 39) (r := (some b)) (As := [.int x11, .int a1]) (rest := []) (k' := 0) (n' := 0) (st1 := (fun yq => [.int yq])) hC dM_fault_39 q582 q584 p23 q7 q585 ykM_unmade rfl rfl (fun bq rq wq hq => mM_unmade _ _ bq x11 a1 _ rq wq hq) (by rw [hR]; decide) (by simp only [List.map_cons, List.map_nil, va_cat]; exact Nat.le_of_ble_eq_true rfl) (by decide) (by rw [hR]; decide) hf rfl (fun _ => rfl) (fun x12 w13 hf => ?_)
      refine v_if_ne (pc := 42) (tgt := 59) hC dM_fault_42 (by decide) hf (fun hf => ?_) (fun hf => ?_)
      · refine v_iconst (pc := 59) (v := (2 : Int32)) hC dM_fault_59 (by decide) ?_
        exact v_iret (pc := 60) hC hE dM_fault_60 (by rw [hR]; decide) (by rw [hR]; decide) hf
      · refine v_aload_n (pc := 45) (i := 0) (r := (some b)) hC dM_fault_45 rfl 0 rfl ?_
        refine v_aload_n (pc := 46) (i := 0) (r := (some b)) hC dM_fault_46 rfl 0 rfl ?_
        refine v_getQ (pc := 47) (r := (some b)) hC dM_fault_47 inM rfl 11 (by decide) q486 (Or.inl rfl) hf (fun r15 hf => ?_)
        refine v_iload_n (pc := 50) (i := 1) (x := a1) hC dM_fault_50 rfl 1 rfl ?_
        refine v_iald (pc := 51) hC dM_fault_51 hf (fun x16 hf => ?_)
        refine v_iload_n (pc := 52) (i := 1) (x := a1) hC dM_fault_52 rfl 1 rfl ?_
        refine v_callV (pc := 53) (r := (some b)) (As := [.int x16, .int a1]) (rest := []) (k' := 0) (n' := 0) (st1 := (fun yq => [.int yq])) hC dM_fault_53 q582 q584 p23 q7 q585 ykM_unmade rfl rfl (fun bq rq wq hq => mM_unmade _ _ bq x16 a1 _ rq wq hq) (by rw [hR]; decide) (by simp only [List.map_cons, List.map_nil, va_cat]; exact Nat.le_of_ble_eq_true rfl) (by decide) (by rw [hR]; decide) hf rfl (fun _ => rfl) (fun x17 w18 hf => ?_)
        refine v_if_eq (pc := 56) (tgt := 61) hC dM_fault_56 (by decide) hf (fun hf => ?_) (fun hf => ?_)
        · refine v_aload_n (pc := 61) (i := 0) (r := (some b)) hC dM_fault_61 rfl 0 rfl ?_
          refine v_iload_n (pc := 62) (i := 1) (x := a1) hC dM_fault_62 rfl 1 rfl ?_
          refine v_callV (pc := 63) (r := (some b)) (As := [.int a1]) (rest := []) (k' := 0) (n' := 0) (st1 := (fun yq => [.int yq])) hC dM_fault_63 q586 q588 p24 q7 q589 ykM_fits rfl rfl (fun bq rq wq hq => mM_fits _ _ bq a1 _ rq wq hq) (by rw [hR]; decide) (by simp only [List.map_cons, List.map_nil, va_cat]; exact Nat.le_of_ble_eq_true rfl) (by decide) (by rw [hR]; decide) hf rfl (fun _ => rfl) (fun x20 w21 hf => ?_)
          refine v_if_eq (pc := 66) (tgt := 73) hC dM_fault_66 (by decide) hf (fun hf => ?_) (fun hf => ?_)
          · refine v_iconst (pc := 73) (v := (3 : Int32)) hC dM_fault_73 (by decide) ?_
            exact v_iret (pc := 74) hC hE dM_fault_74 (by rw [hR]; decide) (by rw [hR]; decide) hf
          · refine v_iconst (pc := 69) (v := (0 : Int32)) hC dM_fault_69 (by decide) ?_
            refine v_goto (pc := 70) (tgt := 74) hC dM_fault_70 (by decide) ?_
            exact v_iret (pc := 74) hC hE dM_fault_74 (by rw [hR]; decide) (by rw [hR]; decide) hf
        · refine v_iconst (pc := 59) (v := (2 : Int32)) hC dM_fault_59 (by decide) ?_
          exact v_iret (pc := 60) hC hE dM_fault_60 (by rw [hR]; decide) (by rw [hR]; decide) hf
    · refine v_iconst (pc := 29) (v := (1 : Int32)) hC dM_fault_29 (by decide) ?_
      exact v_iret (pc := 30) hC hE dM_fault_30 (by rw [hR]; decide) (by rw [hR]; decide) hf
theorem mM_fault (l : Launch) (G : cG) (b : Nat) (a1 : Int32) (w : cW) (r : Int32) (w' : cW) (hf : fM_fault b a1 w = some (r, w')) : Met l yM_fault (wsM yM_fault prog_7_method_12_code 2 (some .int)) rmM_fault (mP G w [va_rf (some b), .int a1]) (mQ mkI G w w' r) (rmM_fault).cells (rmM_fault).slots (Aw w) :=
  met_of (by decide +kernel) rfl (Nat.le_of_ble_eq_true rfl) (fun C hC hR _ _ _ hts hE => tM_fault (okC.tbl hC) hE hR a1 w hf)
