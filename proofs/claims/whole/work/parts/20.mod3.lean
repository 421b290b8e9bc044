abbrev yM_apart : MethodName := ⟨"ArenaNetworkModel", "apart", "(III)Z"⟩
abbrev rmM_apart : Room := { frames := 3, cells := 0, slots := 0, locals := 67 }
theorem ykM_apart : yOk yM_apart 3 := by decide +kernel
theorem dM_apart_0 : decode prog_7_method_17_code 0 = .ok (.iconst (0), 1) := by decide +kernel
theorem dM_apart_1 : decode prog_7_method_17_code 1 = .ok (.istore 4, 2) := by decide +kernel
theorem dM_apart_3 : decode prog_7_method_17_code 3 = .ok (.iload 4, 2) := by decide +kernel
theorem dM_apart_5 : decode prog_7_method_17_code 5 = .ok (.iload_n 3, 1) := by decide +kernel
theorem dM_apart_6 : decode prog_7_method_17_code 6 = .ok (.if_icmp .ge (97), 3) := by decide +kernel
theorem dM_apart_9 : decode prog_7_method_17_code 9 = .ok (.aload_n 0, 1) := by decide +kernel
theorem dM_apart_10 : decode prog_7_method_17_code 10 = .ok (.getfield 53, 3) := by decide +kernel
theorem dM_apart_13 : decode prog_7_method_17_code 13 = .ok (.iload 4, 2) := by decide +kernel
theorem dM_apart_15 : decode prog_7_method_17_code 15 = .ok (.iaload, 1) := by decide +kernel
theorem dM_apart_16 : decode prog_7_method_17_code 16 = .ok (.istore 5, 2) := by decide +kernel
theorem dM_apart_18 : decode prog_7_method_17_code 18 = .ok (.aload_n 0, 1) := by decide +kernel
theorem dM_apart_19 : decode prog_7_method_17_code 19 = .ok (.iload_n 1, 1) := by decide +kernel
theorem dM_apart_20 : decode prog_7_method_17_code 20 = .ok (.invokevirtual 89, 3) := by decide +kernel
theorem dM_apart_23 : decode prog_7_method_17_code 23 = .ok (.aload_n 0, 1) := by decide +kernel
theorem dM_apart_24 : decode prog_7_method_17_code 24 = .ok (.iload 5, 2) := by decide +kernel
theorem dM_apart_26 : decode prog_7_method_17_code 26 = .ok (.invokevirtual 96, 3) := by decide +kernel
theorem dM_apart_29 : decode prog_7_method_17_code 29 = .ok (.if_icmp .gt (21), 3) := by decide +kernel
theorem dM_apart_32 : decode prog_7_method_17_code 32 = .ok (.aload_n 0, 1) := by decide +kernel
theorem dM_apart_33 : decode prog_7_method_17_code 33 = .ok (.iload 5, 2) := by decide +kernel
theorem dM_apart_35 : decode prog_7_method_17_code 35 = .ok (.invokevirtual 89, 3) := by decide +kernel
theorem dM_apart_38 : decode prog_7_method_17_code 38 = .ok (.aload_n 0, 1) := by decide +kernel
theorem dM_apart_39 : decode prog_7_method_17_code 39 = .ok (.iload_n 1, 1) := by decide +kernel
theorem dM_apart_40 : decode prog_7_method_17_code 40 = .ok (.invokevirtual 96, 3) := by decide +kernel
theorem dM_apart_43 : decode prog_7_method_17_code 43 = .ok (.if_icmp .gt (7), 3) := by decide +kernel
theorem dM_apart_46 : decode prog_7_method_17_code 46 = .ok (.iconst (1), 1) := by decide +kernel
theorem dM_apart_47 : decode prog_7_method_17_code 47 = .ok (.goto (4), 3) := by decide +kernel
theorem dM_apart_50 : decode prog_7_method_17_code 50 = .ok (.iconst (0), 1) := by decide +kernel
theorem dM_apart_51 : decode prog_7_method_17_code 51 = .ok (.istore 6, 2) := by decide +kernel
theorem dM_apart_53 : decode prog_7_method_17_code 53 = .ok (.iload 6, 2) := by decide +kernel
theorem dM_apart_55 : decode prog_7_method_17_code 55 = .ok (.ifCond .eq (42), 3) := by decide +kernel
theorem dM_apart_58 : decode prog_7_method_17_code 58 = .ok (.iload_n 2, 1) := by decide +kernel
theorem dM_apart_59 : decode prog_7_method_17_code 59 = .ok (.aload_n 0, 1) := by decide +kernel
theorem dM_apart_60 : decode prog_7_method_17_code 60 = .ok (.getfield 50, 3) := by decide +kernel
theorem dM_apart_63 : decode prog_7_method_17_code 63 = .ok (.iload 5, 2) := by decide +kernel
theorem dM_apart_65 : decode prog_7_method_17_code 65 = .ok (.iaload, 1) := by decide +kernel
theorem dM_apart_66 : decode prog_7_method_17_code 66 = .ok (.aload_n 0, 1) := by decide +kernel
theorem dM_apart_67 : decode prog_7_method_17_code 67 = .ok (.getfield 13, 3) := by decide +kernel
theorem dM_apart_70 : decode prog_7_method_17_code 70 = .ok (.iload 5, 2) := by decide +kernel
theorem dM_apart_72 : decode prog_7_method_17_code 72 = .ok (.iaload, 1) := by decide +kernel
theorem dM_apart_73 : decode prog_7_method_17_code 73 = .ok (.iadd, 1) := by decide +kernel
theorem dM_apart_74 : decode prog_7_method_17_code 74 = .ok (.if_icmp .ge (23), 3) := by decide +kernel
theorem dM_apart_77 : decode prog_7_method_17_code 77 = .ok (.aload_n 0, 1) := by decide +kernel
theorem dM_apart_78 : decode prog_7_method_17_code 78 = .ok (.getfield 50, 3) := by decide +kernel
theorem dM_apart_81 : decode prog_7_method_17_code 81 = .ok (.iload 5, 2) := by decide +kernel
theorem dM_apart_83 : decode prog_7_method_17_code 83 = .ok (.iaload, 1) := by decide +kernel
theorem dM_apart_84 : decode prog_7_method_17_code 84 = .ok (.iload_n 2, 1) := by decide +kernel
theorem dM_apart_85 : decode prog_7_method_17_code 85 = .ok (.aload_n 0, 1) := by decide +kernel
theorem dM_apart_86 : decode prog_7_method_17_code 86 = .ok (.getfield 13, 3) := by decide +kernel
theorem dM_apart_89 : decode prog_7_method_17_code 89 = .ok (.iload_n 1, 1) := by decide +kernel
theorem dM_apart_90 : decode prog_7_method_17_code 90 = .ok (.iaload, 1) := by decide +kernel
theorem dM_apart_91 : decode prog_7_method_17_code 91 = .ok (.iadd, 1) := by decide +kernel
theorem dM_apart_92 : decode prog_7_method_17_code 92 = .ok (.if_icmp .ge (5), 3) := by decide +kernel
theorem dM_apart_95 : decode prog_7_method_17_code 95 = .ok (.iconst (0), 1) := by decide +kernel
theorem dM_apart_96 : decode prog_7_method_17_code 96 = .ok (.ireturn, 1) := by decide +kernel
theorem dM_apart_97 : decode prog_7_method_17_code 97 = .ok (.iinc 4 (1), 3) := by decide +kernel
theorem dM_apart_100 : decode prog_7_method_17_code 100 = .ok (.goto (-97), 3) := by decide +kernel
theorem dM_apart_103 : decode prog_7_method_17_code 103 = .ok (.iconst (1), 1) := by decide +kernel
theorem dM_apart_104 : decode prog_7_method_17_code 104 = .ok (.ireturn, 1) := by decide +kernel
abbrev yM_arena : MethodName := ⟨"ArenaNetworkModel", "arena", "()I"⟩
abbrev rmM_arena : Room := { frames := 2, cells := 0, slots := 0, locals := 44 }
theorem ykM_arena : yOk yM_arena 0 := by decide +kernel
theorem dM_arena_0 : decode prog_7_method_18_code 0 = .ok (.iconst (0), 1) := by decide +kernel
theorem dM_arena_1 : decode prog_7_method_18_code 1 = .ok (.istore_n 1, 1) := by decide +kernel
theorem dM_arena_2 : decode prog_7_method_18_code 2 = .ok (.iconst (0), 1) := by decide +kernel
theorem dM_arena_3 : decode prog_7_method_18_code 3 = .ok (.istore_n 2, 1) := by decide +kernel
theorem dM_arena_4 : decode prog_7_method_18_code 4 = .ok (.iload_n 2, 1) := by decide +kernel
theorem dM_arena_5 : decode prog_7_method_18_code 5 = .ok (.aload_n 0, 1) := by decide +kernel
theorem dM_arena_6 : decode prog_7_method_18_code 6 = .ok (.getfield 61, 3) := by decide +kernel
theorem dM_arena_9 : decode prog_7_method_18_code 9 = .ok (.if_icmp .ge (48), 3) := by decide +kernel
theorem dM_arena_12 : decode prog_7_method_18_code 12 = .ok (.aload_n 0, 1) := by decide +kernel
theorem dM_arena_13 : decode prog_7_method_18_code 13 = .ok (.iload_n 2, 1) := by decide +kernel
theorem dM_arena_14 : decode prog_7_method_18_code 14 = .ok (.invokevirtual 93, 3) := by decide +kernel
theorem dM_arena_17 : decode prog_7_method_18_code 17 = .ok (.ifCond .eq (34), 3) := by decide +kernel
theorem dM_arena_20 : decode prog_7_method_18_code 20 = .ok (.aload_n 0, 1) := by decide +kernel
theorem dM_arena_21 : decode prog_7_method_18_code 21 = .ok (.getfield 50, 3) := by decide +kernel
theorem dM_arena_24 : decode prog_7_method_18_code 24 = .ok (.iload_n 2, 1) := by decide +kernel
theorem dM_arena_25 : decode prog_7_method_18_code 25 = .ok (.iaload, 1) := by decide +kernel
theorem dM_arena_26 : decode prog_7_method_18_code 26 = .ok (.aload_n 0, 1) := by decide +kernel
theorem dM_arena_27 : decode prog_7_method_18_code 27 = .ok (.getfield 13, 3) := by decide +kernel
theorem dM_arena_30 : decode prog_7_method_18_code 30 = .ok (.iload_n 2, 1) := by decide +kernel
theorem dM_arena_31 : decode prog_7_method_18_code 31 = .ok (.iaload, 1) := by decide +kernel
theorem dM_arena_32 : decode prog_7_method_18_code 32 = .ok (.iadd, 1) := by decide +kernel
theorem dM_arena_33 : decode prog_7_method_18_code 33 = .ok (.iload_n 1, 1) := by decide +kernel
theorem dM_arena_34 : decode prog_7_method_18_code 34 = .ok (.if_icmp .le (17), 3) := by decide +kernel
theorem dM_arena_37 : decode prog_7_method_18_code 37 = .ok (.aload_n 0, 1) := by decide +kernel
theorem dM_arena_38 : decode prog_7_method_18_code 38 = .ok (.getfield 50, 3) := by decide +kernel
theorem dM_arena_41 : decode prog_7_method_18_code 41 = .ok (.iload_n 2, 1) := by decide +kernel
theorem dM_arena_42 : decode prog_7_method_18_code 42 = .ok (.iaload, 1) := by decide +kernel
theorem dM_arena_43 : decode prog_7_method_18_code 43 = .ok (.aload_n 0, 1) := by decide +kernel
theorem dM_arena_44 : decode prog_7_method_18_code 44 = .ok (.getfield 13, 3) := by decide +kernel
theorem dM_arena_47 : decode prog_7_method_18_code 47 = .ok (.iload_n 2, 1) := by decide +kernel
theorem dM_arena_48 : decode prog_7_method_18_code 48 = .ok (.iaload, 1) := by decide +kernel
theorem dM_arena_49 : decode prog_7_method_18_code 49 = .ok (.iadd, 1) := by decide +kernel
theorem dM_arena_50 : decode prog_7_method_18_code 50 = .ok (.istore_n 1, 1) := by decide +kernel
theorem dM_arena_51 : decode prog_7_method_18_code 51 = .ok (.iinc 2 (1), 3) := by decide +kernel
theorem dM_arena_54 : decode prog_7_method_18_code 54 = .ok (.goto (-50), 3) := by decide +kernel
theorem dM_arena_57 : decode prog_7_method_18_code 57 = .ok (.iload_n 1, 1) := by decide +kernel
theorem dM_arena_58 : decode prog_7_method_18_code 58 = .ok (.ireturn, 1) := by decide +kernel
abbrev yM_scaling : MethodName := ⟨"ArenaNetworkModel", "scaling", "(II)I"⟩
abbrev rmM_scaling : Room := { frames := 1, cells := 0, slots := 0, locals := 28 }
theorem ykM_scaling : yOk yM_scaling 2 := by decide +kernel
theorem dM_scaling_0 : decode prog_7_method_23_code 0 = .ok (.aload_n 0, 1) := by decide +kernel
theorem dM_scaling_1 : decode prog_7_method_23_code 1 = .ok (.iload_n 2, 1) := by decide +kernel
theorem dM_scaling_2 : decode prog_7_method_23_code 2 = .ok (.i2l, 1) := by decide +kernel
theorem dM_scaling_3 : decode prog_7_method_23_code 3 = .ok (.aload_n 0, 1) := by decide +kernel
theorem dM_scaling_4 : decode prog_7_method_23_code 4 = .ok (.getfield 29, 3) := by decide +kernel
theorem dM_scaling_7 : decode prog_7_method_23_code 7 = .ok (.iload_n 1, 1) := by decide +kernel
theorem dM_scaling_8 : decode prog_7_method_23_code 8 = .ok (.iaload, 1) := by decide +kernel
theorem dM_scaling_9 : decode prog_7_method_23_code 9 = .ok (.i2l, 1) := by decide +kernel
theorem dM_scaling_10 : decode prog_7_method_23_code 10 = .ok (.lmul, 1) := by decide +kernel
theorem dM_scaling_11 : decode prog_7_method_23_code 11 = .ok (.ldc2_w 115, 3) := by decide +kernel
theorem dM_scaling_14 : decode prog_7_method_23_code 14 = .ok (.invokevirtual 117, 3) := by decide +kernel
theorem dM_scaling_17 : decode prog_7_method_23_code 17 = .ok (.lstore_n 3, 1) := by decide +kernel
theorem dM_scaling_18 : decode prog_7_method_23_code 18 = .ok (.aload_n 0, 1) := by decide +kernel
theorem dM_scaling_19 : decode prog_7_method_23_code 19 = .ok (.lload_n 3, 1) := by decide +kernel
theorem dM_scaling_20 : decode prog_7_method_23_code 20 = .ok (.lconst 1, 1) := by decide +kernel
theorem dM_scaling_21 : decode prog_7_method_23_code 21 = .ok (.aload_n 0, 1) := by decide +kernel
theorem dM_scaling_22 : decode prog_7_method_23_code 22 = .ok (.getfield 32, 3) := by decide +kernel
theorem dM_scaling_25 : decode prog_7_method_23_code 25 = .ok (.iload_n 1, 1) := by decide +kernel
theorem dM_scaling_26 : decode prog_7_method_23_code 26 = .ok (.iaload, 1) := by decide +kernel
theorem dM_scaling_27 : decode prog_7_method_23_code 27 = .ok (.lshl, 1) := by decide +kernel
theorem dM_scaling_28 : decode prog_7_method_23_code 28 = .ok (.invokevirtual 117, 3) := by decide +kernel
theorem dM_scaling_31 : decode prog_7_method_23_code 31 = .ok (.l2i, 1) := by decide +kernel
theorem dM_scaling_32 : decode prog_7_method_23_code 32 = .ok (.ireturn, 1) := by decide +kernel
abbrev yM_cell : MethodName := ⟨"ArenaNetworkModel", "cell", "(II)I"⟩
abbrev rmM_cell : Room := { frames := 3, cells := 0, slots := 0, locals := 67 }
theorem ykM_cell : yOk yM_cell 2 := by decide +kernel
theorem dM_cell_0 : decode prog_7_method_30_code 0 = .ok (.aload_n 0, 1) := by decide +kernel
theorem dM_cell_1 : decode prog_7_method_30_code 1 = .ok (.iload_n 1, 1) := by decide +kernel
theorem dM_cell_2 : decode prog_7_method_30_code 2 = .ok (.invokevirtual 72, 3) := by decide +kernel
theorem dM_cell_5 : decode prog_7_method_30_code 5 = .ok (.ifCond .ne (17), 3) := by decide +kernel
theorem dM_cell_8 : decode prog_7_method_30_code 8 = .ok (.iload_n 2, 1) := by decide +kernel
theorem dM_cell_9 : decode prog_7_method_30_code 9 = .ok (.ifCond .lt (13), 3) := by decide +kernel
theorem dM_cell_12 : decode prog_7_method_30_code 12 = .ok (.iload_n 2, 1) := by decide +kernel
theorem dM_cell_13 : decode prog_7_method_30_code 13 = .ok (.aload_n 0, 1) := by decide +kernel
theorem dM_cell_14 : decode prog_7_method_30_code 14 = .ok (.getfield 13, 3) := by decide +kernel
theorem dM_cell_17 : decode prog_7_method_30_code 17 = .ok (.iload_n 1, 1) := by decide +kernel
theorem dM_cell_18 : decode prog_7_method_30_code 18 = .ok (.iaload, 1) := by decide +kernel
theorem dM_cell_19 : decode prog_7_method_30_code 19 = .ok (.if_icmp .lt (7), 3) := by decide +kernel
theorem dM_cell_22 : decode prog_7_method_30_code 22 = .ok (.sipush (-1000), 3) := by decide +kernel
theorem dM_cell_25 : decode prog_7_method_30_code 25 = .ok (.ireturn, 1) := by decide +kernel
theorem dM_cell_26 : decode prog_7_method_30_code 26 = .ok (.aload_n 0, 1) := by decide +kernel
theorem dM_cell_27 : decode prog_7_method_30_code 27 = .ok (.getfield 7, 3) := by decide +kernel
theorem dM_cell_30 : decode prog_7_method_30_code 30 = .ok (.iload_n 1, 1) := by decide +kernel
theorem dM_cell_31 : decode prog_7_method_30_code 31 = .ok (.iaload, 1) := by decide +kernel
theorem dM_cell_32 : decode prog_7_method_30_code 32 = .ok (.ifCond .ne (15), 3) := by decide +kernel
theorem dM_cell_35 : decode prog_7_method_30_code 35 = .ok (.aload_n 0, 1) := by decide +kernel
theorem dM_cell_36 : decode prog_7_method_30_code 36 = .ok (.getfield 23, 3) := by decide +kernel
theorem dM_cell_39 : decode prog_7_method_30_code 39 = .ok (.iload_n 1, 1) := by decide +kernel
theorem dM_cell_40 : decode prog_7_method_30_code 40 = .ok (.bipush (64), 2) := by decide +kernel
theorem dM_cell_42 : decode prog_7_method_30_code 42 = .ok (.imul, 1) := by decide +kernel
theorem dM_cell_43 : decode prog_7_method_30_code 43 = .ok (.iload_n 2, 1) := by decide +kernel
theorem dM_cell_44 : decode prog_7_method_30_code 44 = .ok (.iadd, 1) := by decide +kernel
theorem dM_cell_45 : decode prog_7_method_30_code 45 = .ok (.iaload, 1) := by decide +kernel
theorem dM_cell_46 : decode prog_7_method_30_code 46 = .ok (.ireturn, 1) := by decide +kernel
theorem dM_cell_47 : decode prog_7_method_30_code 47 = .ok (.aload_n 0, 1) := by decide +kernel
theorem dM_cell_48 : decode prog_7_method_30_code 48 = .ok (.getfield 56, 3) := by decide +kernel
theorem dM_cell_51 : decode prog_7_method_30_code 51 = .ok (.ifCond .lt (37), 3) := by decide +kernel
theorem dM_cell_54 : decode prog_7_method_30_code 54 = .ok (.aload_n 0, 1) := by decide +kernel
theorem dM_cell_55 : decode prog_7_method_30_code 55 = .ok (.iload_n 1, 1) := by decide +kernel
theorem dM_cell_56 : decode prog_7_method_30_code 56 = .ok (.invokevirtual 93, 3) := by decide +kernel
theorem dM_cell_59 : decode prog_7_method_30_code 59 = .ok (.ifCond .eq (29), 3) := by decide +kernel
theorem dM_cell_62 : decode prog_7_method_30_code 62 = .ok (.aload_n 0, 1) := by decide +kernel
theorem dM_cell_63 : decode prog_7_method_30_code 63 = .ok (.iload_n 1, 1) := by decide +kernel
theorem dM_cell_64 : decode prog_7_method_30_code 64 = .ok (.invokevirtual 89, 3) := by decide +kernel
theorem dM_cell_67 : decode prog_7_method_30_code 67 = .ok (.aload_n 0, 1) := by decide +kernel
theorem dM_cell_68 : decode prog_7_method_30_code 68 = .ok (.getfield 56, 3) := by decide +kernel
theorem dM_cell_71 : decode prog_7_method_30_code 71 = .ok (.if_icmp .ge (17), 3) := by decide +kernel
theorem dM_cell_74 : decode prog_7_method_30_code 74 = .ok (.aload_n 0, 1) := by decide +kernel
theorem dM_cell_75 : decode prog_7_method_30_code 75 = .ok (.iload_n 1, 1) := by decide +kernel
theorem dM_cell_76 : decode prog_7_method_30_code 76 = .ok (.invokevirtual 96, 3) := by decide +kernel
theorem dM_cell_79 : decode prog_7_method_30_code 79 = .ok (.aload_n 0, 1) := by decide +kernel
theorem dM_cell_80 : decode prog_7_method_30_code 80 = .ok (.getfield 56, 3) := by decide +kernel
theorem dM_cell_83 : decode prog_7_method_30_code 83 = .ok (.iconst (1), 1) := by decide +kernel
theorem dM_cell_84 : decode prog_7_method_30_code 84 = .ok (.isub, 1) := by decide +kernel
theorem dM_cell_85 : decode prog_7_method_30_code 85 = .ok (.if_icmp .ge (7), 3) := by decide +kernel
theorem dM_cell_88 : decode prog_7_method_30_code 88 = .ok (.sipush (-1000), 3) := by decide +kernel
theorem dM_cell_91 : decode prog_7_method_30_code 91 = .ok (.ireturn, 1) := by decide +kernel
theorem dM_cell_92 : decode prog_7_method_30_code 92 = .ok (.aload_n 0, 1) := by decide +kernel
theorem dM_cell_93 : decode prog_7_method_30_code 93 = .ok (.getfield 26, 3) := by decide +kernel
theorem dM_cell_96 : decode prog_7_method_30_code 96 = .ok (.iload_n 1, 1) := by decide +kernel
theorem dM_cell_97 : decode prog_7_method_30_code 97 = .ok (.bipush (64), 2) := by decide +kernel
theorem dM_cell_99 : decode prog_7_method_30_code 99 = .ok (.imul, 1) := by decide +kernel
theorem dM_cell_100 : decode prog_7_method_30_code 100 = .ok (.iload_n 2, 1) := by decide +kernel
theorem dM_cell_101 : decode prog_7_method_30_code 101 = .ok (.iadd, 1) := by decide +kernel
theorem dM_cell_102 : decode prog_7_method_30_code 102 = .ok (.iaload, 1) := by decide +kernel
theorem dM_cell_103 : decode prog_7_method_30_code 103 = .ok (.ireturn, 1) := by decide +kernel
abbrev yM_offset : MethodName := ⟨"ArenaNetworkModel", "offset", "(I)I"⟩
abbrev rmM_offset : Room := { frames := 2, cells := 0, slots := 0, locals := 44 }
theorem ykM_offset : yOk yM_offset 1 := by decide +kernel
theorem dM_offset_0 : decode prog_7_method_31_code 0 = .ok (.aload_n 0, 1) := by decide +kernel
theorem dM_offset_1 : decode prog_7_method_31_code 1 = .ok (.iload_n 1, 1) := by decide +kernel
theorem dM_offset_2 : decode prog_7_method_31_code 2 = .ok (.invokevirtual 93, 3) := by decide +kernel
theorem dM_offset_5 : decode prog_7_method_31_code 5 = .ok (.ifCond .eq (12), 3) := by decide +kernel
theorem dM_offset_8 : decode prog_7_method_31_code 8 = .ok (.aload_n 0, 1) := by decide +kernel
theorem dM_offset_9 : decode prog_7_method_31_code 9 = .ok (.getfield 50, 3) := by decide +kernel
theorem dM_offset_12 : decode prog_7_method_31_code 12 = .ok (.iload_n 1, 1) := by decide +kernel
theorem dM_offset_13 : decode prog_7_method_31_code 13 = .ok (.iaload, 1) := by decide +kernel
theorem dM_offset_14 : decode prog_7_method_31_code 14 = .ok (.goto (4), 3) := by decide +kernel
theorem dM_offset_17 : decode prog_7_method_31_code 17 = .ok (.iconst (-1), 1) := by decide +kernel
theorem dM_offset_18 : decode prog_7_method_31_code 18 = .ok (.ireturn, 1) := by decide +kernel
abbrev yM_life : MethodName := ⟨"ArenaNetworkModel", "life", "(IZ)I"⟩
abbrev rmM_life : Room := { frames := 3, cells := 0, slots := 0, locals := 67 }
theorem ykM_life : yOk yM_life 2 := by decide +kernel
theorem dM_life_0 : decode prog_7_method_32_code 0 = .ok (.aload_n 0, 1) := by decide +kernel
theorem dM_life_1 : decode prog_7_method_32_code 1 = .ok (.iload_n 1, 1) := by decide +kernel
theorem dM_life_2 : decode prog_7_method_32_code 2 = .ok (.invokevirtual 93, 3) := by decide +kernel
theorem dM_life_5 : decode prog_7_method_32_code 5 = .ok (.ifCond .ne (7), 3) := by decide +kernel
theorem dM_life_8 : decode prog_7_method_32_code 8 = .ok (.sipush (-1000), 3) := by decide +kernel
theorem dM_life_11 : decode prog_7_method_32_code 11 = .ok (.ireturn, 1) := by decide +kernel
theorem dM_life_12 : decode prog_7_method_32_code 12 = .ok (.iload_n 2, 1) := by decide +kernel
theorem dM_life_13 : decode prog_7_method_32_code 13 = .ok (.ifCond .eq (11), 3) := by decide +kernel
theorem dM_life_16 : decode prog_7_method_32_code 16 = .ok (.aload_n 0, 1) := by decide +kernel
theorem dM_life_17 : decode prog_7_method_32_code 17 = .ok (.iload_n 1, 1) := by decide +kernel
theorem dM_life_18 : decode prog_7_method_32_code 18 = .ok (.invokevirtual 96, 3) := by decide +kernel
theorem dM_life_21 : decode prog_7_method_32_code 21 = .ok (.goto (8), 3) := by decide +kernel
theorem dM_life_24 : decode prog_7_method_32_code 24 = .ok (.aload_n 0, 1) := by decide +kernel
theorem dM_life_25 : decode prog_7_method_32_code 25 = .ok (.iload_n 1, 1) := by decide +kernel
theorem dM_life_26 : decode prog_7_method_32_code 26 = .ok (.invokevirtual 89, 3) := by decide +kernel
theorem dM_life_29 : decode prog_7_method_32_code 29 = .ok (.ireturn, 1) := by decide +kernel
abbrev yM_scaled : MethodName := ⟨"ArenaNetworkModel", "scaled", "(II)I"⟩
abbrev rmM_scaled : Room := { frames := 2, cells := 0, slots := 0, locals := 52 }
theorem ykM_scaled : yOk yM_scaled 2 := by decide +kernel
theorem dM_scaled_0 : decode prog_7_method_33_code 0 = .ok (.iload_n 1, 1) := by decide +kernel
theorem dM_scaled_1 : decode prog_7_method_33_code 1 = .ok (.ifCond .lt (21), 3) := by decide +kernel
theorem dM_scaled_4 : decode prog_7_method_33_code 4 = .ok (.iload_n 1, 1) := by decide +kernel
theorem dM_scaled_5 : decode prog_7_method_33_code 5 = .ok (.bipush (7), 2) := by decide +kernel
theorem dM_scaled_7 : decode prog_7_method_33_code 7 = .ok (.if_icmp .gt (15), 3) := by decide +kernel
theorem dM_scaled_10 : decode prog_7_method_33_code 10 = .ok (.iload_n 2, 1) := by decide +kernel
theorem dM_scaled_11 : decode prog_7_method_33_code 11 = .ok (.ldc 140, 2) := by decide +kernel
theorem dM_scaled_13 : decode prog_7_method_33_code 13 = .ok (.if_icmp .lt (9), 3) := by decide +kernel
theorem dM_scaled_16 : decode prog_7_method_33_code 16 = .ok (.iload_n 2, 1) := by decide +kernel
theorem dM_scaled_17 : decode prog_7_method_33_code 17 = .ok (.ldc 141, 2) := by decide +kernel
theorem dM_scaled_19 : decode prog_7_method_33_code 19 = .ok (.if_icmp .le (7), 3) := by decide +kernel
theorem dM_scaled_22 : decode prog_7_method_33_code 22 = .ok (.iconst (0), 1) := by decide +kernel
theorem dM_scaled_23 : decode prog_7_method_33_code 23 = .ok (.goto (9), 3) := by decide +kernel
theorem dM_scaled_26 : decode prog_7_method_33_code 26 = .ok (.aload_n 0, 1) := by decide +kernel
theorem dM_scaled_27 : decode prog_7_method_33_code 27 = .ok (.iload_n 1, 1) := by decide +kernel
theorem dM_scaled_28 : decode prog_7_method_33_code 28 = .ok (.iload_n 2, 1) := by decide +kernel
theorem dM_scaled_29 : decode prog_7_method_33_code 29 = .ok (.invokevirtual 124, 3) := by decide +kernel
theorem dM_scaled_32 : decode prog_7_method_33_code 32 = .ok (.ireturn, 1) := by decide +kernel
abbrev yM_count : MethodName := ⟨"ArenaNetworkModel", "count", "(I)I"⟩
abbrev rmM_count : Room := { frames := 3, cells := 0, slots := 0, locals := 66 }
theorem ykM_count : yOk yM_count 1 := by decide +kernel
theorem dM_count_0 : decode prog_7_method_34_code 0 = .ok (.iload_n 1, 1) := by decide +kernel
theorem dM_count_1 : decode prog_7_method_34_code 1 = .ok (.ifCond .ne (8), 3) := by decide +kernel
theorem dM_count_4 : decode prog_7_method_34_code 4 = .ok (.aload_n 0, 1) := by decide +kernel
theorem dM_count_5 : decode prog_7_method_34_code 5 = .ok (.getfield 61, 3) := by decide +kernel
theorem dM_count_8 : decode prog_7_method_34_code 8 = .ok (.ireturn, 1) := by decide +kernel
theorem dM_count_9 : decode prog_7_method_34_code 9 = .ok (.iload_n 1, 1) := by decide +kernel
theorem dM_count_10 : decode prog_7_method_34_code 10 = .ok (.iconst (1), 1) := by decide +kernel
theorem dM_count_11 : decode prog_7_method_34_code 11 = .ok (.if_icmp .ne (8), 3) := by decide +kernel
theorem dM_count_14 : decode prog_7_method_34_code 14 = .ok (.aload_n 0, 1) := by decide +kernel
theorem dM_count_15 : decode prog_7_method_34_code 15 = .ok (.getfield 75, 3) := by decide +kernel
theorem dM_count_18 : decode prog_7_method_34_code 18 = .ok (.ireturn, 1) := by decide +kernel
theorem dM_count_19 : decode prog_7_method_34_code 19 = .ok (.iload_n 1, 1) := by decide +kernel
theorem dM_count_20 : decode prog_7_method_34_code 20 = .ok (.iconst (2), 1) := by decide +kernel
theorem dM_count_21 : decode prog_7_method_34_code 21 = .ok (.if_icmp .ne (16), 3) := by decide +kernel
theorem dM_count_24 : decode prog_7_method_34_code 24 = .ok (.aload_n 0, 1) := by decide +kernel
theorem dM_count_25 : decode prog_7_method_34_code 25 = .ok (.getfield 68, 3) := by decide +kernel
theorem dM_count_28 : decode prog_7_method_34_code 28 = .ok (.ifCond .eq (7), 3) := by decide +kernel
theorem dM_count_31 : decode prog_7_method_34_code 31 = .ok (.iconst (1), 1) := by decide +kernel
theorem dM_count_32 : decode prog_7_method_34_code 32 = .ok (.goto (4), 3) := by decide +kernel
theorem dM_count_35 : decode prog_7_method_34_code 35 = .ok (.iconst (0), 1) := by decide +kernel
theorem dM_count_36 : decode prog_7_method_34_code 36 = .ok (.ireturn, 1) := by decide +kernel
theorem dM_count_37 : decode prog_7_method_34_code 37 = .ok (.iload_n 1, 1) := by decide +kernel
theorem dM_count_38 : decode prog_7_method_34_code 38 = .ok (.iconst (3), 1) := by decide +kernel
theorem dM_count_39 : decode prog_7_method_34_code 39 = .ok (.if_icmp .ne (8), 3) := by decide +kernel
theorem dM_count_42 : decode prog_7_method_34_code 42 = .ok (.aload_n 0, 1) := by decide +kernel
theorem dM_count_43 : decode prog_7_method_34_code 43 = .ok (.getfield 56, 3) := by decide +kernel
theorem dM_count_46 : decode prog_7_method_34_code 46 = .ok (.ireturn, 1) := by decide +kernel
theorem dM_count_47 : decode prog_7_method_34_code 47 = .ok (.iload_n 1, 1) := by decide +kernel
theorem dM_count_48 : decode prog_7_method_34_code 48 = .ok (.iconst (4), 1) := by decide +kernel
theorem dM_count_49 : decode prog_7_method_34_code 49 = .ok (.if_icmp .ne (8), 3) := by decide +kernel
theorem dM_count_52 : decode prog_7_method_34_code 52 = .ok (.aload_n 0, 1) := by decide +kernel
theorem dM_count_53 : decode prog_7_method_34_code 53 = .ok (.invokevirtual 109, 3) := by decide +kernel
theorem dM_count_56 : decode prog_7_method_34_code 56 = .ok (.ireturn, 1) := by decide +kernel
theorem dM_count_57 : decode prog_7_method_34_code 57 = .ok (.iload_n 1, 1) := by decide +kernel
theorem dM_count_58 : decode prog_7_method_34_code 58 = .ok (.iconst (5), 1) := by decide +kernel
theorem dM_count_59 : decode prog_7_method_34_code 59 = .ok (.if_icmp .eq (5), 3) := by decide +kernel
theorem dM_count_62 : decode prog_7_method_34_code 62 = .ok (.iconst (-1), 1) := by decide +kernel
theorem dM_count_63 : decode prog_7_method_34_code 63 = .ok (.ireturn, 1) := by decide +kernel
theorem dM_count_64 : decode prog_7_method_34_code 64 = .ok (.iconst (0), 1) := by decide +kernel
theorem dM_count_65 : decode prog_7_method_34_code 65 = .ok (.istore_n 2, 1) := by decide +kernel
theorem dM_count_66 : decode prog_7_method_34_code 66 = .ok (.iconst (0), 1) := by decide +kernel
theorem dM_count_67 : decode prog_7_method_34_code 67 = .ok (.istore_n 3, 1) := by decide +kernel
theorem dM_count_68 : decode prog_7_method_34_code 68 = .ok (.iload_n 3, 1) := by decide +kernel
theorem dM_count_69 : decode prog_7_method_34_code 69 = .ok (.aload_n 0, 1) := by decide +kernel
theorem dM_count_70 : decode prog_7_method_34_code 70 = .ok (.getfield 61, 3) := by decide +kernel
theorem dM_count_73 : decode prog_7_method_34_code 73 = .ok (.if_icmp .ge (26), 3) := by decide +kernel
theorem dM_count_76 : decode prog_7_method_34_code 76 = .ok (.aload_n 0, 1) := by decide +kernel
theorem dM_count_77 : decode prog_7_method_34_code 77 = .ok (.iload_n 3, 1) := by decide +kernel
theorem dM_count_78 : decode prog_7_method_34_code 78 = .ok (.invokevirtual 93, 3) := by decide +kernel
theorem dM_count_81 : decode prog_7_method_34_code 81 = .ok (.ifCond .eq (12), 3) := by decide +kernel
theorem dM_count_84 : decode prog_7_method_34_code 84 = .ok (.iload_n 2, 1) := by decide +kernel
theorem dM_count_85 : decode prog_7_method_34_code 85 = .ok (.aload_n 0, 1) := by decide +kernel
theorem dM_count_86 : decode prog_7_method_34_code 86 = .ok (.getfield 13, 3) := by decide +kernel
theorem dM_count_89 : decode prog_7_method_34_code 89 = .ok (.iload_n 3, 1) := by decide +kernel
theorem dM_count_90 : decode prog_7_method_34_code 90 = .ok (.iaload, 1) := by decide +kernel
theorem dM_count_91 : decode prog_7_method_34_code 91 = .ok (.iadd, 1) := by decide +kernel
theorem dM_count_92 : decode prog_7_method_34_code 92 = .ok (.istore_n 2, 1) := by decide +kernel
theorem dM_count_93 : decode prog_7_method_34_code 93 = .ok (.iinc 3 (1), 3) := by decide +kernel
theorem dM_count_96 : decode prog_7_method_34_code 96 = .ok (.goto (-28), 3) := by decide +kernel
theorem dM_count_99 : decode prog_7_method_34_code 99 = .ok (.iload_n 2, 1) := by decide +kernel
theorem dM_count_100 : decode prog_7_method_34_code 100 = .ok (.ireturn, 1) := by decide +kernel
def fM_apart_b51 (b : Nat) (rec3 : Int32 → Int32 → Int32 → Int32 → cW → Option (Int32 × cW)) (a1 : Int32) (a2 : Int32) (a3 : Int32) (a4 : Int32) (a5 : Int32) (s0 : Int32) (w : cW) : Option (Int32 × cW) :=
  if s0 = 0 then (
    bnd (a4 + (1 : Int32)) fun x1 =>
    rec3 a1 a2 a3 x1 w) else
  (gQ w (some b) 5 16).bind fun r2 =>
  (ldI w r2 .int a5).bind fun x3 =>
  (gQ w (some b) 5 1).bind fun r4 =>
  (ldI w r4 .int a5).bind fun x5 =>
  if (x3 + x5) ≤ a2 then (
    bnd (a4 + (1 : Int32)) fun x6 =>
    rec3 a1 a2 a3 x6 w) else
  (gQ w (some b) 5 16).bind fun r7 =>
  (ldI w r7 .int a5).bind fun x8 =>
  (gQ w (some b) 5 1).bind fun r9 =>
  (ldI w r9 .int a1).bind fun x10 =>
  if (a2 + x10) ≤ x8 then (
    bnd (a4 + (1 : Int32)) fun x11 =>
    rec3 a1 a2 a3 x11 w) else
  some ((0 : Int32), w)
def fM_apart_b3 (b : Nat)  (rec3 : Int32 → Int32 → Int32 → Int32 → cW → Option (Int32 × cW)) (a1 : Int32) (a2 : Int32) (a3 : Int32) (a4 : Int32) (w : cW) : Option (Int32 × cW) :=
  if a3 ≤ a4 then (
    some ((1 : Int32), w)) else
  (gQ w (some b) 5 17).bind fun r1 =>
  (ldI w r1 .int a4).bind fun x2 =>
  (cRcv w (some b) 5).bind fun b5 => cbd (fM_begin b5 a1 w) fun x3 w4 =>
  (cRcv w4 (some b) 5).bind fun b8 => cbd (fM_end b8 x2 w4) fun x6 w7 =>
  if x6 < x3 then (
    fM_apart_b51 b rec3 a1 a2 a3 a4 x2 (0 : Int32) w7) else
  (cRcv w7 (some b) 5).bind fun b11 => cbd (fM_begin b11 x2 w7) fun x9 w10 =>
  (cRcv w10 (some b) 5).bind fun b14 => cbd (fM_end b14 a1 w10) fun x12 w13 =>
  if x12 < x9 then (
    fM_apart_b51 b rec3 a1 a2 a3 a4 x2 (0 : Int32) w13) else
  fM_apart_b51 b rec3 a1 a2 a3 a4 x2 (1 : Int32) w13
def fM_apart_l3 (b : Nat)  (n : Nat) : Int32 → Int32 → Int32 → Int32 → cW → Option (Int32 × cW) := lp (fun _ _ _ _ _ => none) (fM_apart_b3 b ) n
def fM_apart (b : Nat) (a1 : Int32) (a2 : Int32) (a3 : Int32) (w : cW) : Option (Int32 × cW) :=
  fM_apart_l3 b FU a1 a2 a3 (0 : Int32) w
def fM_arena_b4 (b : Nat)  (rec4 : Int32 → Int32 → cW → Option (Int32 × cW)) (a1 : Int32) (a2 : Int32) (w : cW) : Option (Int32 × cW) :=
  (gI w (some b) 5 6).bind fun x1 =>
  if x1 ≤ a2 then (
    some (a1, w)) else
  (cRcv w (some b) 5).bind fun b4 => cbd (fM_lives b4 a2 w) fun x2 w3 =>
  if x2 = 0 then (
    bnd (a2 + (1 : Int32)) fun x5 =>
    rec4 a1 x5 w3) else
  (gQ w3 (some b) 5 16).bind fun r6 =>
  (ldI w3 r6 .int a2).bind fun x7 =>
  (gQ w3 (some b) 5 1).bind fun r8 =>
  (ldI w3 r8 .int a2).bind fun x9 =>
  if (x7 + x9) ≤ a1 then (
    bnd (a2 + (1 : Int32)) fun x10 =>
    rec4 a1 x10 w3) else
  (gQ w3 (some b) 5 16).bind fun r11 =>
  (ldI w3 r11 .int a2).bind fun x12 =>
  (gQ w3 (some b) 5 1).bind fun r13 =>
  (ldI w3 r13 .int a2).bind fun x14 =>
  bnd (x12 + x14) fun x15 =>
  bnd (a2 + (1 : Int32)) fun x16 =>
  rec4 x15 x16 w3
def fM_arena_l4 (b : Nat)  (n : Nat) : Int32 → Int32 → cW → Option (Int32 × cW) := lp (fun _ _ _ => none) (fM_arena_b4 b ) n
def fM_arena (b : Nat)  (w : cW) : Option (Int32 × cW) :=
  fM_arena_l4 b FU (0 : Int32) (0 : Int32) w
def fM_scaling (b : Nat) (a1 : Int32) (a2 : Int32) (w : cW) : Option (Int32 × cW) :=
  (gQ w (some b) 5 7).bind fun r1 =>
  (ldI w r1 .int a1).bind fun x2 =>
  (cRcv w (some b) 5).bind fun b5 => cbd (fM_rounded b5 (a2.toInt64 * x2.toInt64) (2147483648 : Int64) w) fun j3 w4 =>
  (gQ w4 (some b) 5 8).bind fun r6 =>
  (ldI w4 r6 .int a1).bind fun x7 =>
  (cRcv w4 (some b) 5).bind fun b10 => cbd (fM_rounded b10 j3 ((1 : Int64) <<< (x7.toInt64 &&& 63)) w4) fun j8 w9 =>
  some (j8.toInt32, w9)
def fM_cell (b : Nat) (a1 : Int32) (a2 : Int32) (w : cW) : Option (Int32 × cW) :=
  (cRcv w (some b) 5).bind fun b3 => cbd (fM_noTensor b3 a1 w) fun x1 w2 =>
  if x1 = 0 then (
    if a2 < 0 then (
      some ((-1000 : Int32), w2)) else
    (gQ w2 (some b) 5 1).bind fun r4 =>
    (ldI w2 r4 .int a1).bind fun x5 =>
    if a2 < x5 then (
      (gQ w2 (some b) 5 0).bind fun r6 =>
      (ldI w2 r6 .int a1).bind fun x7 =>
      if x7 = 0 then (
        (gQ w2 (some b) 5 4).bind fun r22 =>
        (ldI w2 r22 .int ((a1 * (64 : Int32)) + a2)).bind fun x23 =>
        some (x23, w2)) else
      (gI w2 (some b) 5 18).bind fun x8 =>
      if x8 < 0 then (
        some ((-1000 : Int32), w2)) else
      (cRcv w2 (some b) 5).bind fun b11 => cbd (fM_lives b11 a1 w2) fun x9 w10 =>
      if x9 = 0 then (
        some ((-1000 : Int32), w10)) else
      (cRcv w10 (some b) 5).bind fun b14 => cbd (fM_begin b14 a1 w10) fun x12 w13 =>
      (gI w13 (some b) 5 18).bind fun x15 =>
      if x15 ≤ x12 then (
        some ((-1000 : Int32), w13)) else
      (cRcv w13 (some b) 5).bind fun b18 => cbd (fM_end b18 a1 w13) fun x16 w17 =>
      (gI w17 (some b) 5 18).bind fun x19 =>
      if (x19 - (1 : Int32)) ≤ x16 then (
        (gQ w17 (some b) 5 5).bind fun r20 =>
        (ldI w17 r20 .int ((a1 * (64 : Int32)) + a2)).bind fun x21 =>
        some (x21, w17)) else
      some ((-1000 : Int32), w17)) else
    some ((-1000 : Int32), w2)) else
  some ((-1000 : Int32), w2)
def fM_offset (b : Nat) (a1 : Int32) (w : cW) : Option (Int32 × cW) :=
  (cRcv w (some b) 5).bind fun b3 => cbd (fM_lives b3 a1 w) fun x1 w2 =>
  if x1 = 0 then (
    some ((-1 : Int32), w2)) else
  (gQ w2 (some b) 5 16).bind fun r4 =>
  (ldI w2 r4 .int a1).bind fun x5 =>
  some (x5, w2)
def fM_life (b : Nat) (a1 : Int32) (a2 : Int32) (w : cW) : Option (Int32 × cW) :=
  (cRcv w (some b) 5).bind fun b3 => cbd (fM_lives b3 a1 w) fun x1 w2 =>
  if x1 = 0 then (
    some ((-1000 : Int32), w2)) else
  if a2 = 0 then (
    (cRcv w2 (some b) 5).bind fun b6 => cbd (fM_begin b6 a1 w2) fun x4 w5 =>
    some (x4, w5)) else
  (cRcv w2 (some b) 5).bind fun b9 => cbd (fM_end b9 a1 w2) fun x7 w8 =>
  some (x7, w8)
def fM_scaled (b : Nat) (a1 : Int32) (a2 : Int32) (w : cW) : Option (Int32 × cW) :=
  if a1 < 0 then (
    some ((0 : Int32), w)) else
  if (7 : Int32) < a1 then (
    some ((0 : Int32), w)) else
  if a2 < (-16777216 : Int32) then (
    some ((0 : Int32), w)) else
  if a2 ≤ (16777216 : Int32) then (
    (cRcv w (some b) 5).bind fun b3 => cbd (fM_scaling b3 a1 a2 w) fun x1 w2 =>
    some (x1, w2)) else
  some ((0 : Int32), w)
def fM_count_b68 (b : Nat)  (rec68 : Int32 → Int32 → cW → Option (Int32 × cW)) (a2 : Int32) (a3 : Int32) (w : cW) : Option (Int32 × cW) :=
  (gI w (some b) 5 6).bind fun x1 =>
  if x1 ≤ a3 then (
    some (a2, w)) else
  (cRcv w (some b) 5).bind fun b4 => cbd (fM_lives b4 a3 w) fun x2 w3 =>
  if x2 = 0 then (
    bnd (a3 + (1 : Int32)) fun x5 =>
    rec68 a2 x5 w3) else
  (gQ w3 (some b) 5 1).bind fun r6 =>
  (ldI w3 r6 .int a3).bind fun x7 =>
  bnd (a2 + x7) fun x8 =>
  bnd (a3 + (1 : Int32)) fun x9 =>
  rec68 x8 x9 w3
def fM_count_l68 (b : Nat)  (n : Nat) : Int32 → Int32 → cW → Option (Int32 × cW) := lp (fun _ _ _ => none) (fM_count_b68 b ) n
def fM_count (b : Nat) (a1 : Int32) (w : cW) : Option (Int32 × cW) :=
  if a1 = 0 then (
    (gI w (some b) 5 6).bind fun x7 =>
    some (x7, w)) else
  if a1 = (1 : Int32) then (
    (gI w (some b) 5 14).bind fun x6 =>
    some (x6, w)) else
  if a1 = (2 : Int32) then (
    (gI w (some b) 5 15).bind fun x5 =>
    if x5 = 0 then (
      some ((0 : Int32), w)) else
    some ((1 : Int32), w)) else
  if a1 = (3 : Int32) then (
    (gI w (some b) 5 18).bind fun x4 =>
    some (x4, w)) else
  if a1 = (4 : Int32) then (
    (cRcv w (some b) 5).bind fun b3 => cbd (fM_arena b3 w) fun x1 w2 =>
    some (x1, w2)) else
  if a1 = (5 : Int32) then (
    fM_count_l68 b FU (0 : Int32) (0 : Int32) w) else
  some ((-1 : Int32), w)
set_option maxHeartbeats 4000000 in
set_option maxRecDepth 100000 in
theorem tM_apart_b51 {C : xC} {G : cG} {w0 w' : cW} {r : Int32} {b : Nat} (hC : okC C prog_7_method_17_code 7 "ArenaNetworkModel" lw_gd) (hE : xE C (some .boolean) mkI G w0 w' r) (hR : xR C = rmM_apart) {rec3 : Int32 → Int32 → Int32 → Int32 → cW → Option (Int32 × cW)} (hrec3 : ∀ (a1 : Int32) (a2 : Int32) (a3 : Int32) (a4 : Int32) (w : cW), rec3 a1 a2 a3 a4 w = some (r, w') → V C w 0 0 3 [(0, va_rf (some b)), (1, .int a1), (2, .int a2), (3, .int a3), (4, .int a4)] []) (a1 : Int32) (a2 : Int32) (a3 : Int32) (a4 : Int32) (a5 : Int32) (s0 : Int32) (w : cW) (hf : fM_apart_b51 b rec3 a1 a2 a3 a4 a5 s0 w = some (r, w')) : V C w 0 0 51 [(0, va_rf (some b)), (1, .int a1), (2, .int a2), (3, .int a3), (4, .int a4), (5, .int a5)] [.int s0] := by
  unfold fM_apart_b51 at hf
  refine v_istore (pc := 51) (i := 6) (x := s0) hC dM_apart_51 (by decide) [(6, .int s0), (0, va_rf (some b)), (1, .int a1), (2, .int a2), (3, .int a3), (4, .int a4), (5, .int a5)] rfl ?_
  refine v_iload (pc := 53) (i := 6) (x := s0) hC dM_apart_53 0 rfl ?_
  refine v_if_eq (pc := 55) (tgt := 97) hC dM_apart_55 (by decide) hf (fun hf => ?_) (fun hf => ?_)
  · refine v_iincB (pc := 97) (i := 4) (x := a4) (v := (1 : Int32)) hC dM_apart_97 5 rfl (by decide) (by decide) (fun x1 => [(4, .int x1), (6, .int s0), (0, va_rf (some b)), (1, .int a1), (2, .int a2), (3, .int a3), (5, .int a5)]) (fun _ => rfl) hf (fun x1 hf => ?_)
    refine v_goto (pc := 100) (tgt := 3) hC dM_apart_100 (by decide) ?_
    exact V.sub [2, 3, 4, 5, 0] rfl (hrec3 _ _ _ _ _ hf)
  · refine v_iload_n (pc := 58) (i := 2) (x := a2) hC dM_apart_58 rfl 3 rfl ?_
    refine v_aload_n (pc := 59) (i := 0) (r := (some b)) hC dM_apart_59 rfl 1 rfl ?_
    refine v_getQ (pc := 60) (r := (some b)) hC dM_apart_60 inM rfl 16 (by decide) q491 (Or.inl rfl) hf (fun r2 hf => ?_)
    refine v_iload (pc := 63) (i := 5) (x := a5) hC dM_apart_63 6 rfl ?_
    refine v_iald (pc := 65) hC dM_apart_65 hf (fun x3 hf => ?_)
    refine v_aload_n (pc := 66) (i := 0) (r := (some b)) hC dM_apart_66 rfl 1 rfl ?_
    refine v_getQ (pc := 67) (r := (some b)) hC dM_apart_67 inM rfl 1 (by decide) q476 (Or.inl rfl) hf (fun r4 hf => ?_)
    refine v_iload (pc := 70) (i := 5) (x := a5) hC dM_apart_70 6 rfl ?_
    refine v_iald (pc := 72) hC dM_apart_72 hf (fun x5 hf => ?_)
    refine v_iadd (pc := 73) hC dM_apart_73 ?_
    refine v_icmp_ge (pc := 74) (tgt := 97) hC dM_apart_74 (by decide) hf (fun hf => ?_) (fun hf => ?_)
    · refine v_iincB (pc := 97) (i := 4) (x := a4) (v := (1 : Int32)) hC dM_apart_97 5 rfl (by decide) (by decide) (fun x6 => [(4, .int x6), (6, .int s0), (0, va_rf (some b)), (1, .int a1), (2, .int a2), (3, .int a3), (5, .int a5)]) (fun _ => rfl) hf (fun x6 hf => ?_)
      refine v_goto (pc := 100) (tgt := 3) hC dM_apart_100 (by decide) ?_
      exact V.sub [2, 3, 4, 5, 0] rfl (hrec3 _ _ _ _ _ hf)
    · refine v_aload_n (pc := 77) (i := 0) (r := (some b)) hC dM_apart_77 rfl 1 rfl ?_
      refine v_getQ (pc := 78) (r := (some b)) hC dM_apart_78 inM rfl 16 (by decide) q491 (Or.inl rfl) hf (fun r7 hf => ?_)
      refine v_iload (pc := 81) (i := 5) (x := a5) hC dM_apart_81 6 rfl ?_
      refine v_iald (pc := 83) hC dM_apart_83 hf (fun x8 hf => ?_)
      refine v_iload_n (pc := 84) (i := 2) (x := a2) hC dM_apart_84 rfl 3 rfl ?_
      refine v_aload_n (pc := 85) (i := 0) (r := (some b)) hC dM_apart_85 rfl 1 rfl ?_
      refine v_getQ (pc := 86) (r := (some b)) hC dM_apart_86 inM rfl 1 (by decide) q476 (Or.inl rfl) hf (fun r9 hf => ?_)
      refine v_iload_n (pc := 89) (i := 1) (x := a1) hC dM_apart_89 rfl 2 rfl ?_
      refine v_iald (pc := 90) hC dM_apart_90 hf (fun x10 hf => ?_)
      refine v_iadd (pc := 91) hC dM_apart_91 ?_
      refine v_icmp_ge (pc := 92) (tgt := 97) hC dM_apart_92 (by decide) hf (fun hf => ?_) (fun hf => ?_)
      · refine v_iincB (pc := 97) (i := 4) (x := a4) (v := (1 : Int32)) hC dM_apart_97 5 rfl (by decide) (by decide) (fun x11 => [(4, .int x11), (6, .int s0), (0, va_rf (some b)), (1, .int a1), (2, .int a2), (3, .int a3), (5, .int a5)]) (fun _ => rfl) hf (fun x11 hf => ?_)
        refine v_goto (pc := 100) (tgt := 3) hC dM_apart_100 (by decide) ?_
        exact V.sub [2, 3, 4, 5, 0] rfl (hrec3 _ _ _ _ _ hf)
      · refine v_iconst (pc := 95) (v := (0 : Int32)) hC dM_apart_95 (by decide) ?_
        exact v_zret (pc := 96) hC hE dM_apart_96 (by rw [hR]; decide) (by rw [hR]; decide) (by rw [if_pos (by decide)]; exact hf)
set_option maxHeartbeats 4000000 in
set_option maxRecDepth 100000 in
theorem tM_apart_l3 {C : xC} {G : cG} {w0 w' : cW} {r : Int32} {b : Nat} (hC : okC C prog_7_method_17_code 7 "ArenaNetworkModel" lw_gd) (hE : xE C (some .boolean) mkI G w0 w' r) (hR : xR C = rmM_apart)  : ∀ n : Nat, ∀ (a1 : Int32) (a2 : Int32) (a3 : Int32) (a4 : Int32) (w : cW), fM_apart_l3 b n a1 a2 a3 a4 w = some (r, w') → V C w 0 0 3 [(0, va_rf (some b)), (1, .int a1), (2, .int a2), (3, .int a3), (4, .int a4)] [] := by
  refine lp_P (P := fun (f : Int32 → Int32 → Int32 → Int32 → cW → Option (Int32 × cW)) => ∀ (a1 : Int32) (a2 : Int32) (a3 : Int32) (a4 : Int32) (w : cW), f a1 a2 a3 a4 w = some (r, w') → V C w 0 0 3 [(0, va_rf (some b)), (1, .int a1), (2, .int a2), (3, .int a3), (4, .int a4)] []) ?_ ?_
  · intro a1 a2 a3 a4 w hf
    cases hf
  · intro rec3 hrec3 a1 a2 a3 a4 w hf
    unfold fM_apart_b3 at hf
    refine v_iload (pc := 3) (i := 4) (x := a4) hC dM_apart_3 4 rfl ?_
    refine v_iload_n (pc := 5) (i := 3) (x := a3) hC dM_apart_5 rfl 3 rfl ?_
    refine v_icmp_ge (pc := 6) (tgt := 103) hC dM_apart_6 (by decide) hf (fun hf => ?_) (fun hf => ?_)
    · refine v_iconst (pc := 103) (v := (1 : Int32)) hC dM_apart_103 (by decide) ?_
      exact v_zret (pc := 104) hC hE dM_apart_104 (by rw [hR]; decide) (by rw [hR]; decide) (by rw [if_pos (by decide)]; exact hf)
    · refine v_aload_n (pc := 9) (i := 0) (r := (some b)) hC dM_apart_9 rfl 0 rfl ?_
      refine v_getQ (pc := 10) (r := (some b)) hC dM_apart_10 inM rfl 17 (by decide) q492 (Or.inl rfl) hf (fun r1 hf => ?_)
      refine v_iload (pc := 13) (i := 4) (x := a4) hC dM_apart_13 4 rfl ?_
      refine v_iald (pc := 15) hC dM_apart_15 hf (fun x2 hf => ?_)
      refine v_istore (pc := 16) (i := 5) (x := x2) hC dM_apart_16 (by decide) [(5, .int x2), (0, va_rf (some b)), (1, .int a1), (2, .int a2), (3, .int a3), (4, .int a4)] rfl ?_
      refine v_aload_n (pc := 18) (i := 0) (r := (some b)) hC dM_apart_18 rfl 1 rfl ?_
      refine v_iload_n (pc := 19) (i := 1) (x := a1) hC dM_apart_19 rfl 2 rfl ?_
      refine v_callV (pc := 20) (r := (some b)) (As := [.int a1]) (rest := []) (k' := 0) (n' := 0) (st1 := (fun yq => [.int yq])) hC dM_apart_20 q595 q597 p26 q7 q598 ykM_begin rfl rfl (fun bq rq wq hq => mM_begin _ _ bq a1 _ rq wq hq) (by rw [hR]; decide) (by simp only [List.map_cons, List.map_nil, va_cat]; exact Nat.le_of_ble_eq_true rfl) (by decide) (by rw [hR]; decide) hf rfl (fun _ => rfl) (fun x3 w4 hf => ?_)
      refine v_aload_n (pc := 23) (i := 0) (r := (some b)) hC dM_apart_23 rfl 1 rfl ?_
      refine v_iload (pc := 24) (i := 5) (x := x2) hC dM_apart_24 0 rfl ?_
      refine v_callV (pc := 26) (r := (some b)) (As := [.int x2]) (rest := [.int x3]) (k' := 0) (n' := 0) (st1 := (fun yq => [.int yq, .int x3])) hC dM_apart_26 q599 q601 p27 q7 q602 ykM_end rfl rfl (fun bq rq wq hq => mM_end _ _ bq x2 _ rq wq hq) (by rw [hR]; decide) (by simp only [List.map_cons, List.map_nil, va_cat]; exact Nat.le_of_ble_eq_true rfl) (by decide) (by rw [hR]; decide) hf rfl (fun _ => rfl) (fun x6 w7 hf => ?_)
      refine v_icmp_gt (pc := 29) (tgt := 50) hC dM_apart_29 (by decide) hf (fun hf => ?_) (fun hf => ?_)
      · refine v_iconst (pc := 50) (v := (0 : Int32)) hC dM_apart_50 (by decide) ?_
        exact V.sub [1, 2, 3, 4, 5, 0] rfl (tM_apart_b51 hC hE hR hrec3 _ _ _ _ _ _ _ hf)
      · refine v_aload_n (pc := 32) (i := 0) (r := (some b)) hC dM_apart_32 rfl 1 rfl ?_
        refine v_iload (pc := 33) (i := 5) (x := x2) hC dM_apart_33 0 rfl ?_
        refine v_callV (pc := 35) (r := (some b)) (As := [.int x2]) (rest := []) (k' := 0) (n' := 0) (st1 := (fun yq => [.int yq])) hC dM_apart_35 q595 q597 p26 q7 q598 ykM_begin rfl rfl (fun bq rq wq hq => mM_begin _ _ bq x2 _ rq wq hq) (by rw [hR]; decide) (by simp only [List.map_cons, List.map_nil, va_cat]; exact Nat.le_of_ble_eq_true rfl) (by decide) (by rw [hR]; decide) hf rfl (fun _ => rfl) (fun x9 w10 hf => ?_)
        refine v_aload_n (pc := 38) (i := 0) (r := (some b)) hC dM_apart_38 rfl 1 rfl ?_
        refine v_iload_n (pc := 39) (i := 1) (x := a1) hC dM_apart_39 rfl 2 rfl ?_
        refine v_callV (pc := 40) (r := (some b)) (As := [.int a1]) (rest := [.int x9]) (k' := 0) (n' := 0) (st1 := (fun yq => [.int yq, .int x9])) hC dM_apart_40 q599 q601 p27 q7 q602 ykM_end rfl rfl (fun bq rq wq hq => mM_end _ _ bq a1 _ rq wq hq) (by rw [hR]; decide) (by simp only [List.map_cons, List.map_nil, va_cat]; exact Nat.le_of_ble_eq_true rfl) (by decide) (by rw [hR]; decide) hf rfl (fun _ => rfl) (fun x12 w13 hf => ?_)
        refine v_icmp_gt (pc := 43) (tgt := 50) hC dM_apart_43 (by decide) hf (fun hf => ?_) (fun hf => ?_)
        · refine v_iconst (pc := 50) (v := (0 : Int32)) hC dM_apart_50 (by decide) ?_
          exact V.sub [1, 2, 3, 4, 5, 0] rfl (tM_apart_b51 hC hE hR hrec3 _ _ _ _ _ _ _ hf)
        · refine v_iconst (pc := 46) (v := (1 : Int32)) hC dM_apart_46 (by decide) ?_
          refine v_goto (pc := 47) (tgt := 51) hC dM_apart_47 (by decide) ?_
          exact V.sub [1, 2, 3, 4, 5, 0] rfl (tM_apart_b51 hC hE hR hrec3 _ _ _ _ _ _ _ hf)
set_option maxHeartbeats 4000000 in
set_option maxRecDepth 100000 in
theorem tM_apart {C : xC} {G : cG} {w0 w' : cW} {r : Int32} {b : Nat} (hC : okC C prog_7_method_17_code 7 "ArenaNetworkModel" lw_gd) (hE : xE C (some .boolean) mkI G w0 w' r) (hR : xR C = rmM_apart) (a1 : Int32) (a2 : Int32) (a3 : Int32) (w : cW) (hf : fM_apart b a1 a2 a3 w = some (r, w')) : V C w 0 0 0 [(0, va_rf (some b)), (1, .int a1), (2, .int a2), (3, .int a3)] [] := by
  unfold fM_apart at hf
  refine v_iconst (pc := 0) (v := (0 : Int32)) hC dM_apart_0 (by decide) ?_
  refine v_istore (pc := 1) (i := 4) (x := (0 : Int32)) hC dM_apart_1 (by decide) [(4, .int (0 : Int32)), (0, va_rf (some b)), (1, .int a1), (2, .int a2), (3, .int a3)] rfl ?_
  exact V.sub [1, 2, 3, 4, 0] rfl (tM_apart_l3 hC hE hR  FU _ _ _ _ _ hf)
theorem mM_apart (l : Launch) (G : cG) (b : Nat) (a1 : Int32) (a2 : Int32) (a3 : Int32) (w : cW) (r : Int32) (w' : cW) (hf : fM_apart b a1 a2 a3 w = some (r, w')) : Met l yM_apart (wsM yM_apart prog_7_method_17_code 7 (some .boolean)) rmM_apart (mP G w [va_rf (some b), .int a1, .int a2, .int a3]) (mQ mkI G w w' r) (rmM_apart).cells (rmM_apart).slots (Aw w) :=
  met_of (by decide +kernel) rfl (Nat.le_of_ble_eq_true rfl) (fun C hC hR _ _ _ hts hE => tM_apart (okC.tbl hC) hE hR a1 a2 a3 w hf)
set_option maxHeartbeats 4000000 in
set_option maxRecDepth 100000 in
theorem tM_arena_l4 {C : xC} {G : cG} {w0 w' : cW} {r : Int32} {b : Nat} (hC : okC C prog_7_method_18_code 3 "ArenaNetworkModel" lw_gd) (hE : xE C (some .int) mkI G w0 w' r) (hR : xR C = rmM_arena)  : ∀ n : Nat, ∀ (a1 : Int32) (a2 : Int32) (w : cW), fM_arena_l4 b n a1 a2 w = some (r, w') → V C w 0 0 4 [(0, va_rf (some b)), (1, .int a1), (2, .int a2)] [] := by
  refine lp_P (P := fun (f : Int32 → Int32 → cW → Option (Int32 × cW)) => ∀ (a1 : Int32) (a2 : Int32) (w : cW), f a1 a2 w = some (r, w') → V C w 0 0 4 [(0, va_rf (some b)), (1, .int a1), (2, .int a2)] []) ?_ ?_
  · intro a1 a2 w hf
    cases hf
  · intro rec4 hrec4 a1 a2 w hf
    unfold fM_arena_b4 at hf
    refine v_iload_n (pc := 4) (i := 2) (x := a2) hC dM_arena_4 rfl 2 rfl ?_
    refine v_aload_n (pc := 5) (i := 0) (r := (some b)) hC dM_arena_5 rfl 0 rfl ?_
    refine v_getI (pc := 6) (r := (some b)) hC dM_arena_6 inM rfl 6 (by decide) q481 (Or.inl rfl) hf (fun x1 hf => ?_)
    refine v_icmp_ge (pc := 9) (tgt := 57) hC dM_arena_9 (by decide) hf (fun hf => ?_) (fun hf => ?_)
    · refine v_iload_n (pc := 57) (i := 1) (x := a1) hC dM_arena_57 rfl 1 rfl ?_
      exact v_iret (pc := 58) hC hE dM_arena_58 (by rw [hR]; decide) (by rw [hR]; decide) hf
    · refine v_aload_n (pc := 12) (i := 0) (r := (some b)) hC dM_arena_12 rfl 0 rfl ?_
      refine v_iload_n (pc := 13) (i := 2) (x := a2) hC dM_arena_13 rfl 2 rfl ?_
      refine v_callV (pc := 14) (r := (some b)) (As := [.int a2]) (rest := []) (k' := 0) (n' := 0) (st1 := (fun yq => [.int yq])) hC dM_arena_14 q566 q568 p20 q7 q569 ykM_lives rfl rfl (fun bq rq wq hq => mM_lives _ _ bq a2 _ rq wq hq) (by rw [hR]; decide) (by simp only [List.map_cons, List.map_nil, va_cat]; exact Nat.le_of_ble_eq_true rfl) (by decide) (by rw [hR]; decide) hf rfl (fun _ => rfl) (fun x2 w3 hf => ?_)
      refine v_if_eq (pc := 17) (tgt := 51) hC dM_arena_17 (by decide) hf (fun hf => ?_) (fun hf => ?_)
      · refine v_iincB (pc := 51) (i := 2) (x := a2) (v := (1 : Int32)) hC dM_arena_51 2 rfl (by decide) (by decide) (fun x5 => [(2, .int x5), (0, va_rf (some b)), (1, .int a1)]) (fun _ => rfl) hf (fun x5 hf => ?_)
        refine v_goto (pc := 54) (tgt := 4) hC dM_arena_54 (by decide) ?_
        exact V.sub [1, 2, 0] rfl (hrec4 _ _ _ hf)
      · refine v_aload_n (pc := 20) (i := 0) (r := (some b)) hC dM_arena_20 rfl 0 rfl ?_
        refine v_getQ (pc := 21) (r := (some b)) hC dM_arena_21 inM rfl 16 (by decide) q491 (Or.inl rfl) hf (fun r6 hf => ?_)
        refine v_iload_n (pc := 24) (i := 2) (x := a2) hC dM_arena_24 rfl 2 rfl ?_
        refine v_iald (pc := 25) hC dM_arena_25 hf (fun x7 hf => ?_)
        refine v_aload_n (pc := 26) (i := 0) (r := (some b)) hC dM_arena_26 rfl 0 rfl ?_
        refine v_getQ (pc := 27) (r := (some b)) hC dM_arena_27 inM rfl 1 (by decide) q476 (Or.inl rfl) hf (fun r8 hf => ?_)
        refine v_iload_n (pc := 30) (i := 2) (x := a2) hC dM_arena_30 rfl 2 rfl ?_
        refine v_iald (pc := 31) hC dM_arena_31 hf (fun x9 hf => ?_)
        refine v_iadd (pc := 32) hC dM_arena_32 ?_
        refine v_iload_n (pc := 33) (i := 1) (x := a1) hC dM_arena_33 rfl 1 rfl ?_
        refine v_icmp_le (pc := 34) (tgt := 51) hC dM_arena_34 (by decide) hf (fun hf => ?_) (fun hf => ?_)
        · refine v_iincB (pc := 51) (i := 2) (x := a2) (v := (1 : Int32)) hC dM_arena_51 2 rfl (by decide) (by decide) (fun x10 => [(2, .int x10), (0, va_rf (some b)), (1, .int a1)]) (fun _ => rfl) hf (fun x10 hf => ?_)
          refine v_goto (pc := 54) (tgt := 4) hC dM_arena_54 (by decide) ?_
          exact V.sub [1, 2, 0] rfl (hrec4 _ _ _ hf)
        · refine v_aload_n (pc := 37) (i := 0) (r := (some b)) hC dM_arena_37 rfl 0 rfl ?_
          refine v_getQ (pc := 38) (r := (some b)) hC dM_arena_38 inM rfl 16 (by decide) q491 (Or.inl rfl) hf (fun r11 hf => ?_)
          refine v_iload_n (pc := 41) (i := 2) (x := a2) hC dM_arena_41 rfl 2 rfl ?_
          refine v_iald (pc := 42) hC dM_arena_42 hf (fun x12 hf => ?_)
          refine v_aload_n (pc := 43) (i := 0) (r := (some b)) hC dM_arena_43 rfl 0 rfl ?_
          refine v_getQ (pc := 44) (r := (some b)) hC dM_arena_44 inM rfl 1 (by decide) q476 (Or.inl rfl) hf (fun r13 hf => ?_)
          refine v_iload_n (pc := 47) (i := 2) (x := a2) hC dM_arena_47 rfl 2 rfl ?_
          refine v_iald (pc := 48) hC dM_arena_48 hf (fun x14 hf => ?_)
          refine v_iadd (pc := 49) hC dM_arena_49 ?_
          refine v_bndi hf (fun x15 hf => ?_)
          refine v_istore_n (pc := 50) (i := 1) (x := x15) hC dM_arena_50 rfl (by decide) [(1, .int x15), (0, va_rf (some b)), (2, .int a2)] rfl ?_
          refine v_iincB (pc := 51) (i := 2) (x := a2) (v := (1 : Int32)) hC dM_arena_51 2 rfl (by decide) (by decide) (fun x16 => [(2, .int x16), (1, .int x15), (0, va_rf (some b))]) (fun _ => rfl) hf (fun x16 hf => ?_)
          refine v_goto (pc := 54) (tgt := 4) hC dM_arena_54 (by decide) ?_
          exact V.sub [2, 1, 0] rfl (hrec4 _ _ _ hf)
set_option maxHeartbeats 4000000 in
set_option maxRecDepth 100000 in
theorem tM_arena {C : xC} {G : cG} {w0 w' : cW} {r : Int32} {b : Nat} (hC : okC C prog_7_method_18_code 3 "ArenaNetworkModel" lw_gd) (hE : xE C (some .int) mkI G w0 w' r) (hR : xR C = rmM_arena)  (w : cW) (hf : fM_arena b w = some (r, w')) : V C w 0 0 0 [(0, va_rf (some b))] [] := by
  unfold fM_arena at hf
  refine v_iconst (pc := 0) (v := (0 : Int32)) hC dM_arena_0 (by decide) ?_
  refine v_istore_n (pc := 1) (i := 1) (x := (0 : Int32)) hC dM_arena_1 rfl (by decide) [(1, .int (0 : Int32)), (0, va_rf (some b))] rfl ?_
  refine v_iconst (pc := 2) (v := (0 : Int32)) hC dM_arena_2 (by decide) ?_
  refine v_istore_n (pc := 3) (i := 2) (x := (0 : Int32)) hC dM_arena_3 rfl (by decide) [(2, .int (0 : Int32)), (1, .int (0 : Int32)), (0, va_rf (some b))] rfl ?_
  exact V.sub [2, 1, 0] rfl (tM_arena_l4 hC hE hR  FU _ _ _ hf)
theorem mM_arena (l : Launch) (G : cG) (b : Nat)  (w : cW) (r : Int32) (w' : cW) (hf : fM_arena b w = some (r, w')) : Met l yM_arena (wsM yM_arena prog_7_method_18_code 3 (some .int)) rmM_arena (mP G w [va_rf (some b)]) (mQ mkI G w w' r) (rmM_arena).cells (rmM_arena).slots (Aw w) :=
  met_of (by decide +kernel) rfl (Nat.le_of_ble_eq_true rfl) (fun C hC hR _ _ _ hts hE => tM_arena (okC.tbl hC) hE hR  w hf)
set_option maxHeartbeats 4000000 in
set_option maxRecDepth 100000 in
theorem tM_scaling {C : xC} {G : cG} {w0 w' : cW} {r : Int32} {b : Nat} (hC : okC C prog_7_method_23_code 5 "ArenaNetworkModel" lw_gd) (hE : xE C (some .int) mkI G w0 w' r) (hR : xR C = rmM_scaling) (a1 : Int32) (a2 : Int32) (w : cW) (hf : fM_scaling b a1 a2 w = some (r, w')) : V C w 0 0 0 [(0, va_rf (some b)), (1, .int a1), (2, .int a2)] [] := by
  unfold fM_scaling at hf
  refine v_aload_n (pc := 0) (i := 0) (r := (some b)) hC dM_scaling_0 rfl 0 rfl ?_
  refine v_iload_n (pc := 1) (i := 2) (x := a2) hC dM_scaling_1 rfl 2 rfl ?_
  refine v_i2l (pc := 2) hC dM_scaling_2 ?_
  refine v_aload_n (pc := 3) (i := 0) (r := (some b)) hC dM_scaling_3 rfl 0 rfl ?_
  refine v_getQ (pc := 4) (r := (some b)) hC dM_scaling_4 inM rfl 7 (by decide) q482 (Or.inl rfl) hf (fun r1 hf => ?_)
  refine v_iload_n (pc := 7) (i := 1) (x := a1) hC dM_scaling_7 rfl 1 rfl ?_
  refine v_iald (pc := 8) hC dM_scaling_8 hf (fun x2 hf => ?_)
  refine v_i2l (pc := 9) hC dM_scaling_9 ?_
  refine v_lmul (pc := 10) hC dM_scaling_10 ?_
  refine v_ldc2 (pc := 11) (v := (2147483648 : Int64)) hC dM_scaling_11 q631 ?_
  refine v_callV (pc := 14) (r := (some b)) (As := [.long (a2.toInt64 * x2.toInt64), .long (2147483648 : Int64)]) (rest := []) (k' := 0) (n' := 0) (st1 := (fun yq => [.long yq])) hC dM_scaling_14 q632 q634 p32 q7 q635 ykM_rounded rfl rfl (fun bq rq wq hq => mM_rounded _ _ bq (a2.toInt64 * x2.toInt64) (2147483648 : Int64) _ rq wq hq) (by rw [hR]; decide) (by simp only [List.map_cons, List.map_nil, va_cat]; exact Nat.le_of_ble_eq_true rfl) (by decide) (by rw [hR]; decide) hf rfl (fun _ => rfl) (fun j3 w4 hf => ?_)
  refine v_lstore_n (pc := 17) (i := 3) (x := j3) hC dM_scaling_17 rfl (by decide) [(3, .long j3), (0, va_rf (some b)), (1, .int a1), (2, .int a2)] rfl ?_
  refine v_aload_n (pc := 18) (i := 0) (r := (some b)) hC dM_scaling_18 rfl 1 rfl ?_
  refine v_lload_n (pc := 19) (i := 3) (x := j3) hC dM_scaling_19 rfl 0 rfl ?_
  refine v_lconst (pc := 20) (v := (1 : Int64)) hC dM_scaling_20 (by decide) ?_
  refine v_aload_n (pc := 21) (i := 0) (r := (some b)) hC dM_scaling_21 rfl 1 rfl ?_
  refine v_getQ (pc := 22) (r := (some b)) hC dM_scaling_22 inM rfl 8 (by decide) q483 (Or.inl rfl) hf (fun r6 hf => ?_)
  refine v_iload_n (pc := 25) (i := 1) (x := a1) hC dM_scaling_25 rfl 2 rfl ?_
  refine v_iald (pc := 26) hC dM_scaling_26 hf (fun x7 hf => ?_)
  refine v_lshl (pc := 27) hC dM_scaling_27 ?_
  refine v_callV (pc := 28) (r := (some b)) (As := [.long j3, .long ((1 : Int64) <<< (x7.toInt64 &&& 63))]) (rest := []) (k' := 0) (n' := 0) (st1 := (fun yq => [.long yq])) hC dM_scaling_28 q632 q634 p32 q7 q635 ykM_rounded rfl rfl (fun bq rq wq hq => mM_rounded _ _ bq j3 ((1 : Int64) <<< (x7.toInt64 &&& 63)) _ rq wq hq) (by rw [hR]; decide) (by simp only [List.map_cons, List.map_nil, va_cat]; exact Nat.le_of_ble_eq_true rfl) (by decide) (by rw [hR]; decide) hf rfl (fun _ => rfl) (fun j8 w9 hf => ?_)
  refine v_l2i (pc := 31) hC dM_scaling_31 ?_
  exact v_iret (pc := 32) hC hE dM_scaling_32 (by rw [hR]; decide) (by rw [hR]; decide) hf
theorem mM_scaling (l : Launch) (G : cG) (b : Nat) (a1 : Int32) (a2 : Int32) (w : cW) (r : Int32) (w' : cW) (hf : fM_scaling b a1 a2 w = some (r, w')) : Met l yM_scaling (wsM yM_scaling prog_7_method_23_code 5 (some .int)) rmM_scaling (mP G w [va_rf (some b), .int a1, .int a2]) (mQ mkI G w w' r) (rmM_scaling).cells (rmM_scaling).slots (Aw w) :=
  met_of (by decide +kernel) rfl (Nat.le_of_ble_eq_true rfl) (fun C hC hR _ _ _ hts hE => tM_scaling (okC.tbl hC) hE hR a1 a2 w hf)
set_option maxHeartbeats 4000000 in
set_option maxRecDepth 100000 in
theorem tM_cell {C : xC} {G : cG} {w0 w' : cW} {r : Int32} {b : Nat} (hC : okC C prog_7_method_30_code 3 "ArenaNetworkModel" lw_gd) (hE : xE C (some .int) mkI G w0 w' r) (hR : xR C = rmM_cell) (a1 : Int32) (a2 : Int32) (w : cW) (hf : fM_cell b a1 a2 w = some (r, w')) : V C w 0 0 0 [(0, va_rf (some b)), (1, .int a1), (2, .int a2)] [] := by
  unfold fM_cell at hf
  refine v_aload_n (pc := 0) (i := 0) (r := (some b)) hC dM_cell_0 rfl 0 rfl ?_
  refine v_iload_n (pc := 1) (i := 1) (x := a1) hC dM_cell_1 rfl 1 rfl ?_
  refine v_callV (pc := 2) (r := (some b)) (As := [.int a1]) (rest := []) (k' := 0) (n' := 0) (st1 := (fun yq => [.int yq])) hC dM_cell_2 q546 q548 p19 q7 q549 ykM_noTensor rfl rfl (fun bq rq wq hq => mM_noTensor _ _ bq a1 _ rq wq hq) (by rw [hR]; decide) (by simp only [List.map_cons, List.map_nil, va_cat]; exact Nat.le_of_ble_eq_true rfl) (by decide) (by rw [hR]; decide) hf rfl (fun _ => rfl) (fun x1 w2 hf => ?_)
  refine v_if_ne (pc := 5) (tgt := 22) hC dM_cell_5 (by decide) hf (fun hf => ?_) (fun hf => ?_)
  · refine v_sipush (pc := 22) (v := (-1000 : Int32)) hC dM_cell_22 (by decide) ?_
    exact v_iret (pc := 25) hC hE dM_cell_25 (by rw [hR]; decide) (by rw [hR]; decide) hf
  · refine v_iload_n (pc := 8) (i := 2) (x := a2) hC dM_cell_8 rfl 2 rfl ?_
    refine v_if_lt (pc := 9) (tgt := 22) hC dM_cell_9 (by decide) hf (fun hf => ?_) (fun hf => ?_)
    · refine v_sipush (pc := 22) (v := (-1000 : Int32)) hC dM_cell_22 (by decide) ?_
      exact v_iret (pc := 25) hC hE dM_cell_25 (by rw [hR]; decide) (by rw [hR]; decide) hf
    · refine v_iload_n (pc := 12) (i := 2) (x := a2) hC dM_cell_12 rfl 2 rfl ?_
      refine v_aload_n (pc := 13) (i := 0) (r := (some b)) hC dM_cell_13 rfl 0 rfl ?_
      refine v_getQ (pc := 14) (r := (some b)) hC dM_cell_14 inM rfl 1 (by decide) q476 (Or.inl rfl) hf (fun r4 hf => ?_)
      refine v_iload_n (pc := 17) (i := 1) (x := a1) hC dM_cell_17 rfl 1 rfl ?_
      refine v_iald (pc := 18) hC dM_cell_18 hf (fun x5 hf => ?_)
      refine v_icmp_lt (pc := 19) (tgt := 26) hC dM_cell_19 (by decide) hf (fun hf => ?_) (fun hf => ?_)
      · refine v_aload_n (pc := 26) (i := 0) (r := (some b)) hC dM_cell_26 rfl 0 rfl ?_
        refine v_getQ (pc := 27) (r := (some b)) hC dM_cell_27 inM rfl 0 (by decide) q475 (Or.inl rfl) hf (fun r6 hf => ?_)
        refine v_iload_n (pc := 30) (i := 1) (x := a1) hC dM_cell_30 rfl 1 rfl ?_
        refine v_iald (pc := 31) hC dM_cell_31 hf (fun x7 hf => ?_)
        refine v_if_ne (pc := 32) (tgt := 47) hC dM_cell_32 (by decide) hf (fun hf => ?_) (fun hf => ?_)
        · refine v_aload_n (pc := 47) (i := 0) (r := (some b)) hC dM_cell_47 rfl 0 rfl ?_
          refine v_getI (pc := 48) (r := (some b)) hC dM_cell_48 inM rfl 18 (by decide) q493 (Or.inl rfl) hf (fun x8 hf => ?_)
          refine v_if_lt (pc := 51) (tgt := 88) hC dM_cell_51 (by decide) hf (fun hf => ?_) (fun hf => ?_)
          · refine v_sipush (pc := 88) (v := (-1000 : Int32)) hC dM_cell_88 (by decide) ?_
            exact v_iret (pc := 91) hC hE dM_cell_91 (by rw [hR]; decide) (by rw [hR]; decide) hf
          · refine v_aload_n (pc := 54) (i := 0) (r := (some b)) hC dM_cell_54 rfl 0 rfl ?_
            refine v_iload_n (pc := 55) (i := 1) (x := a1) hC dM_cell_55 rfl 1 rfl ?_
            refine v_callV (pc := 56) (r := (some b)) (As := [.int a1]) (rest := []) (k' := 0) (n' := 0) (st1 := (fun yq => [.int yq])) hC dM_cell_56 q566 q568 p20 q7 q569 ykM_lives rfl rfl (fun bq rq wq hq => mM_lives _ _ bq a1 _ rq wq hq) (by rw [hR]; decide) (by simp only [List.map_cons, List.map_nil, va_cat]; exact Nat.le_of_ble_eq_true rfl) (by decide) (by rw [hR]; decide) hf rfl (fun _ => rfl) (fun x9 w10 hf => ?_)
            refine v_if_eq (pc := 59) (tgt := 88) hC dM_cell_59 (by decide) hf (fun hf => ?_) (fun hf => ?_)
            · refine v_sipush (pc := 88) (v := (-1000 : Int32)) hC dM_cell_88 (by decide) ?_
              exact v_iret (pc := 91) hC hE dM_cell_91 (by rw [hR]; decide) (by rw [hR]; decide) hf
            · refine v_aload_n (pc := 62) (i := 0) (r := (some b)) hC dM_cell_62 rfl 0 rfl ?_
              refine v_iload_n (pc := 63) (i := 1) (x := a1) hC dM_cell_63 rfl 1 rfl ?_
              refine v_callV (pc := 64) (r := (some b)) (As := [.int a1]) (rest := []) (k' := 0) (n' := 0) (st1 := (fun yq => [.int yq])) hC dM_cell_64 q595 q597 p26 q7 q598 ykM_begin rfl rfl (fun bq rq wq hq => mM_begin _ _ bq a1 _ rq wq hq) (by rw [hR]; decide) (by simp only [List.map_cons, List.map_nil, va_cat]; exact Nat.le_of_ble_eq_true rfl) (by decide) (by rw [hR]; decide) hf rfl (fun _ => rfl) (fun x12 w13 hf => ?_)
              refine v_aload_n (pc := 67) (i := 0) (r := (some b)) hC dM_cell_67 rfl 0 rfl ?_
              refine v_getI (pc := 68) (r := (some b)) hC dM_cell_68 inM rfl 18 (by decide) q493 (Or.inl rfl) hf (fun x15 hf => ?_)
              refine v_icmp_ge (pc := 71) (tgt := 88) hC dM_cell_71 (by decide) hf (fun hf => ?_) (fun hf => ?_)
              · refine v_sipush (pc := 88) (v := (-1000 : Int32)) hC dM_cell_88 (by decide) ?_
                exact v_iret (pc := 91) hC hE dM_cell_91 (by rw [hR]; decide) (by rw [hR]; decide) hf
              · refine v_aload_n (pc := 74) (i := 0) (r := (some b)) hC dM_cell_74 rfl 0 rfl ?_
                refine v_iload_n (pc := 75) (i := 1) (x := a1) hC dM_cell_75 rfl 1 rfl ?_
                refine v_callV (pc := 76) (r := (some b)) (As := [.int a1]) (rest := []) (k' := 0) (n' := 0) (st1 := (fun yq => [.int yq])) hC dM_cell_76 q599 q601 p27 q7 q602 ykM_end rfl rfl (fun bq rq wq hq => mM_end _ _ bq a1 _ rq wq hq) (by rw [hR]; decide) (by simp only [List.map_cons, List.map_nil, va_cat]; exact Nat.le_of_ble_eq_true rfl) (by decide) (by rw [hR]; decide) hf rfl (fun _ => rfl) (fun x16 w17 hf => ?_)
                refine v_aload_n (pc := 79) (i := 0) (r := (some b)) hC dM_cell_79 rfl 0 rfl ?_
                refine v_getI (pc := 80) (r := (some b)) hC dM_cell_80 inM rfl 18 (by decide) q493 (Or.inl rfl) hf (fun x19 hf => ?_)
                refine v_iconst (pc := 83) (v := (1 : Int32)) hC dM_cell_83 (by decide) ?_
                refine v_isub (pc := 84) hC dM_cell_84 ?_
                refine v_icmp_ge (pc := 85) (tgt := 92) hC dM_cell_85 (by decide) hf (fun hf => ?_) (fun hf => ?_)
                · refine v_aload_n (pc := 92) (i := 0) (r := (some b)) hC dM_cell_92 rfl 0 rfl ?_
                  refine v_getQ (pc := 93) (r := (some b)) hC dM_cell_93 inM rfl 5 (by decide) q480 (Or.inl rfl) hf (fun r20 hf => ?_)
                  refine v_iload_n (pc := 96) (i := 1) (x := a1) hC dM_cell_96 rfl 1 rfl ?_
                  refine v_bipush (pc := 97) (v := (64 : Int32)) hC dM_cell_97 (by decide) ?_
                  refine v_imul (pc := 99) hC dM_cell_99 ?_
                  refine v_iload_n (pc := 100) (i := 2) (x := a2) hC dM_cell_100 rfl 2 rfl ?_
                  refine v_iadd (pc := 101) hC dM_cell_101 ?_
                  refine v_iald (pc := 102) hC dM_cell_102 hf (fun x21 hf => ?_)
                  exact v_iret (pc := 103) hC hE dM_cell_103 (by rw [hR]; decide) (by rw [hR]; decide) hf
                · refine v_sipush (pc := 88) (v := (-1000 : Int32)) hC dM_cell_88 (by decide) ?_
                  exact v_iret (pc := 91) hC hE dM_cell_91 (by rw [hR]; decide) (by rw [hR]; decide) hf
        · refine v_aload_n (pc := 35) (i := 0) (r := (some b)) hC dM_cell_35 rfl 0 rfl ?_
          refine v_getQ (pc := 36) (r := (some b)) hC dM_cell_36 inM rfl 4 (by decide) q479 (Or.inl rfl) hf (fun r22 hf => ?_)
          refine v_iload_n (pc := 39) (i := 1) (x := a1) hC dM_cell_39 rfl 1 rfl ?_
          refine v_bipush (pc := 40) (v := (64 : Int32)) hC dM_cell_40 (by decide) ?_
          refine v_imul (pc := 42) hC dM_cell_42 ?_
          refine v_iload_n (pc := 43) (i := 2) (x := a2) hC dM_cell_43 rfl 2 rfl ?_
          refine v_iadd (pc := 44) hC dM_cell_44 ?_
          refine v_iald (pc := 45) hC dM_cell_45 hf (fun x23 hf => ?_)
          exact v_iret (pc := 46) hC hE dM_cell_46 (by rw [hR]; decide) (by rw [hR]; decide) hf
      · refine v_sipush (pc := 22) (v := (-1000 : Int32)) hC dM_cell_22 (by decide) ?_
        exact v_iret (pc := 25) hC hE dM_cell_25 (by rw [hR]; decide) (by rw [hR]; decide) hf
theorem mM_cell (l : Launch) (G : cG) (b : Nat) (a1 : Int32) (a2 : Int32) (w : cW) (r : Int32) (w' : cW) (hf : fM_cell b a1 a2 w = some (r, w')) : Met l yM_cell (wsM yM_cell prog_7_method_30_code 3 (some .int)) rmM_cell (mP G w [va_rf (some b), .int a1, .int a2]) (mQ mkI G w w' r) (rmM_cell).cells (rmM_cell).slots (Aw w) :=
  met_of (by decide +kernel) rfl (Nat.le_of_ble_eq_true rfl) (fun C hC hR _ _ _ hts hE => tM_cell (okC.tbl hC) hE hR a1 a2 w hf)
set_option maxHeartbeats 4000000 in
set_option maxRecDepth 100000 in
theorem tM_offset {C : xC} {G : cG} {w0 w' : cW} {r : Int32} {b : Nat} (hC : okC C prog_7_method_31_code 2 "ArenaNetworkModel" lw_gd) (hE : xE C (some .int) mkI G w0 w' r) (hR : xR C = rmM_offset) (a1 : Int32) (w : cW) (hf : fM_offset b a1 w = some (r, w')) : V C w 0 0 0 [(0, va_rf (some b)), (1, .int a1)] [] := by
  unfold fM_offset at hf
  refine v_aload_n (pc := 0) (i := 0) (r := (some b)) hC dM_offset_0 rfl 0 rfl ?_
  refine v_iload_n (pc := 1) (i := 1) (x := a1) hC dM_offset_1 rfl 1 rfl ?_
  refine v_callV (pc := 2) (r := (some b)) (As := [.int a1]) (rest := []) (k' := 0) (n' := 0) (st1 := (fun yq => [.int yq])) hC dM_offset_2 q566 q568 p20 q7 q569 ykM_lives rfl rfl (fun bq rq wq hq => mM_lives _ _ bq a1 _ rq wq hq) (by rw [hR]; decide) (by simp only [List.map_cons, List.map_nil, va_cat]; exact Nat.le_of_ble_eq_true rfl) (by decide) (by rw [hR]; decide) hf rfl (fun _ => rfl) (fun x1 w2 hf => ?_)
  refine v_if_eq (pc := 5) (tgt := 17) hC dM_offset_5 (by decide) hf (fun hf => ?_) (fun hf => ?_)
  · refine v_iconst (pc := 17) (v := (-1 : Int32)) hC dM_offset_17 (by decide) ?_
    exact v_iret (pc := 18) hC hE dM_offset_18 (by rw [hR]; decide) (by rw [hR]; decide) hf
  · refine v_aload_n (pc := 8) (i := 0) (r := (some b)) hC dM_offset_8 rfl 0 rfl ?_
    refine v_getQ (pc := 9) (r := (some b)) hC dM_offset_9 inM rfl 16 (by decide) q491 (Or.inl rfl) hf (fun r4 hf => ?_)
    refine v_iload_n (pc := 12) (i := 1) (x := a1) hC dM_offset_12 rfl 1 rfl ?_
    refine v_iald (pc := 13) hC dM_offset_13 hf (fun x5 hf => ?_)
    refine v_goto (pc := 14) (tgt := 18) hC dM_offset_14 (by decide) ?_
    exact v_iret (pc := 18) hC hE dM_offset_18 (by rw [hR]; decide) (by rw [hR]; decide) hf
theorem mM_offset (l : Launch) (G : cG) (b : Nat) (a1 : Int32) (w : cW) (r : Int32) (w' : cW) (hf : fM_offset b a1 w = some (r, w')) : Met l yM_offset (wsM yM_offset prog_7_method_31_code 2 (some .int)) rmM_offset (mP G w [va_rf (some b), .int a1]) (mQ mkI G w w' r) (rmM_offset).cells (rmM_offset).slots (Aw w) :=
  met_of (by decide +kernel) rfl (Nat.le_of_ble_eq_true rfl) (fun C hC hR _ _ _ hts hE => tM_offset (okC.tbl hC) hE hR a1 w hf)
set_option maxHeartbeats 4000000 in
set_option maxRecDepth 100000 in
theorem tM_life {C : xC} {G : cG} {w0 w' : cW} {r : Int32} {b : Nat} (hC : okC C prog_7_method_32_code 3 "ArenaNetworkModel" lw_gd) (hE : xE C (some .int) mkI G w0 w' r) (hR : xR C = rmM_life) (a1 : Int32) (a2 : Int32) (w : cW) (hf : fM_life b a1 a2 w = some (r, w')) : V C w 0 0 0 [(0, va_rf (some b)), (1, .int a1), (2, .int a2)] [] := by
  unfold fM_life at hf
  refine v_aload_n (pc := 0) (i := 0) (r := (some b)) hC dM_life_0 rfl 0 rfl ?_
  refine v_iload_n (pc := 1) (i := 1) (x := a1) hC dM_life_1 rfl 1 rfl ?_
  refine v_callV (pc := 2) (r := (some b)) (As := [.int a1]) (rest := []) (k' := 0) (n' := 0) (st1 := (fun yq => [.int yq])) hC dM_life_2 q566 q568 p20 q7 q569 ykM_lives rfl rfl (fun bq rq wq hq => mM_lives _ _ bq a1 _ rq wq hq) (by rw [hR]; decide) (by simp only [List.map_cons, List.map_nil, va_cat]; exact Nat.le_of_ble_eq_true rfl) (by decide) (by rw [hR]; decide) hf rfl (fun _ => rfl) (fun x1 w2 hf => ?_)
  refine v_if_ne (pc := 5) (tgt := 12) hC dM_life_5 (by decide) hf (fun hf => ?_) (fun hf => ?_)
  · refine v_iload_n (pc := 12) (i := 2) (x := a2) hC dM_life_12 rfl 2 rfl ?_
    refine v_if_eq (pc := 13) (tgt := 24) hC dM_life_13 (by decide) hf (fun hf => ?_) (fun hf => ?_)
    · refine v_aload_n (pc := 24) (i := 0) (r := (some b)) hC dM_life_24 rfl 0 rfl ?_
      refine v_iload_n (pc := 25) (i := 1) (x := a1) hC dM_life_25 rfl 1 rfl ?_
      refine v_callV (pc := 26) (r := (some b)) (As := [.int a1]) (rest := []) (k' := 0) (n' := 0) (st1 := (fun yq => [.int yq])) hC dM_life_26 q595 q597 p26 q7 q598 ykM_begin rfl rfl (fun bq rq wq hq => mM_begin _ _ bq a1 _ rq wq hq) (by rw [hR]; decide) (by simp only [List.map_cons, List.map_nil, va_cat]; exact Nat.le_of_ble_eq_true rfl) (by decide) (by rw [hR]; decide) hf rfl (fun _ => rfl) (fun x4 w5 hf => ?_)
      exact v_iret (pc := 29) hC hE dM_life_29 (by rw [hR]; decide) (by rw [hR]; decide) hf
    · refine v_aload_n (pc := 16) (i := 0) (r := (some b)) hC dM_life_16 rfl 0 rfl ?_
      refine v_iload_n (pc := 17) (i := 1) (x := a1) hC dM_life_17 rfl 1 rfl ?_
      refine v_callV (pc := 18) (r := (some b)) (As := [.int a1]) (rest := []) (k' := 0) (n' := 0) (st1 := (fun yq => [.int yq])) hC dM_life_18 q599 q601 p27 q7 q602 ykM_end rfl rfl (fun bq rq wq hq => mM_end _ _ bq a1 _ rq wq hq) (by rw [hR]; decide) (by simp only [List.map_cons, List.map_nil, va_cat]; exact Nat.le_of_ble_eq_true rfl) (by decide) (by rw [hR]; decide) hf rfl (fun _ => rfl) (fun x7 w8 hf => ?_)
      refine v_goto (pc := 21) (tgt := 29) hC dM_life_21 (by decide) ?_
      exact v_iret (pc := 29) hC hE dM_life_29 (by rw [hR]; decide) (by rw [hR]; decide) hf
  · refine v_sipush (pc := 8) (v := (-1000 : Int32)) hC dM_life_8 (by decide) ?_
    exact v_iret (pc := 11) hC hE dM_life_11 (by rw [hR]; decide) (by rw [hR]; decide) hf
theorem mM_life (l : Launch) (G : cG) (b : Nat) (a1 : Int32) (a2 : Int32) (w : cW) (r : Int32) (w' : cW) (hf : fM_life b a1 a2 w = some (r, w')) : Met l yM_life (wsM yM_life prog_7_method_32_code 3 (some .int)) rmM_life (mP G w [va_rf (some b), .int a1, .int a2]) (mQ mkI G w w' r) (rmM_life).cells (rmM_life).slots (Aw w) :=
  met_of (by decide +kernel) rfl (Nat.le_of_ble_eq_true rfl) (fun C hC hR _ _ _ hts hE => tM_life (okC.tbl hC) hE hR a1 a2 w hf)
set_option maxHeartbeats 4000000 in
set_option maxRecDepth 100000 in
theorem tM_scaled {C : xC} {G : cG} {w0 w' : cW} {r : Int32} {b : Nat} (hC : okC C prog_7_method_33_code 3 "ArenaNetworkModel" lw_gd) (hE : xE C (some .int) mkI G w0 w' r) (hR : xR C = rmM_scaled) (a1 : Int32) (a2 : Int32) (w : cW) (hf : fM_scaled b a1 a2 w = some (r, w')) : V C w 0 0 0 [(0, va_rf (some b)), (1, .int a1), (2, .int a2)] [] := by
  unfold fM_scaled at hf
  refine v_iload_n (pc := 0) (i := 1) (x := a1) hC dM_scaled_0 rfl 1 rfl ?_
  refine v_if_lt (pc := 1) (tgt := 22) hC dM_scaled_1 (by decide) hf (fun hf => ?_) (fun hf => ?_)
  · refine v_iconst (pc := 22) (v := (0 : Int32)) hC dM_scaled_22 (by decide) ?_
    refine v_goto (pc := 23) (tgt := 32) hC dM_scaled_23 (by decide) ?_
    exact v_iret (pc := 32) hC hE dM_scaled_32 (by rw [hR]; decide) (by rw [hR]; decide) hf
  · refine v_iload_n (pc := 4) (i := 1) (x := a1) hC dM_scaled_4 rfl 1 rfl ?_
    refine v_bipush (pc := 5) (v := (7 : Int32)) hC dM_scaled_5 (by decide) ?_
    refine v_icmp_gt (pc := 7) (tgt := 22) hC dM_scaled_7 (by decide) hf (fun hf => ?_) (fun hf => ?_)
    · refine v_iconst (pc := 22) (v := (0 : Int32)) hC dM_scaled_22 (by decide) ?_
      refine v_goto (pc := 23) (tgt := 32) hC dM_scaled_23 (by decide) ?_
      exact v_iret (pc := 32) hC hE dM_scaled_32 (by rw [hR]; decide) (by rw [hR]; decide) hf
    · refine v_iload_n (pc := 10) (i := 2) (x := a2) hC dM_scaled_10 rfl 2 rfl ?_
      refine v_ldc (pc := 11) (v := (-16777216 : Int32)) hC dM_scaled_11 q666 ?_
      refine v_icmp_lt (pc := 13) (tgt := 22) hC dM_scaled_13 (by decide) hf (fun hf => ?_) (fun hf => ?_)
      · refine v_iconst (pc := 22) (v := (0 : Int32)) hC dM_scaled_22 (by decide) ?_
        refine v_goto (pc := 23) (tgt := 32) hC dM_scaled_23 (by decide) ?_
        exact v_iret (pc := 32) hC hE dM_scaled_32 (by rw [hR]; decide) (by rw [hR]; decide) hf
      · refine v_iload_n (pc := 16) (i := 2) (x := a2) hC dM_scaled_16 rfl 2 rfl ?_
        refine v_ldc (pc := 17) (v := (16777216 : Int32)) hC dM_scaled_17 q667 ?_
        refine v_icmp_le (pc := 19) (tgt := 26) hC dM_scaled_19 (by decide) hf (fun hf => ?_) (fun hf => ?_)
        · refine v_aload_n (pc := 26) (i := 0) (r := (some b)) hC dM_scaled_26 rfl 0 rfl ?_
          refine v_iload_n (pc := 27) (i := 1) (x := a1) hC dM_scaled_27 rfl 1 rfl ?_
          refine v_iload_n (pc := 28) (i := 2) (x := a2) hC dM_scaled_28 rfl 2 rfl ?_
          refine v_callV (pc := 29) (r := (some b)) (As := [.int a1, .int a2]) (rest := []) (k' := 0) (n' := 0) (st1 := (fun yq => [.int yq])) hC dM_scaled_29 q627 q629 p31 q7 q630 ykM_scaling rfl rfl (fun bq rq wq hq => mM_scaling _ _ bq a1 a2 _ rq wq hq) (by rw [hR]; decide) (by simp only [List.map_cons, List.map_nil, va_cat]; exact Nat.le_of_ble_eq_true rfl) (by decide) (by rw [hR]; decide) hf rfl (fun _ => rfl) (fun x1 w2 hf => ?_)
          exact v_iret (pc := 32) hC hE dM_scaled_32 (by rw [hR]; decide) (by rw [hR]; decide) hf
        · refine v_iconst (pc := 22) (v := (0 : Int32)) hC dM_scaled_22 (by decide) ?_
          refine v_goto (pc := 23) (tgt := 32) hC dM_scaled_23 (by decide) ?_
          exact v_iret (pc := 32) hC hE dM_scaled_32 (by rw [hR]; decide) (by rw [hR]; decide) hf
theorem mM_scaled (l : Launch) (G : cG) (b : Nat) (a1 : Int32) (a2 : Int32) (w : cW) (r : Int32) (w' : cW) (hf : fM_scaled b a1 a2 w = some (r, w')) : Met l yM_scaled (wsM yM_scaled prog_7_method_33_code 3 (some .int)) rmM_scaled (mP G w [va_rf (some b), .int a1, .int a2]) (mQ mkI G w w' r) (rmM_scaled).cells (rmM_scaled).slots (Aw w) :=
  met_of (by decide +kernel) rfl (Nat.le_of_ble_eq_true rfl) (fun C hC hR _ _ _ hts hE => tM_scaled (okC.tbl hC) hE hR a1 a2 w hf)
set_option maxHeartbeats 4000000 in
set_option maxRecDepth 100000 in
theorem tM_count_l68 {C : xC} {G : cG} {w0 w' : cW} {r : Int32} {b : Nat} (hC : okC C prog_7_method_34_code 4 "ArenaNetworkModel" lw_gd) (hE : xE C (some .int) mkI G w0 w' r) (hR : xR C = rmM_count)  : ∀ n : Nat, ∀ (a2 : Int32) (a3 : Int32) (w : cW), fM_count_l68 b n a2 a3 w = some (r, w') → V C w 0 0 68 [(0, va_rf (some b)), (2, .int a2), (3, .int a3)] [] := by
  refine lp_P (P := fun (f : Int32 → Int32 → cW → Option (Int32 × cW)) => ∀ (a2 : Int32) (a3 : Int32) (w : cW), f a2 a3 w = some (r, w') → V C w 0 0 68 [(0, va_rf (some b)), (2, .int a2), (3, .int a3)] []) ?_ ?_
  · intro a2 a3 w hf
    cases hf
  · intro rec68 hrec68 a2 a3 w hf
    unfold fM_count_b68 at hf
    refine v_iload_n (pc := 68) (i := 3) (x := a3) hC dM_count_68 rfl 2 rfl ?_
    refine v_aload_n (pc := 69) (i := 0) (r := (some b)) hC dM_count_69 rfl 0 rfl ?_
    refine v_getI (pc := 70) (r := (some b)) hC dM_count_70 inM rfl 6 (by decide) q481 (Or.inl rfl) hf (fun x1 hf => ?_)
    refine v_icmp_ge (pc := 73) (tgt := 99) hC dM_count_73 (by decide) hf (fun hf => ?_) (fun hf => ?_)
    · refine v_iload_n (pc := 99) (i := 2) (x := a2) hC dM_count_99 rfl 1 rfl ?_
      exact v_iret (pc := 100) hC hE dM_count_100 (by rw [hR]; decide) (by rw [hR]; decide) hf
    · refine v_aload_n (pc := 76) (i := 0) (r := (some b)) hC dM_count_76 rfl 0 rfl ?_
      refine v_iload_n (pc := 77) (i := 3) (x := a3) hC dM_count_77 rfl 2 rfl ?_
      refine v_callV (pc := 78) (r := (some b)) (As := [.int a3]) (rest := []) (k' := 0) (n' := 0) (st1 := (fun yq => [.int yq])) hC dM_count_78 q566 q568 p20 q7 q569 ykM_lives rfl rfl (fun bq rq wq hq => mM_lives _ _ bq a3 _ rq wq hq) (by rw [hR]; decide) (by simp only [List.map_cons, List.map_nil, va_cat]; exact Nat.le_of_ble_eq_true rfl) (by decide) (by rw [hR]; decide) hf rfl (fun _ => rfl) (fun x2 w3 hf => ?_)
      refine v_if_eq (pc := 81) (tgt := 93) hC dM_count_81 (by decide) hf (fun hf => ?_) (fun hf => ?_)
      · refine v_iincB (pc := 93) (i := 3) (x := a3) (v := (1 : Int32)) hC dM_count_93 2 rfl (by decide) (by decide) (fun x5 => [(3, .int x5), (0, va_rf (some b)), (2, .int a2)]) (fun _ => rfl) hf (fun x5 hf => ?_)
        refine v_goto (pc := 96) (tgt := 68) hC dM_count_96 (by decide) ?_
        exact V.sub [1, 2, 0] rfl (hrec68 _ _ _ hf)
      · refine v_iload_n (pc := 84) (i := 2) (x := a2) hC dM_count_84 rfl 1 rfl ?_
        refine v_aload_n (pc := 85) (i := 0) (r := (some b)) hC dM_count_85 rfl 0 rfl ?_
        refine v_getQ (pc := 86) (r := (some b)) hC dM_count_86 inM rfl 1 (by decide) q476 (Or.inl rfl) hf (fun r6 hf => ?_)
        refine v_iload_n (pc := 89) (i := 3) (x := a3) hC dM_count_89 rfl 2 rfl ?_
        refine v_iald (pc := 90) hC dM_count_90 hf (fun x7 hf => ?_)
        refine v_iadd (pc := 91) hC dM_count_91 ?_
        refine v_bndi hf (fun x8 hf => ?_)
        refine v_istore_n (pc := 92) (i := 2) (x := x8) hC dM_count_92 rfl (by decide) [(2, .int x8), (0, va_rf (some b)), (3, .int a3)] rfl ?_
        refine v_iincB (pc := 93) (i := 3) (x := a3) (v := (1 : Int32)) hC dM_count_93 2 rfl (by decide) (by decide) (fun x9 => [(3, .int x9), (2, .int x8), (0, va_rf (some b))]) (fun _ => rfl) hf (fun x9 hf => ?_)
        refine v_goto (pc := 96) (tgt := 68) hC dM_count_96 (by decide) ?_
        exact V.sub [2, 1, 0] rfl (hrec68 _ _ _ hf)
set_option maxHeartbeats 4000000 in
set_option maxRecDepth 100000 in
theorem tM_count {C : xC} {G : cG} {w0 w' : cW} {r : Int32} {b : Nat} (hC : okC C prog_7_method_34_code 4 "ArenaNetworkModel" lw_gd) (hE : xE C (some .int) mkI G w0 w' r) (hR : xR C = rmM_count) (a1 : Int32) (w : cW) (hf : fM_count b a1 w = some (r, w')) : V C w 0 0 0 [(0, va_rf (some b)), (1, .int a1)] [] := by
  unfold fM_count at hf
  refine v_iload_n (pc := 0) (i := 1) (x := a1) hC dM_count_0 rfl 1 rfl ?_
  refine v_if_ne (pc := 1) (tgt := 9) hC dM_count_1 (by decide) hf (fun hf => ?_) (fun hf => ?_)
  · refine v_iload_n (pc := 9) (i := 1) (x := a1) hC dM_count_9 rfl 1 rfl ?_
    refine v_iconst (pc := 10) (v := (1 : Int32)) hC dM_count_10 (by decide) ?_
    refine v_icmp_ne (pc := 11) (tgt := 19) hC dM_count_11 (by decide) hf (fun hf => ?_) (fun hf => ?_)
    · refine v_iload_n (pc := 19) (i := 1) (x := a1) hC dM_count_19 rfl 1 rfl ?_
      refine v_iconst (pc := 20) (v := (2 : Int32)) hC dM_count_20 (by decide) ?_
      refine v_icmp_ne (pc := 21) (tgt := 37) hC dM_count_21 (by decide) hf (fun hf => ?_) (fun hf => ?_)
      · refine v_iload_n (pc := 37) (i := 1) (x := a1) hC dM_count_37 rfl 1 rfl ?_
        refine v_iconst (pc := 38) (v := (3 : Int32)) hC dM_count_38 (by decide) ?_
        refine v_icmp_ne (pc := 39) (tgt := 47) hC dM_count_39 (by decide) hf (fun hf => ?_) (fun hf => ?_)
        · refine v_iload_n (pc := 47) (i := 1) (x := a1) hC dM_count_47 rfl 1 rfl ?_
          refine v_iconst (pc := 48) (v := (4 : Int32)) hC dM_count_48 (by decide) ?_
          refine v_icmp_ne (pc := 49) (tgt := 57) hC dM_count_49 (by decide) hf (fun hf => ?_) (fun hf => ?_)
          · refine v_iload_n (pc := 57) (i := 1) (x := a1) hC dM_count_57 rfl 1 rfl ?_
            refine v_iconst (pc := 58) (v := (5 : Int32)) hC dM_count_58 (by decide) ?_
            refine v_icmp_eq (pc := 59) (tgt := 64) hC dM_count_59 (by decide) hf (fun hf => ?_) (fun hf => ?_)
            · refine v_iconst (pc := 64) (v := (0 : Int32)) hC dM_count_64 (by decide) ?_
              refine v_istore_n (pc := 65) (i := 2) (x := (0 : Int32)) hC dM_count_65 rfl (by decide) [(2, .int (0 : Int32)), (0, va_rf (some b)), (1, .int a1)] rfl ?_
              refine v_iconst (pc := 66) (v := (0 : Int32)) hC dM_count_66 (by decide) ?_
              refine v_istore_n (pc := 67) (i := 3) (x := (0 : Int32)) hC dM_count_67 rfl (by decide) [(3, .int (0 : Int32)), (2, .int (0 : Int32)), (0, va_rf (some b)), (1, .int a1)] rfl ?_
              exact V.sub [2, 1, 0] rfl (tM_count_l68 hC hE hR  FU _ _ _ hf)
            · refine v_iconst (pc := 62) (v := (-1 : Int32)) hC dM_count_62 (by decide) ?_
              exact v_iret (pc := 63) hC hE dM_count_63 (by rw [hR]; decide) (by rw [hR]; decide) hf
          · refine v_aload_n (pc := 52) (i := 0) (r := (some b)) hC dM_count_52 rfl 0 rfl ?_
            refine v_callV (pc := 53) (r := (some b)) (As := []) (rest := []) (k' := 0) (n' := 0) (st1 := (fun yq => [.int yq])) hC dM_count_53 q603 q605 p28 q7 q606 ykM_arena rfl rfl (fun bq rq wq hq => mM_arena _ _ bq  _ rq wq hq) (by rw [hR]; decide) (by simp only [List.map_cons, List.map_nil, va_cat]; exact Nat.le_of_ble_eq_true rfl) (by decide) (by rw [hR]; decide) hf rfl (fun _ => rfl) (fun x1 w2 hf => ?_)
            exact v_iret (pc := 56) hC hE dM_count_56 (by rw [hR]; decide) (by rw [hR]; decide) hf
        · refine v_aload_n (pc := 42) (i := 0) (r := (some b)) hC dM_count_42 rfl 0 rfl ?_
          refine v_getI (pc := 43) (r := (some b)) hC dM_count_43 inM rfl 18 (by decide) q493 (Or.inl rfl) hf (fun x4 hf => ?_)
          exact v_iret (pc := 46) hC hE dM_count_46 (by rw [hR]; decide) (by rw [hR]; decide) hf
      · refine v_aload_n (pc := 24) (i := 0) (r := (some b)) hC dM_count_24 rfl 0 rfl ?_
        refine v_getI (pc := 25) (r := (some b)) hC dM_count_25 inM rfl 15 (by decide) q490 (Or.inl rfl) hf (fun x5 hf => ?_)
        refine v_if_eq (pc := 28) (tgt := 35) hC dM_count_28 (by decide) hf (fun hf => ?_) (fun hf => ?_)
        · refine v_iconst (pc := 35) (v := (0 : Int32)) hC dM_count_35 (by decide) ?_
          exact v_iret (pc := 36) hC hE dM_count_36 (by rw [hR]; decide) (by rw [hR]; decide) hf
        · refine v_iconst (pc := 31) (v := (1 : Int32)) hC dM_count_31 (by decide) ?_
          refine v_goto (pc := 32) (tgt := 36) hC dM_count_32 (by decide) ?_
          exact v_iret (pc := 36) hC hE dM_count_36 (by rw [hR]; decide) (by rw [hR]; decide) hf
    · refine v_aload_n (pc := 14) (i := 0) (r := (some b)) hC dM_count_14 rfl 0 rfl ?_
      refine v_getI (pc := 15) (r := (some b)) hC dM_count_15 inM rfl 14 (by decide) q489 (Or.inl rfl) hf (fun x6 hf => ?_)
      exact v_iret (pc := 18) hC hE dM_count_18 (by rw [hR]; decide) (by rw [hR]; decide) hf
  · refine v_aload_n (pc := 4) (i := 0) (r := (some b)) hC dM_count_4 rfl 0 rfl ?_
    refine v_getI (pc := 5) (r := (some b)) hC dM_count_5 inM rfl 6 (by decide) q481 (Or.inl rfl) hf (fun x7 hf => ?_)
    exact v_iret (pc := 8) hC hE dM_count_8 (by rw [hR]; decide) (by rw [hR]; decide) hf
theorem mM_count (l : Launch) (G : cG) (b : Nat) (a1 : Int32) (w : cW) (r : Int32) (w' : cW) (hf : fM_count b a1 w = some (r, w')) : Met l yM_count (wsM yM_count prog_7_method_34_code 4 (some .int)) rmM_count (mP G w [va_rf (some b), .int a1]) (mQ mkI G w w' r) (rmM_count).cells (rmM_count).slots (Aw w) :=
  met_of (by decide +kernel) rfl (Nat.le_of_ble_eq_true rfl) (fun C hC hR _ _ _ hts hE => tM_count (okC.tbl hC) hE hR a1 w hf)
