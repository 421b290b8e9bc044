abbrev yN_init : MethodName := ⟨"ArenaNetwork", "<init>", "()V"⟩
abbrev rmN_init : Room := { frames := 5, cells := 16, slots := 128, locals := 100 }
theorem ykN_init : yOk yN_init 0 := by decide +kernel
theorem dN_init_0 : decode prog_1_method_1_code 0 = .ok (.aload_n 0, 1) := by decide +kernel
theorem dN_init_1 : decode prog_1_method_1_code 1 = .ok (.invokespecial 1, 3) := by decide +kernel
theorem dN_init_4 : decode prog_1_method_1_code 4 = .ok (.aload_n 0, 1) := by decide +kernel
theorem dN_init_5 : decode prog_1_method_1_code 5 = .ok (.new 7, 3) := by decide +kernel
theorem dN_init_8 : decode prog_1_method_1_code 8 = .ok (.dup, 1) := by decide +kernel
theorem dN_init_9 : decode prog_1_method_1_code 9 = .ok (.invokespecial 9, 3) := by decide +kernel
theorem dN_init_12 : decode prog_1_method_1_code 12 = .ok (.putfield 10, 3) := by decide +kernel
theorem dN_init_15 : decode prog_1_method_1_code 15 = .ok (.aload_n 0, 1) := by decide +kernel
theorem dN_init_16 : decode prog_1_method_1_code 16 = .ok (.new 7, 3) := by decide +kernel
theorem dN_init_19 : decode prog_1_method_1_code 19 = .ok (.dup, 1) := by decide +kernel
theorem dN_init_20 : decode prog_1_method_1_code 20 = .ok (.invokespecial 9, 3) := by decide +kernel
theorem dN_init_23 : decode prog_1_method_1_code 23 = .ok (.putfield 16, 3) := by decide +kernel
theorem dN_init_26 : decode prog_1_method_1_code 26 = .ok (.aload_n 0, 1) := by decide +kernel
theorem dN_init_27 : decode prog_1_method_1_code 27 = .ok (.bipush (8), 2) := by decide +kernel
theorem dN_init_29 : decode prog_1_method_1_code 29 = .ok (.anewarray 19, 3) := by decide +kernel
theorem dN_init_32 : decode prog_1_method_1_code 32 = .ok (.putfield 21, 3) := by decide +kernel
theorem dN_init_35 : decode prog_1_method_1_code 35 = .ok (.aload_n 0, 1) := by decide +kernel
theorem dN_init_36 : decode prog_1_method_1_code 36 = .ok (.new 25, 3) := by decide +kernel
theorem dN_init_39 : decode prog_1_method_1_code 39 = .ok (.dup, 1) := by decide +kernel
theorem dN_init_40 : decode prog_1_method_1_code 40 = .ok (.invokespecial 27, 3) := by decide +kernel
theorem dN_init_43 : decode prog_1_method_1_code 43 = .ok (.putfield 28, 3) := by decide +kernel
theorem dN_init_46 : decode prog_1_method_1_code 46 = .ok (.aload_n 0, 1) := by decide +kernel
theorem dN_init_47 : decode prog_1_method_1_code 47 = .ok (.iconst (0), 1) := by decide +kernel
theorem dN_init_48 : decode prog_1_method_1_code 48 = .ok (.putfield 32, 3) := by decide +kernel
theorem dN_init_51 : decode prog_1_method_1_code 51 = .ok (.aload_n 0, 1) := by decide +kernel
theorem dN_init_52 : decode prog_1_method_1_code 52 = .ok (.iconst (-1), 1) := by decide +kernel
theorem dN_init_53 : decode prog_1_method_1_code 53 = .ok (.putfield 36, 3) := by decide +kernel
theorem dN_init_56 : decode prog_1_method_1_code 56 = .ok (.iconst (0), 1) := by decide +kernel
theorem dN_init_57 : decode prog_1_method_1_code 57 = .ok (.istore_n 1, 1) := by decide +kernel
theorem dN_init_58 : decode prog_1_method_1_code 58 = .ok (.iload_n 1, 1) := by decide +kernel
theorem dN_init_59 : decode prog_1_method_1_code 59 = .ok (.bipush (8), 2) := by decide +kernel
theorem dN_init_61 : decode prog_1_method_1_code 61 = .ok (.if_icmp .ge (22), 3) := by decide +kernel
theorem dN_init_64 : decode prog_1_method_1_code 64 = .ok (.aload_n 0, 1) := by decide +kernel
theorem dN_init_65 : decode prog_1_method_1_code 65 = .ok (.getfield 21, 3) := by decide +kernel
theorem dN_init_68 : decode prog_1_method_1_code 68 = .ok (.iload_n 1, 1) := by decide +kernel
theorem dN_init_69 : decode prog_1_method_1_code 69 = .ok (.new 19, 3) := by decide +kernel
theorem dN_init_72 : decode prog_1_method_1_code 72 = .ok (.dup, 1) := by decide +kernel
theorem dN_init_73 : decode prog_1_method_1_code 73 = .ok (.invokespecial 40, 3) := by decide +kernel
theorem dN_init_76 : decode prog_1_method_1_code 76 = .ok (.aastore, 1) := by decide +kernel
theorem dN_init_77 : decode prog_1_method_1_code 77 = .ok (.iinc 1 (1), 3) := by decide +kernel
theorem dN_init_80 : decode prog_1_method_1_code 80 = .ok (.goto (-22), 3) := by decide +kernel
theorem dN_init_83 : decode prog_1_method_1_code 83 = .ok (.return_, 1) := by decide +kernel
abbrev yN_tensorAt : MethodName := ⟨"ArenaNetwork", "tensorAt", "(I)LArenaNetwork$Tensor;"⟩
abbrev rmN_tensorAt : Room := { frames := 3, cells := 0, slots := 0, locals := 64 }
theorem ykN_tensorAt : yOk yN_tensorAt 1 := by decide +kernel
theorem dN_tensorAt_0 : decode prog_1_method_18_code 0 = .ok (.iload_n 1, 1) := by decide +kernel
theorem dN_tensorAt_1 : decode prog_1_method_18_code 1 = .ok (.ifCond .lt (28), 3) := by decide +kernel
theorem dN_tensorAt_4 : decode prog_1_method_18_code 4 = .ok (.iload_n 1, 1) := by decide +kernel
theorem dN_tensorAt_5 : decode prog_1_method_18_code 5 = .ok (.aload_n 0, 1) := by decide +kernel
theorem dN_tensorAt_6 : decode prog_1_method_18_code 6 = .ok (.getfield 10, 3) := by decide +kernel
theorem dN_tensorAt_9 : decode prog_1_method_18_code 9 = .ok (.invokevirtual 55, 3) := by decide +kernel
theorem dN_tensorAt_12 : decode prog_1_method_18_code 12 = .ok (.if_icmp .ge (17), 3) := by decide +kernel
theorem dN_tensorAt_15 : decode prog_1_method_18_code 15 = .ok (.aload_n 0, 1) := by decide +kernel
theorem dN_tensorAt_16 : decode prog_1_method_18_code 16 = .ok (.getfield 10, 3) := by decide +kernel
theorem dN_tensorAt_19 : decode prog_1_method_18_code 19 = .ok (.iload_n 1, 1) := by decide +kernel
theorem dN_tensorAt_20 : decode prog_1_method_18_code 20 = .ok (.invokevirtual 110, 3) := by decide +kernel
theorem dN_tensorAt_23 : decode prog_1_method_18_code 23 = .ok (.checkcast 41, 3) := by decide +kernel
theorem dN_tensorAt_26 : decode prog_1_method_18_code 26 = .ok (.goto (4), 3) := by decide +kernel
theorem dN_tensorAt_29 : decode prog_1_method_18_code 29 = .ok (.aconst_null, 1) := by decide +kernel
theorem dN_tensorAt_30 : decode prog_1_method_18_code 30 = .ok (.areturn, 1) := by decide +kernel
abbrev yN_livingTensorAt : MethodName := ⟨"ArenaNetwork", "livingTensorAt", "(I)LArenaNetwork$Tensor;"⟩
abbrev rmN_livingTensorAt : Room := { frames := 4, cells := 0, slots := 0, locals := 85 }
theorem ykN_livingTensorAt : yOk yN_livingTensorAt 1 := by decide +kernel
theorem dN_livingTensorAt_0 : decode prog_1_method_19_code 0 = .ok (.aload_n 0, 1) := by decide +kernel
theorem dN_livingTensorAt_1 : decode prog_1_method_19_code 1 = .ok (.iload_n 1, 1) := by decide +kernel
theorem dN_livingTensorAt_2 : decode prog_1_method_19_code 2 = .ok (.invokevirtual 66, 3) := by decide +kernel
theorem dN_livingTensorAt_5 : decode prog_1_method_19_code 5 = .ok (.astore_n 2, 1) := by decide +kernel
theorem dN_livingTensorAt_6 : decode prog_1_method_19_code 6 = .ok (.aload_n 0, 1) := by decide +kernel
theorem dN_livingTensorAt_7 : decode prog_1_method_19_code 7 = .ok (.getfield 32, 3) := by decide +kernel
theorem dN_livingTensorAt_10 : decode prog_1_method_19_code 10 = .ok (.ifCond .eq (18), 3) := by decide +kernel
theorem dN_livingTensorAt_13 : decode prog_1_method_19_code 13 = .ok (.aload_n 2, 1) := by decide +kernel
theorem dN_livingTensorAt_14 : decode prog_1_method_19_code 14 = .ok (.ifnull (14), 3) := by decide +kernel
theorem dN_livingTensorAt_17 : decode prog_1_method_19_code 17 = .ok (.aload_n 2, 1) := by decide +kernel
theorem dN_livingTensorAt_18 : decode prog_1_method_19_code 18 = .ok (.getfield 153, 3) := by decide +kernel
theorem dN_livingTensorAt_21 : decode prog_1_method_19_code 21 = .ok (.ifCond .eq (7), 3) := by decide +kernel
theorem dN_livingTensorAt_24 : decode prog_1_method_19_code 24 = .ok (.aload_n 2, 1) := by decide +kernel
theorem dN_livingTensorAt_25 : decode prog_1_method_19_code 25 = .ok (.goto (4), 3) := by decide +kernel
theorem dN_livingTensorAt_28 : decode prog_1_method_19_code 28 = .ok (.aconst_null, 1) := by decide +kernel
theorem dN_livingTensorAt_29 : decode prog_1_method_19_code 29 = .ok (.areturn, 1) := by decide +kernel
abbrev yN_isUnmadeBefore : MethodName := ⟨"ArenaNetwork", "isUnmadeBefore", "(ILArenaNetwork$Tensor;)Z"⟩
abbrev rmN_isUnmadeBefore : Room := { frames := 3, cells := 0, slots := 0, locals := 64 }
theorem ykN_isUnmadeBefore : yOk yN_isUnmadeBefore 2 := by decide +kernel
theorem dN_isUnmadeBefore_0 : decode prog_1_method_22_code 0 = .ok (.aload_n 2, 1) := by decide +kernel
theorem dN_isUnmadeBefore_1 : decode prog_1_method_22_code 1 = .ok (.getfield 70, 3) := by decide +kernel
theorem dN_isUnmadeBefore_4 : decode prog_1_method_22_code 4 = .ok (.iconst (2), 1) := by decide +kernel
theorem dN_isUnmadeBefore_5 : decode prog_1_method_22_code 5 = .ok (.if_icmp .eq (5), 3) := by decide +kernel
theorem dN_isUnmadeBefore_8 : decode prog_1_method_22_code 8 = .ok (.iconst (0), 1) := by decide +kernel
theorem dN_isUnmadeBefore_9 : decode prog_1_method_22_code 9 = .ok (.ireturn, 1) := by decide +kernel
theorem dN_isUnmadeBefore_10 : decode prog_1_method_22_code 10 = .ok (.iconst (0), 1) := by decide +kernel
theorem dN_isUnmadeBefore_11 : decode prog_1_method_22_code 11 = .ok (.istore_n 3, 1) := by decide +kernel
theorem dN_isUnmadeBefore_12 : decode prog_1_method_22_code 12 = .ok (.iload_n 3, 1) := by decide +kernel
theorem dN_isUnmadeBefore_13 : decode prog_1_method_22_code 13 = .ok (.iload_n 1, 1) := by decide +kernel
theorem dN_isUnmadeBefore_14 : decode prog_1_method_22_code 14 = .ok (.if_icmp .ge (29), 3) := by decide +kernel
theorem dN_isUnmadeBefore_17 : decode prog_1_method_22_code 17 = .ok (.aload_n 0, 1) := by decide +kernel
theorem dN_isUnmadeBefore_18 : decode prog_1_method_22_code 18 = .ok (.getfield 16, 3) := by decide +kernel
theorem dN_isUnmadeBefore_21 : decode prog_1_method_22_code 21 = .ok (.iload_n 3, 1) := by decide +kernel
theorem dN_isUnmadeBefore_22 : decode prog_1_method_22_code 22 = .ok (.invokevirtual 110, 3) := by decide +kernel
theorem dN_isUnmadeBefore_25 : decode prog_1_method_22_code 25 = .ok (.checkcast 89, 3) := by decide +kernel
theorem dN_isUnmadeBefore_28 : decode prog_1_method_22_code 28 = .ok (.getfield 163, 3) := by decide +kernel
theorem dN_isUnmadeBefore_31 : decode prog_1_method_22_code 31 = .ok (.aload_n 2, 1) := by decide +kernel
theorem dN_isUnmadeBefore_32 : decode prog_1_method_22_code 32 = .ok (.if_acmp .ne (5), 3) := by decide +kernel
theorem dN_isUnmadeBefore_35 : decode prog_1_method_22_code 35 = .ok (.iconst (0), 1) := by decide +kernel
theorem dN_isUnmadeBefore_36 : decode prog_1_method_22_code 36 = .ok (.ireturn, 1) := by decide +kernel
theorem dN_isUnmadeBefore_37 : decode prog_1_method_22_code 37 = .ok (.iinc 3 (1), 3) := by decide +kernel
theorem dN_isUnmadeBefore_40 : decode prog_1_method_22_code 40 = .ok (.goto (-28), 3) := by decide +kernel
theorem dN_isUnmadeBefore_43 : decode prog_1_method_22_code 43 = .ok (.iconst (1), 1) := by decide +kernel
theorem dN_isUnmadeBefore_44 : decode prog_1_method_22_code 44 = .ok (.ireturn, 1) := by decide +kernel
abbrev yN_faultOf : MethodName := ⟨"ArenaNetwork", "faultOf", "(I)I"⟩
abbrev rmN_faultOf : Room := { frames := 4, cells := 0, slots := 0, locals := 87 }
theorem ykN_faultOf : yOk yN_faultOf 1 := by decide +kernel
theorem dN_faultOf_0 : decode prog_1_method_21_code 0 = .ok (.aload_n 0, 1) := by decide +kernel
theorem dN_faultOf_1 : decode prog_1_method_21_code 1 = .ok (.getfield 16, 3) := by decide +kernel
theorem dN_faultOf_4 : decode prog_1_method_21_code 4 = .ok (.iload_n 1, 1) := by decide +kernel
theorem dN_faultOf_5 : decode prog_1_method_21_code 5 = .ok (.invokevirtual 110, 3) := by decide +kernel
theorem dN_faultOf_8 : decode prog_1_method_21_code 8 = .ok (.checkcast 89, 3) := by decide +kernel
theorem dN_faultOf_11 : decode prog_1_method_21_code 11 = .ok (.astore_n 2, 1) := by decide +kernel
theorem dN_faultOf_12 : decode prog_1_method_21_code 12 = .ok (.aload_n 0, 1) := by decide +kernel
theorem dN_faultOf_13 : decode prog_1_method_21_code 13 = .ok (.iload_n 1, 1) := by decide +kernel
theorem dN_faultOf_14 : decode prog_1_method_21_code 14 = .ok (.aload_n 2, 1) := by decide +kernel
theorem dN_faultOf_15 : decode prog_1_method_21_code 15 = .ok (.getfield 163, 3) := by decide +kernel
theorem dN_faultOf_18 : decode prog_1_method_21_code 18 = .ok (.invokevirtual 159, 3) := by decide +kernel
theorem dN_faultOf_21 : decode prog_1_method_21_code 21 = .ok (.ifCond .ne (5), 3) := by decide +kernel
theorem dN_faultOf_24 : decode prog_1_method_21_code 24 = .ok (.iconst (1), 1) := by decide +kernel
theorem dN_faultOf_25 : decode prog_1_method_21_code 25 = .ok (.ireturn, 1) := by decide +kernel
theorem dN_faultOf_26 : decode prog_1_method_21_code 26 = .ok (.aload_n 0, 1) := by decide +kernel
theorem dN_faultOf_27 : decode prog_1_method_21_code 27 = .ok (.iload_n 1, 1) := by decide +kernel
theorem dN_faultOf_28 : decode prog_1_method_21_code 28 = .ok (.aload_n 2, 1) := by decide +kernel
theorem dN_faultOf_29 : decode prog_1_method_21_code 29 = .ok (.getfield 167, 3) := by decide +kernel
theorem dN_faultOf_32 : decode prog_1_method_21_code 32 = .ok (.invokevirtual 159, 3) := by decide +kernel
theorem dN_faultOf_35 : decode prog_1_method_21_code 35 = .ok (.ifCond .ne (15), 3) := by decide +kernel
theorem dN_faultOf_38 : decode prog_1_method_21_code 38 = .ok (.aload_n 0, 1) := by decide +kernel
theorem dN_faultOf_39 : decode prog_1_method_21_code 39 = .ok (.iload_n 1, 1) := by decide +kernel
theorem dN_faultOf_40 : decode prog_1_method_21_code 40 = .ok (.aload_n 2, 1) := by decide +kernel
theorem dN_faultOf_41 : decode prog_1_method_21_code 41 = .ok (.getfield 170, 3) := by decide +kernel
theorem dN_faultOf_44 : decode prog_1_method_21_code 44 = .ok (.invokevirtual 159, 3) := by decide +kernel
theorem dN_faultOf_47 : decode prog_1_method_21_code 47 = .ok (.ifCond .eq (5), 3) := by decide +kernel
theorem dN_faultOf_50 : decode prog_1_method_21_code 50 = .ok (.iconst (2), 1) := by decide +kernel
theorem dN_faultOf_51 : decode prog_1_method_21_code 51 = .ok (.ireturn, 1) := by decide +kernel
theorem dN_faultOf_52 : decode prog_1_method_21_code 52 = .ok (.aload_n 2, 1) := by decide +kernel
theorem dN_faultOf_53 : decode prog_1_method_21_code 53 = .ok (.invokevirtual 173, 3) := by decide +kernel
theorem dN_faultOf_56 : decode prog_1_method_21_code 56 = .ok (.ifCond .eq (7), 3) := by decide +kernel
theorem dN_faultOf_59 : decode prog_1_method_21_code 59 = .ok (.iconst (0), 1) := by decide +kernel
theorem dN_faultOf_60 : decode prog_1_method_21_code 60 = .ok (.goto (4), 3) := by decide +kernel
theorem dN_faultOf_63 : decode prog_1_method_21_code 63 = .ok (.iconst (3), 1) := by decide +kernel
theorem dN_faultOf_64 : decode prog_1_method_21_code 64 = .ok (.ireturn, 1) := by decide +kernel
abbrev yN_firstFault : MethodName := ⟨"ArenaNetwork", "firstFault", "()I"⟩
abbrev rmN_firstFault : Room := { frames := 5, cells := 0, slots := 0, locals := 109 }
theorem ykN_firstFault : yOk yN_firstFault 0 := by decide +kernel
theorem dN_firstFault_0 : decode prog_1_method_20_code 0 = .ok (.iconst (0), 1) := by decide +kernel
theorem dN_firstFault_1 : decode prog_1_method_20_code 1 = .ok (.istore_n 1, 1) := by decide +kernel
theorem dN_firstFault_2 : decode prog_1_method_20_code 2 = .ok (.iload_n 1, 1) := by decide +kernel
theorem dN_firstFault_3 : decode prog_1_method_20_code 3 = .ok (.aload_n 0, 1) := by decide +kernel
theorem dN_firstFault_4 : decode prog_1_method_20_code 4 = .ok (.getfield 16, 3) := by decide +kernel
theorem dN_firstFault_7 : decode prog_1_method_20_code 7 = .ok (.invokevirtual 55, 3) := by decide +kernel
theorem dN_firstFault_10 : decode prog_1_method_20_code 10 = .ok (.if_icmp .ge (28), 3) := by decide +kernel
theorem dN_firstFault_13 : decode prog_1_method_20_code 13 = .ok (.aload_n 0, 1) := by decide +kernel
theorem dN_firstFault_14 : decode prog_1_method_20_code 14 = .ok (.iload_n 1, 1) := by decide +kernel
theorem dN_firstFault_15 : decode prog_1_method_20_code 15 = .ok (.invokevirtual 156, 3) := by decide +kernel
theorem dN_firstFault_18 : decode prog_1_method_20_code 18 = .ok (.istore_n 2, 1) := by decide +kernel
theorem dN_firstFault_19 : decode prog_1_method_20_code 19 = .ok (.iload_n 2, 1) := by decide +kernel
theorem dN_firstFault_20 : decode prog_1_method_20_code 20 = .ok (.ifCond .eq (12), 3) := by decide +kernel
theorem dN_firstFault_23 : decode prog_1_method_20_code 23 = .ok (.bipush (-10), 2) := by decide +kernel
theorem dN_firstFault_25 : decode prog_1_method_20_code 25 = .ok (.iload_n 1, 1) := by decide +kernel
theorem dN_firstFault_26 : decode prog_1_method_20_code 26 = .ok (.iconst (1), 1) := by decide +kernel
theorem dN_firstFault_27 : decode prog_1_method_20_code 27 = .ok (.iadd, 1) := by decide +kernel
theorem dN_firstFault_28 : decode prog_1_method_20_code 28 = .ok (.imul, 1) := by decide +kernel
theorem dN_firstFault_29 : decode prog_1_method_20_code 29 = .ok (.iload_n 2, 1) := by decide +kernel
theorem dN_firstFault_30 : decode prog_1_method_20_code 30 = .ok (.isub, 1) := by decide +kernel
theorem dN_firstFault_31 : decode prog_1_method_20_code 31 = .ok (.ireturn, 1) := by decide +kernel
theorem dN_firstFault_32 : decode prog_1_method_20_code 32 = .ok (.iinc 1 (1), 3) := by decide +kernel
theorem dN_firstFault_35 : decode prog_1_method_20_code 35 = .ok (.goto (-33), 3) := by decide +kernel
theorem dN_firstFault_38 : decode prog_1_method_20_code 38 = .ok (.iconst (0), 1) := by decide +kernel
theorem dN_firstFault_39 : decode prog_1_method_20_code 39 = .ok (.istore_n 1, 1) := by decide +kernel
theorem dN_firstFault_40 : decode prog_1_method_20_code 40 = .ok (.iload_n 1, 1) := by decide +kernel
theorem dN_firstFault_41 : decode prog_1_method_20_code 41 = .ok (.aload_n 0, 1) := by decide +kernel
theorem dN_firstFault_42 : decode prog_1_method_20_code 42 = .ok (.getfield 10, 3) := by decide +kernel
theorem dN_firstFault_45 : decode prog_1_method_20_code 45 = .ok (.invokevirtual 55, 3) := by decide +kernel
theorem dN_firstFault_48 : decode prog_1_method_20_code 48 = .ok (.if_icmp .ge (47), 3) := by decide +kernel
theorem dN_firstFault_51 : decode prog_1_method_20_code 51 = .ok (.aload_n 0, 1) := by decide +kernel
theorem dN_firstFault_52 : decode prog_1_method_20_code 52 = .ok (.getfield 10, 3) := by decide +kernel
theorem dN_firstFault_55 : decode prog_1_method_20_code 55 = .ok (.iload_n 1, 1) := by decide +kernel
theorem dN_firstFault_56 : decode prog_1_method_20_code 56 = .ok (.invokevirtual 110, 3) := by decide +kernel
theorem dN_firstFault_59 : decode prog_1_method_20_code 59 = .ok (.checkcast 41, 3) := by decide +kernel
theorem dN_firstFault_62 : decode prog_1_method_20_code 62 = .ok (.astore_n 2, 1) := by decide +kernel
theorem dN_firstFault_63 : decode prog_1_method_20_code 63 = .ok (.aload_n 2, 1) := by decide +kernel
theorem dN_firstFault_64 : decode prog_1_method_20_code 64 = .ok (.getfield 94, 3) := by decide +kernel
theorem dN_firstFault_67 : decode prog_1_method_20_code 67 = .ok (.ifCond .eq (22), 3) := by decide +kernel
theorem dN_firstFault_70 : decode prog_1_method_20_code 70 = .ok (.aload_n 0, 1) := by decide +kernel
theorem dN_firstFault_71 : decode prog_1_method_20_code 71 = .ok (.aload_n 0, 1) := by decide +kernel
theorem dN_firstFault_72 : decode prog_1_method_20_code 72 = .ok (.getfield 16, 3) := by decide +kernel
theorem dN_firstFault_75 : decode prog_1_method_20_code 75 = .ok (.invokevirtual 55, 3) := by decide +kernel
theorem dN_firstFault_78 : decode prog_1_method_20_code 78 = .ok (.aload_n 2, 1) := by decide +kernel
theorem dN_firstFault_79 : decode prog_1_method_20_code 79 = .ok (.invokevirtual 159, 3) := by decide +kernel
theorem dN_firstFault_82 : decode prog_1_method_20_code 82 = .ok (.ifCond .eq (7), 3) := by decide +kernel
theorem dN_firstFault_85 : decode prog_1_method_20_code 85 = .ok (.sipush (-1000), 3) := by decide +kernel
theorem dN_firstFault_88 : decode prog_1_method_20_code 88 = .ok (.ireturn, 1) := by decide +kernel
theorem dN_firstFault_89 : decode prog_1_method_20_code 89 = .ok (.iinc 1 (1), 3) := by decide +kernel
theorem dN_firstFault_92 : decode prog_1_method_20_code 92 = .ok (.goto (-52), 3) := by decide +kernel
theorem dN_firstFault_95 : decode prog_1_method_20_code 95 = .ok (.iconst (0), 1) := by decide +kernel
theorem dN_firstFault_96 : decode prog_1_method_20_code 96 = .ok (.ireturn, 1) := by decide +kernel
abbrev yN_giveLives : MethodName := ⟨"ArenaNetwork", "giveLives", "()V"⟩
abbrev rmN_giveLives : Room := { frames := 3, cells := 0, slots := 0, locals := 64 }
theorem ykN_giveLives : yOk yN_giveLives 0 := by decide +kernel
theorem dN_giveLives_0 : decode prog_1_method_23_code 0 = .ok (.iconst (0), 1) := by decide +kernel
theorem dN_giveLives_1 : decode prog_1_method_23_code 1 = .ok (.istore_n 1, 1) := by decide +kernel
theorem dN_giveLives_2 : decode prog_1_method_23_code 2 = .ok (.iload_n 1, 1) := by decide +kernel
theorem dN_giveLives_3 : decode prog_1_method_23_code 3 = .ok (.aload_n 0, 1) := by decide +kernel
theorem dN_giveLives_4 : decode prog_1_method_23_code 4 = .ok (.getfield 10, 3) := by decide +kernel
theorem dN_giveLives_7 : decode prog_1_method_23_code 7 = .ok (.invokevirtual 55, 3) := by decide +kernel
theorem dN_giveLives_10 : decode prog_1_method_23_code 10 = .ok (.if_icmp .ge (23), 3) := by decide +kernel
theorem dN_giveLives_13 : decode prog_1_method_23_code 13 = .ok (.aload_n 0, 1) := by decide +kernel
theorem dN_giveLives_14 : decode prog_1_method_23_code 14 = .ok (.getfield 10, 3) := by decide +kernel
theorem dN_giveLives_17 : decode prog_1_method_23_code 17 = .ok (.iload_n 1, 1) := by decide +kernel
theorem dN_giveLives_18 : decode prog_1_method_23_code 18 = .ok (.invokevirtual 110, 3) := by decide +kernel
theorem dN_giveLives_21 : decode prog_1_method_23_code 21 = .ok (.checkcast 41, 3) := by decide +kernel
theorem dN_giveLives_24 : decode prog_1_method_23_code 24 = .ok (.invokevirtual 177, 3) := by decide +kernel
theorem dN_giveLives_27 : decode prog_1_method_23_code 27 = .ok (.iinc 1 (1), 3) := by decide +kernel
theorem dN_giveLives_30 : decode prog_1_method_23_code 30 = .ok (.goto (-28), 3) := by decide +kernel
theorem dN_giveLives_33 : decode prog_1_method_23_code 33 = .ok (.iconst (0), 1) := by decide +kernel
theorem dN_giveLives_34 : decode prog_1_method_23_code 34 = .ok (.istore_n 1, 1) := by decide +kernel
theorem dN_giveLives_35 : decode prog_1_method_23_code 35 = .ok (.iload_n 1, 1) := by decide +kernel
theorem dN_giveLives_36 : decode prog_1_method_23_code 36 = .ok (.aload_n 0, 1) := by decide +kernel
theorem dN_giveLives_37 : decode prog_1_method_23_code 37 = .ok (.getfield 16, 3) := by decide +kernel
theorem dN_giveLives_40 : decode prog_1_method_23_code 40 = .ok (.invokevirtual 55, 3) := by decide +kernel
theorem dN_giveLives_43 : decode prog_1_method_23_code 43 = .ok (.if_icmp .ge (45), 3) := by decide +kernel
theorem dN_giveLives_46 : decode prog_1_method_23_code 46 = .ok (.aload_n 0, 1) := by decide +kernel
theorem dN_giveLives_47 : decode prog_1_method_23_code 47 = .ok (.getfield 16, 3) := by decide +kernel
theorem dN_giveLives_50 : decode prog_1_method_23_code 50 = .ok (.iload_n 1, 1) := by decide +kernel
theorem dN_giveLives_51 : decode prog_1_method_23_code 51 = .ok (.invokevirtual 110, 3) := by decide +kernel
theorem dN_giveLives_54 : decode prog_1_method_23_code 54 = .ok (.checkcast 89, 3) := by decide +kernel
theorem dN_giveLives_57 : decode prog_1_method_23_code 57 = .ok (.astore_n 2, 1) := by decide +kernel
theorem dN_giveLives_58 : decode prog_1_method_23_code 58 = .ok (.aload_n 2, 1) := by decide +kernel
theorem dN_giveLives_59 : decode prog_1_method_23_code 59 = .ok (.getfield 167, 3) := by decide +kernel
theorem dN_giveLives_62 : decode prog_1_method_23_code 62 = .ok (.iload_n 1, 1) := by decide +kernel
theorem dN_giveLives_63 : decode prog_1_method_23_code 63 = .ok (.putfield 132, 3) := by decide +kernel
theorem dN_giveLives_66 : decode prog_1_method_23_code 66 = .ok (.aload_n 2, 1) := by decide +kernel
theorem dN_giveLives_67 : decode prog_1_method_23_code 67 = .ok (.getfield 170, 3) := by decide +kernel
theorem dN_giveLives_70 : decode prog_1_method_23_code 70 = .ok (.iload_n 1, 1) := by decide +kernel
theorem dN_giveLives_71 : decode prog_1_method_23_code 71 = .ok (.putfield 132, 3) := by decide +kernel
theorem dN_giveLives_74 : decode prog_1_method_23_code 74 = .ok (.aload_n 2, 1) := by decide +kernel
theorem dN_giveLives_75 : decode prog_1_method_23_code 75 = .ok (.getfield 163, 3) := by decide +kernel
theorem dN_giveLives_78 : decode prog_1_method_23_code 78 = .ok (.iload_n 1, 1) := by decide +kernel
theorem dN_giveLives_79 : decode prog_1_method_23_code 79 = .ok (.invokevirtual 180, 3) := by decide +kernel
theorem dN_giveLives_82 : decode prog_1_method_23_code 82 = .ok (.iinc 1 (1), 3) := by decide +kernel
theorem dN_giveLives_85 : decode prog_1_method_23_code 85 = .ok (.goto (-50), 3) := by decide +kernel
theorem dN_giveLives_88 : decode prog_1_method_23_code 88 = .ok (.iconst (0), 1) := by decide +kernel
theorem dN_giveLives_89 : decode prog_1_method_23_code 89 = .ok (.istore_n 1, 1) := by decide +kernel
theorem dN_giveLives_90 : decode prog_1_method_23_code 90 = .ok (.iload_n 1, 1) := by decide +kernel
theorem dN_giveLives_91 : decode prog_1_method_23_code 91 = .ok (.aload_n 0, 1) := by decide +kernel
theorem dN_giveLives_92 : decode prog_1_method_23_code 92 = .ok (.getfield 10, 3) := by decide +kernel
theorem dN_giveLives_95 : decode prog_1_method_23_code 95 = .ok (.invokevirtual 55, 3) := by decide +kernel
theorem dN_giveLives_98 : decode prog_1_method_23_code 98 = .ok (.if_icmp .ge (39), 3) := by decide +kernel
theorem dN_giveLives_101 : decode prog_1_method_23_code 101 = .ok (.aload_n 0, 1) := by decide +kernel
theorem dN_giveLives_102 : decode prog_1_method_23_code 102 = .ok (.getfield 10, 3) := by decide +kernel
theorem dN_giveLives_105 : decode prog_1_method_23_code 105 = .ok (.iload_n 1, 1) := by decide +kernel
theorem dN_giveLives_106 : decode prog_1_method_23_code 106 = .ok (.invokevirtual 110, 3) := by decide +kernel
theorem dN_giveLives_109 : decode prog_1_method_23_code 109 = .ok (.checkcast 41, 3) := by decide +kernel
theorem dN_giveLives_112 : decode prog_1_method_23_code 112 = .ok (.astore_n 2, 1) := by decide +kernel
theorem dN_giveLives_113 : decode prog_1_method_23_code 113 = .ok (.aload_n 2, 1) := by decide +kernel
theorem dN_giveLives_114 : decode prog_1_method_23_code 114 = .ok (.getfield 94, 3) := by decide +kernel
theorem dN_giveLives_117 : decode prog_1_method_23_code 117 = .ok (.ifCond .eq (14), 3) := by decide +kernel
theorem dN_giveLives_120 : decode prog_1_method_23_code 120 = .ok (.aload_n 2, 1) := by decide +kernel
theorem dN_giveLives_121 : decode prog_1_method_23_code 121 = .ok (.aload_n 0, 1) := by decide +kernel
theorem dN_giveLives_122 : decode prog_1_method_23_code 122 = .ok (.getfield 16, 3) := by decide +kernel
theorem dN_giveLives_125 : decode prog_1_method_23_code 125 = .ok (.invokevirtual 55, 3) := by decide +kernel
theorem dN_giveLives_128 : decode prog_1_method_23_code 128 = .ok (.putfield 132, 3) := by decide +kernel
theorem dN_giveLives_131 : decode prog_1_method_23_code 131 = .ok (.iinc 1 (1), 3) := by decide +kernel
theorem dN_giveLives_134 : decode prog_1_method_23_code 134 = .ok (.goto (-44), 3) := by decide +kernel
theorem dN_giveLives_137 : decode prog_1_method_23_code 137 = .ok (.return_, 1) := by decide +kernel
abbrev yN_doNext : MethodName := ⟨"ArenaNetwork", "doNext", "()V"⟩
abbrev rmN_doNext : Room := { frames := 5, cells := 0, slots := 0, locals := 114 }
theorem ykN_doNext : yOk yN_doNext 0 := by decide +kernel
theorem dN_doNext_0 : decode prog_1_method_24_code 0 = .ok (.aload_n 0, 1) := by decide +kernel
theorem dN_doNext_1 : decode prog_1_method_24_code 1 = .ok (.getfield 16, 3) := by decide +kernel
theorem dN_doNext_4 : decode prog_1_method_24_code 4 = .ok (.aload_n 0, 1) := by decide +kernel
theorem dN_doNext_5 : decode prog_1_method_24_code 5 = .ok (.getfield 36, 3) := by decide +kernel
theorem dN_doNext_8 : decode prog_1_method_24_code 8 = .ok (.invokevirtual 110, 3) := by decide +kernel
theorem dN_doNext_11 : decode prog_1_method_24_code 11 = .ok (.checkcast 89, 3) := by decide +kernel
theorem dN_doNext_14 : decode prog_1_method_24_code 14 = .ok (.astore_n 1, 1) := by decide +kernel
theorem dN_doNext_15 : decode prog_1_method_24_code 15 = .ok (.aload_n 1, 1) := by decide +kernel
theorem dN_doNext_16 : decode prog_1_method_24_code 16 = .ok (.aload_n 0, 1) := by decide +kernel
theorem dN_doNext_17 : decode prog_1_method_24_code 17 = .ok (.getfield 21, 3) := by decide +kernel
theorem dN_doNext_20 : decode prog_1_method_24_code 20 = .ok (.aload_n 1, 1) := by decide +kernel
theorem dN_doNext_21 : decode prog_1_method_24_code 21 = .ok (.getfield 184, 3) := by decide +kernel
theorem dN_doNext_24 : decode prog_1_method_24_code 24 = .ok (.aaload, 1) := by decide +kernel
theorem dN_doNext_25 : decode prog_1_method_24_code 25 = .ok (.invokevirtual 187, 3) := by decide +kernel
theorem dN_doNext_28 : decode prog_1_method_24_code 28 = .ok (.aload_n 0, 1) := by decide +kernel
theorem dN_doNext_29 : decode prog_1_method_24_code 29 = .ok (.dup, 1) := by decide +kernel
theorem dN_doNext_30 : decode prog_1_method_24_code 30 = .ok (.getfield 36, 3) := by decide +kernel
theorem dN_doNext_33 : decode prog_1_method_24_code 33 = .ok (.iconst (1), 1) := by decide +kernel
theorem dN_doNext_34 : decode prog_1_method_24_code 34 = .ok (.iadd, 1) := by decide +kernel
theorem dN_doNext_35 : decode prog_1_method_24_code 35 = .ok (.putfield 36, 3) := by decide +kernel
theorem dN_doNext_38 : decode prog_1_method_24_code 38 = .ok (.return_, 1) := by decide +kernel
def fN_init_b58 (b : Nat)  (rec58 : Int32 → Nat → cW → Option (Unit × cW)) (a1 : Int32) (c : Nat) (w : cW) : Option (Unit × cW) :=
  if (8 : Int32) ≤ a1 then (
    if c < 17 then (
    some ((), w)) else none) else
  (gQ w (some b) 0 2).bind fun r2 =>
  if c < 16 then (
  bnd (alC w (.inr (3, dfS))) fun w3 =>
  if (c + 1) < 17 then (
  cbd (fS_init w.2.1 w3) fun _ w6 =>
  (stQ w6 r2 a1 (some w.2.1)).bind fun w8 =>
  bnd (a1 + (1 : Int32)) fun x9 =>
  rec58 x9 (c + 1) w8) else none) else none
def fN_init_l58 (b : Nat)  (n : Nat) : Int32 → Nat → cW → Option (Unit × cW) := lp (fun _ _ _ => none) (fN_init_b58 b ) n
def fN_init (b : Nat)  (w : cW) : Option (Unit × cW) :=
  bnd (alC w (.inr (6, dfL))) fun w1 =>
  cbd (fL_init w.2.1 w1) fun _ w3 =>
  (pQ w3 (some b) 0 0 (some w.2.1)).bind fun w4 =>
  bnd (alC w4 (.inr (6, dfL))) fun w5 =>
  cbd (fL_init w4.2.1 w5) fun _ w7 =>
  (pQ w7 (some b) 0 1 (some w4.2.1)).bind fun w8 =>
  (alQ w8 3 (8 : Int32) 8).bind fun w9 =>
  (pQ w9 (some b) 0 2 (some w8.2.1)).bind fun w10 =>
  bnd (alC w10 (.inr (1, dfA))) fun w11 =>
  cbd (fA_init w10.2.1 w11) fun _ w13 =>
  (pQ w13 (some b) 0 3 (some w10.2.1)).bind fun w14 =>
  (pZ w14 (some b) 0 4 (0 : Int32)).bind fun w15 =>
  (pI w15 (some b) 0 5 (-1 : Int32)).bind fun w16 =>
  fN_init_l58 b FU (0 : Int32) (5) w16
def fN_tensorAt (b : Nat) (a1 : Int32) (w : cW) : Option (Option Nat × cW) :=
  if a1 < 0 then (
    some (none, w)) else
  (gQ w (some b) 0 0).bind fun r1 =>
  (cRcv w r1 6).bind fun b4 => cbd (fL_size b4 w) fun x2 w3 =>
  if x2 ≤ a1 then (
    some (none, w3)) else
  (gQ w3 (some b) 0 0).bind fun r5 =>
  (cRcv w3 r5 6).bind fun b8 => cbd (fL_get b8 a1 w3) fun r6 w7 =>
  (cCast w7 r6 4).bind fun _ =>
  some (r6, w7)
def fN_livingTensorAt (b : Nat) (a1 : Int32) (w : cW) : Option (Option Nat × cW) :=
  (cRcv w (some b) 0).bind fun b3 => cbd (fN_tensorAt b3 a1 w) fun r1 w2 =>
  (gI w2 (some b) 0 4).bind fun x4 =>
  if x4 = 0 then (
    some (none, w2)) else
  if r1 = none then (
    some (none, w2)) else
  (gI w2 r1 4 7).bind fun x5 =>
  if x5 = 0 then (
    some (none, w2)) else
  some (r1, w2)
def fN_isUnmadeBefore_b12 (b : Nat)  (rec12 : Int32 → (Option Nat) → Int32 → cW → Option (Int32 × cW)) (a1 : Int32) (a2 : Option Nat) (a3 : Int32) (w : cW) : Option (Int32 × cW) :=
  if a1 ≤ a3 then (
    some ((1 : Int32), w)) else
  (gQ w (some b) 0 1).bind fun r1 =>
  (cRcv w r1 6).bind fun b4 => cbd (fL_get b4 a3 w) fun r2 w3 =>
  (cCast w3 r2 2).bind fun _ =>
  (gQ w3 r2 2 3).bind fun r5 =>
  if r5 = a2 then (
    some ((0 : Int32), w3)) else
  bnd (a3 + (1 : Int32)) fun x6 =>
  rec12 a1 a2 x6 w3
def fN_isUnmadeBefore_l12 (b : Nat)  (n : Nat) : Int32 → (Option Nat) → Int32 → cW → Option (Int32 × cW) := lp (fun _ _ _ _ => none) (fN_isUnmadeBefore_b12 b ) n
def fN_isUnmadeBefore (b : Nat) (a1 : Int32) (a2 : Nat) (w : cW) : Option (Int32 × cW) :=
  (gI w (some a2) 4 1).bind fun x1 =>
  if x1 = (2 : Int32) then (
    fN_isUnmadeBefore_l12 b FU a1 (some a2) (0 : Int32) w) else
  some ((0 : Int32), w)
def fN_faultOf (b : Nat) (a1 : Int32) (w : cW) : Option (Int32 × cW) :=
  (gQ w (some b) 0 1).bind fun r1 =>
  (cRcv w r1 6).bind fun b4 => cbd (fL_get b4 a1 w) fun r2 w3 =>
  (cCast w3 r2 2).bind fun _ =>
  (gQ w3 r2 2 3).bind fun r5 =>
  r5.bind fun b6 =>
  (cRcv w3 (some b) 0).bind fun b9 => cbd (fN_isUnmadeBefore b9 a1 b6 w3) fun x7 w8 =>
  if x7 = 0 then (
    some ((1 : Int32), w8)) else
  (gQ w8 r2 2 1).bind fun r10 =>
  r10.bind fun b11 =>
  (cRcv w8 (some b) 0).bind fun b14 => cbd (fN_isUnmadeBefore b14 a1 b11 w8) fun x12 w13 =>
  if x12 = 0 then (
    (gQ w13 r2 2 2).bind fun r15 =>
    r15.bind fun b16 =>
    (cRcv w13 (some b) 0).bind fun b19 => cbd (fN_isUnmadeBefore b19 a1 b16 w13) fun x17 w18 =>
    if x17 = 0 then (
      (cRcv w18 r2 2).bind fun b22 => cbd (fO_fits b22 w18) fun x20 w21 =>
      if x20 = 0 then (
        some ((3 : Int32), w21)) else
      some ((0 : Int32), w21)) else
    some ((2 : Int32), w18)) else
  some ((2 : Int32), w13)
def fN_firstFault_b40 (b : Nat)  (rec40 : Int32 → cW → Option (Int32 × cW)) (a1 : Int32) (w : cW) : Option (Int32 × cW) :=
  (gQ w (some b) 0 0).bind fun r1 =>
  (cRcv w r1 6).bind fun b4 => cbd (fL_size b4 w) fun x2 w3 =>
  if x2 ≤ a1 then (
    some ((0 : Int32), w3)) else
  (gQ w3 (some b) 0 0).bind fun r5 =>
  (cRcv w3 r5 6).bind fun b8 => cbd (fL_get b8 a1 w3) fun r6 w7 =>
  (cCast w7 r6 4).bind fun _ =>
  (gI w7 r6 4 6).bind fun x9 =>
  if x9 = 0 then (
    bnd (a1 + (1 : Int32)) fun x10 =>
    rec40 x10 w7) else
  (gQ w7 (some b) 0 1).bind fun r11 =>
  (cRcv w7 r11 6).bind fun b14 => cbd (fL_size b14 w7) fun x12 w13 =>
  r6.bind fun b15 =>
  (cRcv w13 (some b) 0).bind fun b18 => cbd (fN_isUnmadeBefore b18 x12 b15 w13) fun x16 w17 =>
  if x16 = 0 then (
    bnd (a1 + (1 : Int32)) fun x19 =>
    rec40 x19 w17) else
  some ((-1000 : Int32), w17)
def fN_firstFault_l40 (b : Nat)  (n : Nat) : Int32 → cW → Option (Int32 × cW) := lp (fun _ _ => none) (fN_firstFault_b40 b ) n
def fN_firstFault_b23 (b : Nat)  (a1 : Int32) (a2 : Int32) (w : cW) : Option (Int32 × cW) :=
  some ((((-10 : Int32) * (a1 + (1 : Int32))) - a2), w)
def fN_firstFault_b2 (b : Nat)  (rec2 : Int32 → cW → Option (Int32 × cW)) (a1 : Int32) (w : cW) : Option (Int32 × cW) :=
  (gQ w (some b) 0 1).bind fun r1 =>
  (cRcv w r1 6).bind fun b4 => cbd (fL_size b4 w) fun x2 w3 =>
  if x2 ≤ a1 then (
    fN_firstFault_l40 b FU (0 : Int32) w3) else
  (cRcv w3 (some b) 0).bind fun b7 => cbd (fN_faultOf b7 a1 w3) fun x5 w6 =>
  if x5 = 0 then (
    bnd (a1 + (1 : Int32)) fun x8 =>
    rec2 x8 w6) else
  fN_firstFault_b23 b a1 x5 w6
def fN_firstFault_l2 (b : Nat)  (n : Nat) : Int32 → cW → Option (Int32 × cW) := lp (fun _ _ => none) (fN_firstFault_b2 b ) n
def fN_firstFault (b : Nat)  (w : cW) : Option (Int32 × cW) :=
  fN_firstFault_l2 b FU (0 : Int32) w
def fN_giveLives_b90 (b : Nat)  (rec90 : Int32 → cW → Option (Unit × cW)) (a1 : Int32) (w : cW) : Option (Unit × cW) :=
  (gQ w (some b) 0 0).bind fun r1 =>
  (cRcv w r1 6).bind fun b4 => cbd (fL_size b4 w) fun x2 w3 =>
  if x2 ≤ a1 then (
    some ((), w3)) else
  (gQ w3 (some b) 0 0).bind fun r5 =>
  (cRcv w3 r5 6).bind fun b8 => cbd (fL_get b8 a1 w3) fun r6 w7 =>
  (cCast w7 r6 4).bind fun _ =>
  (gI w7 r6 4 6).bind fun x9 =>
  if x9 = 0 then (
    bnd (a1 + (1 : Int32)) fun x10 =>
    rec90 x10 w7) else
  (gQ w7 (some b) 0 1).bind fun r11 =>
  (cRcv w7 r11 6).bind fun b14 => cbd (fL_size b14 w7) fun x12 w13 =>
  (pI w13 r6 4 9 x12).bind fun w15 =>
  bnd (a1 + (1 : Int32)) fun x16 =>
  rec90 x16 w15
def fN_giveLives_l90 (b : Nat)  (n : Nat) : Int32 → cW → Option (Unit × cW) := lp (fun _ _ => none) (fN_giveLives_b90 b ) n
def fN_giveLives_b35 (b : Nat)  (rec35 : Int32 → cW → Option (Unit × cW)) (a1 : Int32) (w : cW) : Option (Unit × cW) :=
  (gQ w (some b) 0 1).bind fun r1 =>
  (cRcv w r1 6).bind fun b4 => cbd (fL_size b4 w) fun x2 w3 =>
  if x2 ≤ a1 then (
    fN_giveLives_l90 b FU (0 : Int32) w3) else
  (gQ w3 (some b) 0 1).bind fun r5 =>
  (cRcv w3 r5 6).bind fun b8 => cbd (fL_get b8 a1 w3) fun r6 w7 =>
  (cCast w7 r6 2).bind fun _ =>
  (gQ w7 r6 2 1).bind fun r9 =>
  (pI w7 r9 4 9 a1).bind fun w10 =>
  (gQ w10 r6 2 2).bind fun r11 =>
  (pI w10 r11 4 9 a1).bind fun w12 =>
  (gQ w12 r6 2 3).bind fun r13 =>
  (cRcv w12 r13 4).bind fun b16 => cbd (fT_beginLife b16 a1 w12) fun u14 w15 =>
  bnd (a1 + (1 : Int32)) fun x17 =>
  rec35 x17 w15
def fN_giveLives_l35 (b : Nat)  (n : Nat) : Int32 → cW → Option (Unit × cW) := lp (fun _ _ => none) (fN_giveLives_b35 b ) n
def fN_giveLives_b2 (b : Nat)  (rec2 : Int32 → cW → Option (Unit × cW)) (a1 : Int32) (w : cW) : Option (Unit × cW) :=
  (gQ w (some b) 0 0).bind fun r1 =>
  (cRcv w r1 6).bind fun b4 => cbd (fL_size b4 w) fun x2 w3 =>
  if x2 ≤ a1 then (
    fN_giveLives_l35 b FU (0 : Int32) w3) else
  (gQ w3 (some b) 0 0).bind fun r5 =>
  (cRcv w3 r5 6).bind fun b8 => cbd (fL_get b8 a1 w3) fun r6 w7 =>
  (cCast w7 r6 4).bind fun _ =>
  (cRcv w7 r6 4).bind fun b11 => cbd (fT_resetLife b11 w7) fun u9 w10 =>
  bnd (a1 + (1 : Int32)) fun x12 =>
  rec2 x12 w10
def fN_giveLives_l2 (b : Nat)  (n : Nat) : Int32 → cW → Option (Unit × cW) := lp (fun _ _ => none) (fN_giveLives_b2 b ) n
def fN_giveLives (b : Nat)  (w : cW) : Option (Unit × cW) :=
  fN_giveLives_l2 b FU (0 : Int32) w
def fN_doNext (b : Nat)  (w : cW) : Option (Unit × cW) :=
  (gQ w (some b) 0 1).bind fun r1 =>
  (gI w (some b) 0 5).bind fun x2 =>
  (cRcv w r1 6).bind fun b5 => cbd (fL_get b5 x2 w) fun r3 w4 =>
  (cCast w4 r3 2).bind fun _ =>
  (gQ w4 (some b) 0 2).bind fun r6 =>
  (gI w4 r3 2 4).bind fun x7 =>
  (ldQ w4 r6 x7).bind fun r8 =>
  r8.bind fun b9 =>
  (cRcv w4 r3 2).bind fun b12 => cbd (fO_makeResult b12 b9 w4) fun u10 w11 =>
  (gI w11 (some b) 0 5).bind fun x13 =>
  (pI w11 (some b) 0 5 (x13 + (1 : Int32))).bind fun w14 =>
  some ((), w14)
set_option maxHeartbeats 4000000 in
set_option maxRecDepth 100000 in
theorem tN_init_l58 {C : xC} {G : cG} {w0 w' : cW} {r : Unit} {b : Nat} (hC : okC C prog_1_method_1_code 2 "ArenaNetwork" lw_gd) (hE : xE C none mkV G w0 w' r) (hR : xR C = rmN_init) (hN : (xmeth C).name = "<init>")  : ∀ n : Nat, ∀ (a1 : Int32) (c : Nat) (w : cW), fN_init_l58 b n a1 c w = some (r, w') → V C w (1 * c) (8 * c) 58 [(0, va_rf (some b)), (1, .int a1)] [] := by
  refine lp_P (P := fun (f : Int32 → Nat → cW → Option (Unit × cW)) => ∀ (a1 : Int32) (c : Nat) (w : cW), f a1 c w = some (r, w') → V C w (1 * c) (8 * c) 58 [(0, va_rf (some b)), (1, .int a1)] []) ?_ ?_
  · intro a1 c w hf
    cases hf
  · intro rec58 hrec58 a1 c w hf
    unfold fN_init_b58 at hf
    refine v_iload_n (pc := 58) (i := 1) (x := a1) hC dN_init_58 rfl 1 rfl ?_
    refine v_bipush (pc := 59) (v := (8 : Int32)) hC dN_init_59 (by decide) ?_
    refine v_icmp_ge (pc := 61) (tgt := 83) hC dN_init_61 (by decide) hf (fun hf => ?_) (fun hf => ?_)
    · by_cases ec1 : c < 17
      rotate_left
      · rw [if_neg ec1] at hf; cases hf
      rw [if_pos ec1] at hf
      exact v_vret (pc := 83) hC hE dN_init_83 (by rw [hR]; simp only [rmN_init]; omega) (by rw [hR]; simp only [rmN_init]; omega) hf
    · refine v_aload_n (pc := 64) (i := 0) (r := (some b)) hC dN_init_64 rfl 0 rfl ?_
      refine v_getQ (pc := 65) (r := (some b)) hC dN_init_65 inN rfl 2 (by decide) q86 (Or.inl rfl) hf (fun r2 hf => ?_)
      refine v_iload_n (pc := 68) (i := 1) (x := a1) hC dN_init_68 rfl 1 rfl ?_
      by_cases ec4 : c < 16
      rotate_left
      · rw [if_neg ec4] at hf; cases hf
      rw [if_pos ec4] at hf
      refine v_new (pc := 69) (fs := dfS) hC dN_init_69 inS rfl tyS tkS q50 q69 q6 doS (by rw [hR]; simp only [rmN_init]; omega) (by rw [hR]; simp only [rmN_init]; omega) hf (fun w3 hf => ?_)
      refine V.widen (k' := 1 * (c + 1)) (n' := 8 * (c + 1)) (by omega) (by omega) ?_
      refine v_dupR (pc := 72) hC dN_init_72 ?_
      by_cases ec7 : (c + 1) < 17
      rotate_left
      · rw [if_neg ec7] at hf; cases hf
      rw [if_pos ec7] at hf
      refine v_callIN (pc := 73) (b := w.2.1) (As := []) (rest := [va_rf (some w.2.1), .int a1, va_rf r2]) (k' := 1 * (c + 1)) (n' := 8 * (c + 1)) hC dN_init_73 x70 q71 q6 q72 rfl ykS_init rfl (fun rq wq hq => mS_init _ _ w.2.1 _ rq wq hq) (by rw [hR]; decide) (by simp only [List.map_cons, List.map_nil, va_cat]; exact Nat.le_of_ble_eq_true rfl) (by simp only [rmS_init]; omega) (by rw [hR]; simp only [rmN_init]; omega) hf rfl (fun _ w6 hf => ?_)
      refine v_aast (pc := 76) hC (cAs_of hC) dN_init_76 hf (fun w8 hf => ?_)
      refine v_iincB (pc := 77) (i := 1) (x := a1) (v := (1 : Int32)) hC dN_init_77 1 rfl (by decide) (by decide) (fun x9 => [(1, .int x9), (0, va_rf (some b))]) (fun _ => rfl) hf (fun x9 hf => ?_)
      refine v_goto (pc := 80) (tgt := 58) hC dN_init_80 (by decide) ?_
      exact V.sub [1, 0] rfl (hrec58 _ _ _ hf)
set_option maxHeartbeats 4000000 in
set_option maxRecDepth 100000 in
theorem tN_init {C : xC} {G : cG} {w0 w' : cW} {r : Unit} {b : Nat} (hC : okC C prog_1_method_1_code 2 "ArenaNetwork" lw_gd) (hE : xE C none mkV G w0 w' r) (hR : xR C = rmN_init) (hN : (xmeth C).name = "<init>")  (w : cW) (hf : fN_init b w = some (r, w')) : V C w 0 0 0 [(0, va_rf (some b))] [] := by
  unfold fN_init at hf
  refine v_aload_n (pc := 0) (i := 0) (r := (some b)) hC dN_init_0 rfl 0 rfl ?_
  refine v_objInit (pc := 1) (b := b) (rest := []) hC dN_init_1 q21 q22 q23 (by simp only [List.map_cons, List.map_nil, va_cat]; exact Nat.le_of_ble_eq_true rfl) (by rw [hR]; decide) ?_
  refine v_aload_n (pc := 4) (i := 0) (r := (some b)) hC dN_init_4 rfl 0 rfl ?_
  refine v_new (pc := 5) (fs := dfL) hC dN_init_5 inL rfl tyL tkL q24 q25 q4 doL (by rw [hR]; decide) (by rw [hR]; decide) hf (fun w1 hf => ?_)
  refine V.widen (k' := 1) (n' := 8) (by omega) (by omega) ?_
  refine v_dupR (pc := 8) hC dN_init_8 ?_
  refine v_callI (pc := 9) (b := w.2.1) (As := []) (rest := [va_rf (some w.2.1), va_rf (some b)]) (k' := 1) (n' := 8) hC dN_init_9 q26 q27 q4 q28 rfl ykL_init rfl (fun rq wq hq => mL_init _ _ w.2.1 _ rq wq hq) (by rw [hR]; decide) (by simp only [List.map_cons, List.map_nil, va_cat]; exact Nat.le_of_ble_eq_true rfl) (by decide) (by rw [hR]; decide) hf rfl (fun _ w3 hf => ?_)
  refine v_putCQ (pc := 12) (r := (some b)) hC dN_init_12 inN rfl tyN tkN nmN 0 (by decide) q84 rfl hN rfl (tkN 0 (by decide)) (Or.inl ⟨_, rfl⟩) hf (fun w4 hf => ?_)
  refine v_aload_n (pc := 15) (i := 0) (r := (some b)) hC dN_init_15 rfl 0 rfl ?_
  refine v_new (pc := 16) (fs := dfL) hC dN_init_16 inL rfl tyL tkL q24 q25 q4 doL (by rw [hR]; decide) (by rw [hR]; decide) hf (fun w5 hf => ?_)
  refine V.widen (k' := 2) (n' := 16) (by omega) (by omega) ?_
  refine v_dupR (pc := 19) hC dN_init_19 ?_
  refine v_callI (pc := 20) (b := w4.2.1) (As := []) (rest := [va_rf (some w4.2.1), va_rf (some b)]) (k' := 2) (n' := 16) hC dN_init_20 q26 q27 q4 q28 rfl ykL_init rfl (fun rq wq hq => mL_init _ _ w4.2.1 _ rq wq hq) (by rw [hR]; decide) (by simp only [List.map_cons, List.map_nil, va_cat]; exact Nat.le_of_ble_eq_true rfl) (by decide) (by rw [hR]; decide) hf rfl (fun _ w7 hf => ?_)
  refine v_putCQ (pc := 23) (r := (some b)) hC dN_init_23 inN rfl tyN tkN nmN 1 (by decide) q85 rfl hN rfl (tkN 1 (by decide)) (Or.inl ⟨_, rfl⟩) hf (fun w8 hf => ?_)
  refine v_aload_n (pc := 26) (i := 0) (r := (some b)) hC dN_init_26 rfl 0 rfl ?_
  refine v_bipush (pc := 27) (v := (8 : Int32)) hC dN_init_27 (by decide) ?_
  refine v_newq (pc := 29) (t := 3) (b := 8) hC dN_init_29 q50 x51 rfl (by decide) (by decide) (by rw [hR]; decide) (by rw [hR]; decide) hf (fun w9 hf => ?_)
  refine V.widen (k' := 3) (n' := 24) (by omega) (by omega) ?_
  refine v_putCQ (pc := 32) (r := (some b)) hC dN_init_32 inN rfl tyN tkN nmN 2 (by decide) q86 rfl hN rfl (tkN 2 (by decide)) (Or.inr ⟨_, rfl⟩) hf (fun w10 hf => ?_)
  refine v_aload_n (pc := 35) (i := 0) (r := (some b)) hC dN_init_35 rfl 0 rfl ?_
  refine v_new (pc := 36) (fs := dfA) hC dN_init_36 inA rfl tyA tkA q52 q53 q5 doA (by rw [hR]; decide) (by rw [hR]; decide) hf (fun w11 hf => ?_)
  refine V.widen (k' := 4) (n' := 32) (by omega) (by omega) ?_
  refine v_dupR (pc := 39) hC dN_init_39 ?_
  refine v_callIN (pc := 40) (b := w10.2.1) (As := []) (rest := [va_rf (some w10.2.1), va_rf (some b)]) (k' := 5) (n' := 40) hC dN_init_40 x54 q55 q5 q56 rfl ykA_init rfl (fun rq wq hq => mA_init _ _ w10.2.1 _ rq wq hq) (by rw [hR]; decide) (by simp only [List.map_cons, List.map_nil, va_cat]; exact Nat.le_of_ble_eq_true rfl) (by decide) (by rw [hR]; decide) hf rfl (fun _ w13 hf => ?_)
  refine v_putCQ (pc := 43) (r := (some b)) hC dN_init_43 inN rfl tyN tkN nmN 3 (by decide) q87 rfl hN rfl (tkN 3 (by decide)) (Or.inl ⟨_, rfl⟩) hf (fun w14 hf => ?_)
  refine v_aload_n (pc := 46) (i := 0) (r := (some b)) hC dN_init_46 rfl 0 rfl ?_
  refine v_iconst (pc := 47) (v := (0 : Int32)) hC dN_init_47 (by decide) ?_
  refine v_putZ (pc := 48) (r := (some b)) hC dN_init_48 inN rfl tyN tkN nmN 4 (by decide) q88 (Or.inl rfl) rfl (tkN 4 (by decide)) hf (fun w15 hf => ?_)
  refine v_aload_n (pc := 51) (i := 0) (r := (some b)) hC dN_init_51 rfl 0 rfl ?_
  refine v_iconst (pc := 52) (v := (-1 : Int32)) hC dN_init_52 (by decide) ?_
  refine v_putI (pc := 53) (r := (some b)) hC dN_init_53 inN rfl tyN tkN nmN 5 (by decide) q89 (Or.inl rfl) rfl (tkN 5 (by decide)) hf (fun w16 hf => ?_)
  refine v_iconst (pc := 56) (v := (0 : Int32)) hC dN_init_56 (by decide) ?_
  refine v_istore_n (pc := 57) (i := 1) (x := (0 : Int32)) hC dN_init_57 rfl (by decide) [(1, .int (0 : Int32)), (0, va_rf (some b))] rfl ?_
  exact V.sub [1, 0] rfl (tN_init_l58 hC hE hR hN  FU _ _ _ hf)
theorem mN_init (l : Launch) (G : cG) (b : Nat)  (w : cW) (r : Unit) (w' : cW) (hf : fN_init b w = some (r, w')) : Met l yN_init (wsM yN_init prog_1_method_1_code 2 none) rmN_init (mP G w [va_rf (some b)]) (mQ mkV G w w' r) (rmN_init).cells (rmN_init).slots (Aw w) :=
  met_of (by decide +kernel) rfl (Nat.le_of_ble_eq_true rfl) (fun C hC hR _ _ hN hts hE => tN_init (okC.tbl hC) hE hR hN  w hf)
set_option maxHeartbeats 4000000 in
set_option maxRecDepth 100000 in
theorem tN_tensorAt {C : xC} {G : cG} {w0 w' : cW} {r : Option Nat} {b : Nat} (hC : okC C prog_1_method_18_code 2 "ArenaNetwork" lw_gd) (hE : xE C (some (.object "ArenaNetwork$Tensor")) mkR G w0 w' r) (hR : xR C = rmN_tensorAt) (a1 : Int32) (w : cW) (hf : fN_tensorAt b a1 w = some (r, w')) : V C w 0 0 0 [(0, va_rf (some b)), (1, .int a1)] [] := by
  unfold fN_tensorAt at hf
  refine v_iload_n (pc := 0) (i := 1) (x := a1) hC dN_tensorAt_0 rfl 1 rfl ?_
  refine v_if_lt (pc := 1) (tgt := 29) hC dN_tensorAt_1 (by decide) hf (fun hf => ?_) (fun hf => ?_)
  · refine v_null (pc := 29) hC dN_tensorAt_29 ?_
    exact v_aret (pc := 30) hC hE (Or.inl ⟨_, rfl⟩) dN_tensorAt_30 (by rw [hR]; decide) (by rw [hR]; decide) hf
  · refine v_iload_n (pc := 4) (i := 1) (x := a1) hC dN_tensorAt_4 rfl 1 rfl ?_
    refine v_aload_n (pc := 5) (i := 0) (r := (some b)) hC dN_tensorAt_5 rfl 0 rfl ?_
    refine v_getQ (pc := 6) (r := (some b)) hC dN_tensorAt_6 inN rfl 0 (by decide) q84 (Or.inl rfl) hf (fun r1 hf => ?_)
    refine v_callV (pc := 9) (r := r1) (As := []) (rest := [.int a1]) (k' := 0) (n' := 0) (st1 := (fun yq => [.int yq, .int a1])) hC dN_tensorAt_9 q116 q117 q118 q4 q119 ykL_size rfl rfl (fun bq rq wq hq => mL_size _ _ bq  _ rq wq hq) (by rw [hR]; decide) (by simp only [List.map_cons, List.map_nil, va_cat]; exact Nat.le_of_ble_eq_true rfl) (by decide) (by rw [hR]; decide) hf rfl (fun _ => rfl) (fun x2 w3 hf => ?_)
    refine v_icmp_ge (pc := 12) (tgt := 29) hC dN_tensorAt_12 (by decide) hf (fun hf => ?_) (fun hf => ?_)
    · refine v_null (pc := 29) hC dN_tensorAt_29 ?_
      exact v_aret (pc := 30) hC hE (Or.inl ⟨_, rfl⟩) dN_tensorAt_30 (by rw [hR]; decide) (by rw [hR]; decide) hf
    · refine v_aload_n (pc := 15) (i := 0) (r := (some b)) hC dN_tensorAt_15 rfl 0 rfl ?_
      refine v_getQ (pc := 16) (r := (some b)) hC dN_tensorAt_16 inN rfl 0 (by decide) q84 (Or.inl rfl) hf (fun r5 hf => ?_)
      refine v_iload_n (pc := 19) (i := 1) (x := a1) hC dN_tensorAt_19 rfl 1 rfl ?_
      refine v_callV (pc := 20) (r := r5) (As := [.int a1]) (rest := []) (k' := 0) (n' := 0) (st1 := (fun yq => [va_rf yq])) hC dN_tensorAt_20 q239 q240 q241 q4 q242 ykL_get rfl rfl (fun bq rq wq hq => mL_get _ _ bq a1 _ rq wq hq) (by rw [hR]; decide) (by simp only [List.map_cons, List.map_nil, va_cat]; exact Nat.le_of_ble_eq_true rfl) (by decide) (by rw [hR]; decide) hf rfl (fun _ => rfl) (fun r6 w7 hf => ?_)
      refine v_cast (pc := 23) (r := r6) hC dN_tensorAt_23 rfl q120 hf (fun hf => ?_)
      refine v_goto (pc := 26) (tgt := 30) hC dN_tensorAt_26 (by decide) ?_
      exact v_aret (pc := 30) hC hE (Or.inl ⟨_, rfl⟩) dN_tensorAt_30 (by rw [hR]; decide) (by rw [hR]; decide) hf
theorem mN_tensorAt (l : Launch) (G : cG) (b : Nat) (a1 : Int32) (w : cW) (r : Option Nat) (w' : cW) (hf : fN_tensorAt b a1 w = some (r, w')) : Met l yN_tensorAt (wsM yN_tensorAt prog_1_method_18_code 2 (some (.object "ArenaNetwork$Tensor"))) rmN_tensorAt (mP G w [va_rf (some b), .int a1]) (mQ mkR G w w' r) (rmN_tensorAt).cells (rmN_tensorAt).slots (Aw w) :=
  met_of (by decide +kernel) rfl (Nat.le_of_ble_eq_true rfl) (fun C hC hR _ _ _ hts hE => tN_tensorAt (okC.tbl hC) hE hR a1 w hf)
set_option maxHeartbeats 4000000 in
set_option maxRecDepth 100000 in
theorem tN_livingTensorAt {C : xC} {G : cG} {w0 w' : cW} {r : Option Nat} {b : Nat} (hC : okC C prog_1_method_19_code 3 "ArenaNetwork" lw_gd) (hE : xE C (some (.object "ArenaNetwork$Tensor")) mkR G w0 w' r) (hR : xR C = rmN_livingTensorAt) (a1 : Int32) (w : cW) (hf : fN_livingTensorAt b a1 w = some (r, w')) : V C w 0 0 0 [(0, va_rf (some b)), (1, .int a1)] [] := by
  unfold fN_livingTensorAt at hf
  refine v_aload_n (pc := 0) (i := 0) (r := (some b)) hC dN_livingTensorAt_0 rfl 0 rfl ?_
  refine v_iload_n (pc := 1) (i := 1) (x := a1) hC dN_livingTensorAt_1 rfl 1 rfl ?_
  refine v_callV (pc := 2) (r := (some b)) (As := [.int a1]) (rest := []) (k' := 0) (n' := 0) (st1 := (fun yq => [va_rf yq])) hC dN_livingTensorAt_2 q235 q237 p3 q1 q238 ykN_tensorAt rfl rfl (fun bq rq wq hq => mN_tensorAt _ _ bq a1 _ rq wq hq) (by rw [hR]; decide) (by simp only [List.map_cons, List.map_nil, va_cat]; exact Nat.le_of_ble_eq_true rfl) (by decide) (by rw [hR]; decide) hf rfl (fun _ => rfl) (fun r1 w2 hf => ?_)
  refine v_astore_n (pc := 5) (i := 2) (r := r1) hC dN_livingTensorAt_5 rfl (by decide) [(2, va_rf r1), (0, va_rf (some b)), (1, .int a1)] rfl ?_
  refine v_aload_n (pc := 6) (i := 0) (r := (some b)) hC dN_livingTensorAt_6 rfl 1 rfl ?_
  refine v_getI (pc := 7) (r := (some b)) hC dN_livingTensorAt_7 inN rfl 4 (by decide) q88 (Or.inl rfl) hf (fun x4 hf => ?_)
  refine v_if_eq (pc := 10) (tgt := 28) hC dN_livingTensorAt_10 (by decide) hf (fun hf => ?_) (fun hf => ?_)
  · refine v_null (pc := 28) hC dN_livingTensorAt_28 ?_
    exact v_aret (pc := 29) hC hE (Or.inl ⟨_, rfl⟩) dN_livingTensorAt_29 (by rw [hR]; decide) (by rw [hR]; decide) hf
  · refine v_aload_n (pc := 13) (i := 2) (r := r1) hC dN_livingTensorAt_13 rfl 0 rfl ?_
    refine v_ifnull (pc := 14) (tgt := 28) hC dN_livingTensorAt_14 (by decide) hf (fun hf => ?_) (fun hf => ?_)
    · refine v_null (pc := 28) hC dN_livingTensorAt_28 ?_
      exact v_aret (pc := 29) hC hE (Or.inl ⟨_, rfl⟩) dN_livingTensorAt_29 (by rw [hR]; decide) (by rw [hR]; decide) hf
    · refine v_aload_n (pc := 17) (i := 2) (r := r1) hC dN_livingTensorAt_17 rfl 0 rfl ?_
      refine v_getI (pc := 18) (r := r1) hC dN_livingTensorAt_18 inT rfl 7 (by decide) q145 (Or.inl rfl) hf (fun x5 hf => ?_)
      refine v_if_eq (pc := 21) (tgt := 28) hC dN_livingTensorAt_21 (by decide) hf (fun hf => ?_) (fun hf => ?_)
      · refine v_null (pc := 28) hC dN_livingTensorAt_28 ?_
        exact v_aret (pc := 29) hC hE (Or.inl ⟨_, rfl⟩) dN_livingTensorAt_29 (by rw [hR]; decide) (by rw [hR]; decide) hf
      · refine v_aload_n (pc := 24) (i := 2) (r := r1) hC dN_livingTensorAt_24 rfl 0 rfl ?_
        refine v_goto (pc := 25) (tgt := 29) hC dN_livingTensorAt_25 (by decide) ?_
        exact v_aret (pc := 29) hC hE (Or.inl ⟨_, rfl⟩) dN_livingTensorAt_29 (by rw [hR]; decide) (by rw [hR]; decide) hf
theorem mN_livingTensorAt (l : Launch) (G : cG) (b : Nat) (a1 : Int32) (w : cW) (r : Option Nat) (w' : cW) (hf : fN_livingTensorAt b a1 w = some (r, w')) : Met l yN_livingTensorAt (wsM yN_livingTensorAt prog_1_method_19_code 3 (some (.object "ArenaNetwork$Tensor"))) rmN_livingTensorAt (mP G w [va_rf (some b), .int a1]) (mQ mkR G w w' r) (rmN_livingTensorAt).cells (rmN_livingTensorAt).slots (Aw w) :=
  met_of (by decide +kernel) rfl (Nat.le_of_ble_eq_true rfl) (fun C hC hR _ _ _ hts hE => tN_livingTensorAt (okC.tbl hC) hE hR a1 w hf)
set_option maxHeartbeats 4000000 in
set_option maxRecDepth 100000 in
theorem tN_isUnmadeBefore_l12 {C : xC} {G : cG} {w0 w' : cW} {r : Int32} {b : Nat} (hC : okC C prog_1_method_22_code 4 "ArenaNetwork" lw_gd) (hE : xE C (some .boolean) mkI G w0 w' r) (hR : xR C = rmN_isUnmadeBefore)  : ∀ n : Nat, ∀ (a1 : Int32) (a2 : Option Nat) (a3 : Int32) (w : cW), fN_isUnmadeBefore_l12 b n a1 a2 a3 w = some (r, w') → V C w 0 0 12 [(0, va_rf (some b)), (1, .int a1), (2, va_rf a2), (3, .int a3)] [] := by
  refine lp_P (P := fun (f : Int32 → (Option Nat) → Int32 → cW → Option (Int32 × cW)) => ∀ (a1 : Int32) (a2 : Option Nat) (a3 : Int32) (w : cW), f a1 a2 a3 w = some (r, w') → V C w 0 0 12 [(0, va_rf (some b)), (1, .int a1), (2, va_rf a2), (3, .int a3)] []) ?_ ?_
  · intro a1 a2 a3 w hf
    cases hf
  · intro rec12 hrec12 a1 a2 a3 w hf
    unfold fN_isUnmadeBefore_b12 at hf
    refine v_iload_n (pc := 12) (i := 3) (x := a3) hC dN_isUnmadeBefore_12 rfl 3 rfl ?_
    refine v_iload_n (pc := 13) (i := 1) (x := a1) hC dN_isUnmadeBefore_13 rfl 1 rfl ?_
    refine v_icmp_ge (pc := 14) (tgt := 43) hC dN_isUnmadeBefore_14 (by decide) hf (fun hf => ?_) (fun hf => ?_)
    · refine v_iconst (pc := 43) (v := (1 : Int32)) hC dN_isUnmadeBefore_43 (by decide) ?_
      exact v_zret (pc := 44) hC hE dN_isUnmadeBefore_44 (by rw [hR]; decide) (by rw [hR]; decide) (by rw [if_pos (by decide)]; exact hf)
    · refine v_aload_n (pc := 17) (i := 0) (r := (some b)) hC dN_isUnmadeBefore_17 rfl 0 rfl ?_
      refine v_getQ (pc := 18) (r := (some b)) hC dN_isUnmadeBefore_18 inN rfl 1 (by decide) q85 (Or.inl rfl) hf (fun r1 hf => ?_)
      refine v_iload_n (pc := 21) (i := 3) (x := a3) hC dN_isUnmadeBefore_21 rfl 3 rfl ?_
      refine v_callV (pc := 22) (r := r1) (As := [.int a3]) (rest := []) (k' := 0) (n' := 0) (st1 := (fun yq => [va_rf yq])) hC dN_isUnmadeBefore_22 q239 q240 q241 q4 q242 ykL_get rfl rfl (fun bq rq wq hq => mL_get _ _ bq a3 _ rq wq hq) (by rw [hR]; decide) (by simp only [List.map_cons, List.map_nil, va_cat]; exact Nat.le_of_ble_eq_true rfl) (by decide) (by rw [hR]; decide) hf rfl (fun _ => rfl) (fun r2 w3 hf => ?_)
      refine v_cast (pc := 25) (r := r2) hC dN_isUnmadeBefore_25 rfl q268 hf (fun hf => ?_)
      refine v_getQ (pc := 28) (r := r2) hC dN_isUnmadeBefore_28 inO rfl 3 (by decide) q280 (Or.inl rfl) hf (fun r5 hf => ?_)
      refine v_aload_n (pc := 31) (i := 2) (r := a2) hC dN_isUnmadeBefore_31 rfl 2 rfl ?_
      refine v_acmp_ne (pc := 32) (tgt := 37) hC dN_isUnmadeBefore_32 (by decide) hf (fun hf => ?_) (fun hf => ?_)
      · refine v_iincB (pc := 37) (i := 3) (x := a3) (v := (1 : Int32)) hC dN_isUnmadeBefore_37 3 rfl (by decide) (by decide) (fun x6 => [(3, .int x6), (0, va_rf (some b)), (1, .int a1), (2, va_rf a2)]) (fun _ => (by cases a2 <;> rfl)) hf (fun x6 hf => ?_)
        refine v_goto (pc := 40) (tgt := 12) hC dN_isUnmadeBefore_40 (by decide) ?_
        exact V.sub [1, 2, 3, 0] rfl (hrec12 _ _ _ _ hf)
      · refine v_iconst (pc := 35) (v := (0 : Int32)) hC dN_isUnmadeBefore_35 (by decide) ?_
        exact v_zret (pc := 36) hC hE dN_isUnmadeBefore_36 (by rw [hR]; decide) (by rw [hR]; decide) (by rw [if_pos (by decide)]; exact hf)
set_option maxHeartbeats 4000000 in
set_option maxRecDepth 100000 in
theorem tN_isUnmadeBefore {C : xC} {G : cG} {w0 w' : cW} {r : Int32} {b : Nat} (hC : okC C prog_1_method_22_code 4 "ArenaNetwork" lw_gd) (hE : xE C (some .boolean) mkI G w0 w' r) (hR : xR C = rmN_isUnmadeBefore) (a1 : Int32) (a2 : Nat) (w : cW) (hf : fN_isUnmadeBefore b a1 a2 w = some (r, w')) : V C w 0 0 0 [(0, va_rf (some b)), (1, .int a1), (2, va_rf (some a2))] [] := by
  unfold fN_isUnmadeBefore at hf
  refine v_aload_n (pc := 0) (i := 2) (r := (some a2)) hC dN_isUnmadeBefore_0 rfl 2 rfl ?_
  refine v_getI (pc := 1) (r := (some a2)) hC dN_isUnmadeBefore_1 inT rfl 1 (by decide) q130 (Or.inl rfl) hf (fun x1 hf => ?_)
  refine v_iconst (pc := 4) (v := (2 : Int32)) hC dN_isUnmadeBefore_4 (by decide) ?_
  refine v_icmp_eq (pc := 5) (tgt := 10) hC dN_isUnmadeBefore_5 (by decide) hf (fun hf => ?_) (fun hf => ?_)
  · refine v_iconst (pc := 10) (v := (0 : Int32)) hC dN_isUnmadeBefore_10 (by decide) ?_
    refine v_istore_n (pc := 11) (i := 3) (x := (0 : Int32)) hC dN_isUnmadeBefore_11 rfl (by decide) [(3, .int (0 : Int32)), (0, va_rf (some b)), (1, .int a1), (2, va_rf (some a2))] rfl ?_
    exact V.sub [1, 2, 3, 0] rfl (tN_isUnmadeBefore_l12 hC hE hR  FU _ _ _ _ hf)
  · refine v_iconst (pc := 8) (v := (0 : Int32)) hC dN_isUnmadeBefore_8 (by decide) ?_
    exact v_zret (pc := 9) hC hE dN_isUnmadeBefore_9 (by rw [hR]; decide) (by rw [hR]; decide) (by rw [if_pos (by decide)]; exact hf)
theorem mN_isUnmadeBefore (l : Launch) (G : cG) (b : Nat) (a1 : Int32) (a2 : Nat) (w : cW) (r : Int32) (w' : cW) (hf : fN_isUnmadeBefore b a1 a2 w = some (r, w')) : Met l yN_isUnmadeBefore (wsM yN_isUnmadeBefore prog_1_method_22_code 4 (some .boolean)) rmN_isUnmadeBefore (mP G w [va_rf (some b), .int a1, va_rf (some a2)]) (mQ mkI G w w' r) (rmN_isUnmadeBefore).cells (rmN_isUnmadeBefore).slots (Aw w) :=
  met_of (by decide +kernel) rfl (Nat.le_of_ble_eq_true rfl) (fun C hC hR _ _ _ hts hE => tN_isUnmadeBefore (okC.tbl hC) hE hR a1 a2 w hf)
set_option maxHeartbeats 4000000 in
set_option maxRecDepth 100000 in
theorem tN_faultOf {C : xC} {G : cG} {w0 w' : cW} {r : Int32} {b : Nat} (hC : okC C prog_1_method_21_code 3 "ArenaNetwork" lw_gd) (hE : xE C (some .int) mkI G w0 w' r) (hR : xR C = rmN_faultOf) (a1 : Int32) (w : cW) (hf : fN_faultOf b a1 w = some (r, w')) : V C w 0 0 0 [(0, va_rf (some b)), (1, .int a1)] [] := by
  unfold fN_faultOf at hf
  refine v_aload_n (pc := 0) (i := 0) (r := (some b)) hC dN_faultOf_0 rfl 0 rfl ?_
  refine v_getQ (pc := 1) (r := (some b)) hC dN_faultOf_1 inN rfl 1 (by decide) q85 (Or.inl rfl) hf (fun r1 hf => ?_)
  refine v_iload_n (pc := 4) (i := 1) (x := a1) hC dN_faultOf_4 rfl 1 rfl ?_
  refine v_callV (pc := 5) (r := r1) (As := [.int a1]) (rest := []) (k' := 0) (n' := 0) (st1 := (fun yq => [va_rf yq])) hC dN_faultOf_5 q239 q240 q241 q4 q242 ykL_get rfl rfl (fun bq rq wq hq => mL_get _ _ bq a1 _ rq wq hq) (by rw [hR]; decide) (by simp only [List.map_cons, List.map_nil, va_cat]; exact Nat.le_of_ble_eq_true rfl) (by decide) (by rw [hR]; decide) hf rfl (fun _ => rfl) (fun r2 w3 hf => ?_)
  refine v_cast (pc := 8) (r := r2) hC dN_faultOf_8 rfl q268 hf (fun hf => ?_)
  refine v_astore_n (pc := 11) (i := 2) (r := r2) hC dN_faultOf_11 rfl (by decide) [(2, va_rf r2), (0, va_rf (some b)), (1, .int a1)] rfl ?_
  refine v_aload_n (pc := 12) (i := 0) (r := (some b)) hC dN_faultOf_12 rfl 1 rfl ?_
  refine v_iload_n (pc := 13) (i := 1) (x := a1) hC dN_faultOf_13 rfl 2 rfl ?_
  refine v_aload_n (pc := 14) (i := 2) (r := r2) hC dN_faultOf_14 rfl 0 rfl ?_
  refine v_getQ (pc := 15) (r := r2) hC dN_faultOf_15 inO rfl 3 (by decide) q280 (Or.inl rfl) hf (fun r5 hf => ?_)
  obtain ⟨b6, eb6, hf1⟩ := ob hf
  clear hf
  cases eb6
  have hf := hf1
  clear hf1
  refine v_callV (pc := 18) (r := (some b)) (As := [.int a1, va_rf (some b6)]) (rest := []) (k' := 0) (n' := 0) (st1 := (fun yq => [.int yq])) hC dN_faultOf_18 q310 q312 p6 q1 q313 ykN_isUnmadeBefore rfl rfl (fun bq rq wq hq => mN_isUnmadeBefore _ _ bq a1 b6 _ rq wq hq) (by rw [hR]; decide) (by simp only [List.map_cons, List.map_nil, va_cat]; exact Nat.le_of_ble_eq_true rfl) (by decide) (by rw [hR]; decide) hf rfl (fun _ => rfl) (fun x7 w8 hf => ?_)
  refine v_if_ne (pc := 21) (tgt := 26) hC dN_faultOf_21 (by decide) hf (fun hf => ?_) (fun hf => ?_)
  · refine v_aload_n (pc := 26) (i := 0) (r := (some b)) hC dN_faultOf_26 rfl 1 rfl ?_
    refine v_iload_n (pc := 27) (i := 1) (x := a1) hC dN_faultOf_27 rfl 2 rfl ?_
    refine v_aload_n (pc := 28) (i := 2) (r := r2) hC dN_faultOf_28 rfl 0 rfl ?_
    refine v_getQ (pc := 29) (r := r2) hC dN_faultOf_29 inO rfl 1 (by decide) q276 (Or.inl rfl) hf (fun r10 hf => ?_)
    obtain ⟨b11, eb11, hf1⟩ := ob hf
    clear hf
    cases eb11
    have hf := hf1
    clear hf1
    refine v_callV (pc := 32) (r := (some b)) (As := [.int a1, va_rf (some b11)]) (rest := []) (k' := 0) (n' := 0) (st1 := (fun yq => [.int yq])) hC dN_faultOf_32 q310 q312 p6 q1 q313 ykN_isUnmadeBefore rfl rfl (fun bq rq wq hq => mN_isUnmadeBefore _ _ bq a1 b11 _ rq wq hq) (by rw [hR]; decide) (by simp only [List.map_cons, List.map_nil, va_cat]; exact Nat.le_of_ble_eq_true rfl) (by decide) (by rw [hR]; decide) hf rfl (fun _ => rfl) (fun x12 w13 hf => ?_)
    refine v_if_ne (pc := 35) (tgt := 50) hC dN_faultOf_35 (by decide) hf (fun hf => ?_) (fun hf => ?_)
    · refine v_iconst (pc := 50) (v := (2 : Int32)) hC dN_faultOf_50 (by decide) ?_
      exact v_iret (pc := 51) hC hE dN_faultOf_51 (by rw [hR]; decide) (by rw [hR]; decide) hf
    · refine v_aload_n (pc := 38) (i := 0) (r := (some b)) hC dN_faultOf_38 rfl 1 rfl ?_
      refine v_iload_n (pc := 39) (i := 1) (x := a1) hC dN_faultOf_39 rfl 2 rfl ?_
      refine v_aload_n (pc := 40) (i := 2) (r := r2) hC dN_faultOf_40 rfl 0 rfl ?_
      refine v_getQ (pc := 41) (r := r2) hC dN_faultOf_41 inO rfl 2 (by decide) q278 (Or.inl rfl) hf (fun r15 hf => ?_)
      obtain ⟨b16, eb16, hf1⟩ := ob hf
      clear hf
      cases eb16
      have hf := hf1
      clear hf1
      refine v_callV (pc := 44) (r := (some b)) (As := [.int a1, va_rf (some b16)]) (rest := []) (k' := 0) (n' := 0) (st1 := (fun yq => [.int yq])) hC dN_faultOf_44 q310 q312 p6 q1 q313 ykN_isUnmadeBefore rfl rfl (fun bq rq wq hq => mN_isUnmadeBefore _ _ bq a1 b16 _ rq wq hq) (by rw [hR]; decide) (by simp only [List.map_cons, List.map_nil, va_cat]; exact Nat.le_of_ble_eq_true rfl) (by decide) (by rw [hR]; decide) hf rfl (fun _ => rfl) (fun x17 w18 hf => ?_)
      refine v_if_eq (pc := 47) (tgt := 52) hC dN_faultOf_47 (by decide) hf (fun hf => ?_) (fun hf => ?_)
      · refine v_aload_n (pc := 52) (i := 2) (r := r2) hC dN_faultOf_52 rfl 0 rfl ?_
        refine v_callV (pc := 53) (r := r2) (As := []) (rest := []) (k' := 0) (n' := 0) (st1 := (fun yq => [.int yq])) hC dN_faultOf_53 q314 q315 q316 q15 q317 ykO_fits rfl rfl (fun bq rq wq hq => mO_fits _ _ bq  _ rq wq hq) (by rw [hR]; decide) (by simp only [List.map_cons, List.map_nil, va_cat]; exact Nat.le_of_ble_eq_true rfl) (by decide) (by rw [hR]; decide) hf rfl (fun _ => rfl) (fun x20 w21 hf => ?_)
        refine v_if_eq (pc := 56) (tgt := 63) hC dN_faultOf_56 (by decide) hf (fun hf => ?_) (fun hf => ?_)
        · refine v_iconst (pc := 63) (v := (3 : Int32)) hC dN_faultOf_63 (by decide) ?_
          exact v_iret (pc := 64) hC hE dN_faultOf_64 (by rw [hR]; decide) (by rw [hR]; decide) hf
        · refine v_iconst (pc := 59) (v := (0 : Int32)) hC dN_faultOf_59 (by decide) ?_
          refine v_goto (pc := 60) (tgt := 64) hC dN_faultOf_60 (by decide) ?_
          exact v_iret (pc := 64) hC hE dN_faultOf_64 (by rw [hR]; decide) (by rw [hR]; decide) hf
      · refine v_iconst (pc := 50) (v := (2 : Int32)) hC dN_faultOf_50 (by decide) ?_
        exact v_iret (pc := 51) hC hE dN_faultOf_51 (by rw [hR]; decide) (by rw [hR]; decide) hf
  · refine v_iconst (pc := 24) (v := (1 : Int32)) hC dN_faultOf_24 (by decide) ?_
    exact v_iret (pc := 25) hC hE dN_faultOf_25 (by rw [hR]; decide) (by rw [hR]; decide) hf
theorem mN_faultOf (l : Launch) (G : cG) (b : Nat) (a1 : Int32) (w : cW) (r : Int32) (w' : cW) (hf : fN_faultOf b a1 w = some (r, w')) : Met l yN_faultOf (wsM yN_faultOf prog_1_method_21_code 3 (some .int)) rmN_faultOf (mP G w [va_rf (some b), .int a1]) (mQ mkI G w w' r) (rmN_faultOf).cells (rmN_faultOf).slots (Aw w) :=
  met_of (by decide +kernel) rfl (Nat.le_of_ble_eq_true rfl) (fun C hC hR _ _ _ hts hE => tN_faultOf (okC.tbl hC) hE hR a1 w hf)
set_option maxHeartbeats 4000000 in
set_option maxRecDepth 100000 in
theorem tN_firstFault_l40 {C : xC} {G : cG} {w0 w' : cW} {r : Int32} {b : Nat} (hC : okC C prog_1_method_20_code 3 "ArenaNetwork" lw_gd) (hE : xE C (some .int) mkI G w0 w' r) (hR : xR C = rmN_firstFault)  : ∀ n : Nat, ∀ (a1 : Int32) (w : cW), fN_firstFault_l40 b n a1 w = some (r, w') → V C w 0 0 40 [(0, va_rf (some b)), (1, .int a1)] [] := by
  refine lp_P (P := fun (f : Int32 → cW → Option (Int32 × cW)) => ∀ (a1 : Int32) (w : cW), f a1 w = some (r, w') → V C w 0 0 40 [(0, va_rf (some b)), (1, .int a1)] []) ?_ ?_
  · intro a1 w hf
    cases hf
  · intro rec40 hrec40 a1 w hf
    unfold fN_firstFault_b40 at hf
    refine v_iload_n (pc := 40) (i := 1) (x := a1) hC dN_firstFault_40 rfl 1 rfl ?_
    refine v_aload_n (pc := 41) (i := 0) (r := (some b)) hC dN_firstFault_41 rfl 0 rfl ?_
    refine v_getQ (pc := 42) (r := (some b)) hC dN_firstFault_42 inN rfl 0 (by decide) q84 (Or.inl rfl) hf (fun r1 hf => ?_)
    refine v_callV (pc := 45) (r := r1) (As := []) (rest := [.int a1]) (k' := 0) (n' := 0) (st1 := (fun yq => [.int yq, .int a1])) hC dN_firstFault_45 q116 q117 q118 q4 q119 ykL_size rfl rfl (fun bq rq wq hq => mL_size _ _ bq  _ rq wq hq) (by rw [hR]; decide) (by simp only [List.map_cons, List.map_nil, va_cat]; exact Nat.le_of_ble_eq_true rfl) (by decide) (by rw [hR]; decide) hf rfl (fun _ => rfl) (fun x2 w3 hf => ?_)
    refine v_icmp_ge (pc := 48) (tgt := 95) hC dN_firstFault_48 (by decide) hf (fun hf => ?_) (fun hf => ?_)
    · refine v_iconst (pc := 95) (v := (0 : Int32)) hC dN_firstFault_95 (by decide) ?_
      exact v_iret (pc := 96) hC hE dN_firstFault_96 (by rw [hR]; decide) (by rw [hR]; decide) hf
    · refine v_aload_n (pc := 51) (i := 0) (r := (some b)) hC dN_firstFault_51 rfl 0 rfl ?_
      refine v_getQ (pc := 52) (r := (some b)) hC dN_firstFault_52 inN rfl 0 (by decide) q84 (Or.inl rfl) hf (fun r5 hf => ?_)
      refine v_iload_n (pc := 55) (i := 1) (x := a1) hC dN_firstFault_55 rfl 1 rfl ?_
      refine v_callV (pc := 56) (r := r5) (As := [.int a1]) (rest := []) (k' := 0) (n' := 0) (st1 := (fun yq => [va_rf yq])) hC dN_firstFault_56 q239 q240 q241 q4 q242 ykL_get rfl rfl (fun bq rq wq hq => mL_get _ _ bq a1 _ rq wq hq) (by rw [hR]; decide) (by simp only [List.map_cons, List.map_nil, va_cat]; exact Nat.le_of_ble_eq_true rfl) (by decide) (by rw [hR]; decide) hf rfl (fun _ => rfl) (fun r6 w7 hf => ?_)
      refine v_cast (pc := 59) (r := r6) hC dN_firstFault_59 rfl q120 hf (fun hf => ?_)
      refine v_astore_n (pc := 62) (i := 2) (r := r6) hC dN_firstFault_62 rfl (by decide) [(2, va_rf r6), (0, va_rf (some b)), (1, .int a1)] rfl ?_
      refine v_aload_n (pc := 63) (i := 2) (r := r6) hC dN_firstFault_63 rfl 0 rfl ?_
      refine v_getI (pc := 64) (r := r6) hC dN_firstFault_64 inT rfl 6 (by decide) q142 (Or.inl rfl) hf (fun x9 hf => ?_)
      refine v_if_eq (pc := 67) (tgt := 89) hC dN_firstFault_67 (by decide) hf (fun hf => ?_) (fun hf => ?_)
      · refine v_iincB (pc := 89) (i := 1) (x := a1) (v := (1 : Int32)) hC dN_firstFault_89 2 rfl (by decide) (by decide) (fun x10 => [(1, .int x10), (2, va_rf r6), (0, va_rf (some b))]) (fun _ => rfl) hf (fun x10 hf => ?_)
        refine v_goto (pc := 92) (tgt := 40) hC dN_firstFault_92 (by decide) ?_
        exact V.sub [2, 0] rfl (hrec40 _ _ hf)
      · refine v_aload_n (pc := 70) (i := 0) (r := (some b)) hC dN_firstFault_70 rfl 1 rfl ?_
        refine v_aload_n (pc := 71) (i := 0) (r := (some b)) hC dN_firstFault_71 rfl 1 rfl ?_
        refine v_getQ (pc := 72) (r := (some b)) hC dN_firstFault_72 inN rfl 1 (by decide) q85 (Or.inl rfl) hf (fun r11 hf => ?_)
        refine v_callV (pc := 75) (r := r11) (As := []) (rest := [va_rf (some b)]) (k' := 0) (n' := 0) (st1 := (fun yq => [.int yq, va_rf (some b)])) hC dN_firstFault_75 q116 q117 q118 q4 q119 ykL_size rfl rfl (fun bq rq wq hq => mL_size _ _ bq  _ rq wq hq) (by rw [hR]; decide) (by simp only [List.map_cons, List.map_nil, va_cat]; exact Nat.le_of_ble_eq_true rfl) (by decide) (by rw [hR]; decide) hf rfl (fun _ => rfl) (fun x12 w13 hf => ?_)
        refine v_aload_n (pc := 78) (i := 2) (r := r6) hC dN_firstFault_78 rfl 0 rfl ?_
        obtain ⟨b15, eb15, hf1⟩ := ob hf
        clear hf
        cases eb15
        have hf := hf1
        clear hf1
        refine v_callV (pc := 79) (r := (some b)) (As := [.int x12, va_rf (some b15)]) (rest := []) (k' := 0) (n' := 0) (st1 := (fun yq => [.int yq])) hC dN_firstFault_79 q310 q312 p6 q1 q313 ykN_isUnmadeBefore rfl rfl (fun bq rq wq hq => mN_isUnmadeBefore _ _ bq x12 b15 _ rq wq hq) (by rw [hR]; decide) (by simp only [List.map_cons, List.map_nil, va_cat]; exact Nat.le_of_ble_eq_true rfl) (by decide) (by rw [hR]; decide) hf rfl (fun _ => rfl) (fun x16 w17 hf => ?_)
        refine v_if_eq (pc := 82) (tgt := 89) hC dN_firstFault_82 (by decide) hf (fun hf => ?_) (fun hf => ?_)
        · refine v_iincB (pc := 89) (i := 1) (x := a1) (v := (1 : Int32)) hC dN_firstFault_89 2 rfl (by decide) (by decide) (fun x19 => [(1, .int x19), (2, va_rf (some b15)), (0, va_rf (some b))]) (fun _ => rfl) hf (fun x19 hf => ?_)
          refine v_goto (pc := 92) (tgt := 40) hC dN_firstFault_92 (by decide) ?_
          exact V.sub [2, 0] rfl (hrec40 _ _ hf)
        · refine v_sipush (pc := 85) (v := (-1000 : Int32)) hC dN_firstFault_85 (by decide) ?_
          exact v_iret (pc := 88) hC hE dN_firstFault_88 (by rw [hR]; decide) (by rw [hR]; decide) hf
set_option maxHeartbeats 4000000 in
set_option maxRecDepth 100000 in
theorem tN_firstFault_b23 {C : xC} {G : cG} {w0 w' : cW} {r : Int32} {b : Nat} (hC : okC C prog_1_method_20_code 3 "ArenaNetwork" lw_gd) (hE : xE C (some .int) mkI G w0 w' r) (hR : xR C = rmN_firstFault)  (a1 : Int32) (a2 : Int32) (w : cW) (hf : fN_firstFault_b23 b a1 a2 w = some (r, w')) : V C w 0 0 23 [(1, .int a1), (2, .int a2)] [] := by
  unfold fN_firstFault_b23 at hf
  refine v_bipush (pc := 23) (v := (-10 : Int32)) hC dN_firstFault_23 (by decide) ?_
  refine v_iload_n (pc := 25) (i := 1) (x := a1) hC dN_firstFault_25 rfl 0 rfl ?_
  refine v_iconst (pc := 26) (v := (1 : Int32)) hC dN_firstFault_26 (by decide) ?_
  refine v_iadd (pc := 27) hC dN_firstFault_27 ?_
  refine v_imul (pc := 28) hC dN_firstFault_28 ?_
  refine v_iload_n (pc := 29) (i := 2) (x := a2) hC dN_firstFault_29 rfl 1 rfl ?_
  refine v_isub (pc := 30) hC dN_firstFault_30 ?_
  exact v_iret (pc := 31) hC hE dN_firstFault_31 (by rw [hR]; decide) (by rw [hR]; decide) hf
set_option maxHeartbeats 4000000 in
set_option maxRecDepth 100000 in
theorem tN_firstFault_l2 {C : xC} {G : cG} {w0 w' : cW} {r : Int32} {b : Nat} (hC : okC C prog_1_method_20_code 3 "ArenaNetwork" lw_gd) (hE : xE C (some .int) mkI G w0 w' r) (hR : xR C = rmN_firstFault)  : ∀ n : Nat, ∀ (a1 : Int32) (w : cW), fN_firstFault_l2 b n a1 w = some (r, w') → V C w 0 0 2 [(0, va_rf (some b)), (1, .int a1)] [] := by
  refine lp_P (P := fun (f : Int32 → cW → Option (Int32 × cW)) => ∀ (a1 : Int32) (w : cW), f a1 w = some (r, w') → V C w 0 0 2 [(0, va_rf (some b)), (1, .int a1)] []) ?_ ?_
  · intro a1 w hf
    cases hf
  · intro rec2 hrec2 a1 w hf
    unfold fN_firstFault_b2 at hf
    refine v_iload_n (pc := 2) (i := 1) (x := a1) hC dN_firstFault_2 rfl 1 rfl ?_
    refine v_aload_n (pc := 3) (i := 0) (r := (some b)) hC dN_firstFault_3 rfl 0 rfl ?_
    refine v_getQ (pc := 4) (r := (some b)) hC dN_firstFault_4 inN rfl 1 (by decide) q85 (Or.inl rfl) hf (fun r1 hf => ?_)
    refine v_callV (pc := 7) (r := r1) (As := []) (rest := [.int a1]) (k' := 0) (n' := 0) (st1 := (fun yq => [.int yq, .int a1])) hC dN_firstFault_7 q116 q117 q118 q4 q119 ykL_size rfl rfl (fun bq rq wq hq => mL_size _ _ bq  _ rq wq hq) (by rw [hR]; decide) (by simp only [List.map_cons, List.map_nil, va_cat]; exact Nat.le_of_ble_eq_true rfl) (by decide) (by rw [hR]; decide) hf rfl (fun _ => rfl) (fun x2 w3 hf => ?_)
    refine v_icmp_ge (pc := 10) (tgt := 38) hC dN_firstFault_10 (by decide) hf (fun hf => ?_) (fun hf => ?_)
    · refine v_iconst (pc := 38) (v := (0 : Int32)) hC dN_firstFault_38 (by decide) ?_
      refine v_istore_n (pc := 39) (i := 1) (x := (0 : Int32)) hC dN_firstFault_39 rfl (by decide) [(1, .int (0 : Int32)), (0, va_rf (some b))] rfl ?_
      exact V.sub [1, 0] rfl (tN_firstFault_l40 hC hE hR  FU _ _ hf)
    · refine v_aload_n (pc := 13) (i := 0) (r := (some b)) hC dN_firstFault_13 rfl 0 rfl ?_
      refine v_iload_n (pc := 14) (i := 1) (x := a1) hC dN_firstFault_14 rfl 1 rfl ?_
      refine v_callV (pc := 15) (r := (some b)) (As := [.int a1]) (rest := []) (k' := 0) (n' := 0) (st1 := (fun yq => [.int yq])) hC dN_firstFault_15 q306 q308 p5 q1 q309 ykN_faultOf rfl rfl (fun bq rq wq hq => mN_faultOf _ _ bq a1 _ rq wq hq) (by rw [hR]; decide) (by simp only [List.map_cons, List.map_nil, va_cat]; exact Nat.le_of_ble_eq_true rfl) (by decide) (by rw [hR]; decide) hf rfl (fun _ => rfl) (fun x5 w6 hf => ?_)
      refine v_istore_n (pc := 18) (i := 2) (x := x5) hC dN_firstFault_18 rfl (by decide) [(2, .int x5), (0, va_rf (some b)), (1, .int a1)] rfl ?_
      refine v_iload_n (pc := 19) (i := 2) (x := x5) hC dN_firstFault_19 rfl 0 rfl ?_
      refine v_if_eq (pc := 20) (tgt := 32) hC dN_firstFault_20 (by decide) hf (fun hf => ?_) (fun hf => ?_)
      · refine v_iincB (pc := 32) (i := 1) (x := a1) (v := (1 : Int32)) hC dN_firstFault_32 2 rfl (by decide) (by decide) (fun x8 => [(1, .int x8), (2, .int x5), (0, va_rf (some b))]) (fun _ => rfl) hf (fun x8 hf => ?_)
        refine v_goto (pc := 35) (tgt := 2) hC dN_firstFault_35 (by decide) ?_
        exact V.sub [2, 0] rfl (hrec2 _ _ hf)
      · exact V.sub [2, 0] rfl (tN_firstFault_b23 hC hE hR  _ _ _ hf)
set_option maxHeartbeats 4000000 in
set_option maxRecDepth 100000 in
theorem tN_firstFault {C : xC} {G : cG} {w0 w' : cW} {r : Int32} {b : Nat} (hC : okC C prog_1_method_20_code 3 "ArenaNetwork" lw_gd) (hE : xE C (some .int) mkI G w0 w' r) (hR : xR C = rmN_firstFault)  (w : cW) (hf : fN_firstFault b w = some (r, w')) : V C w 0 0 0 [(0, va_rf (some b))] [] := by
  unfold fN_firstFault at hf
  refine v_iconst (pc := 0) (v := (0 : Int32)) hC dN_firstFault_0 (by decide) ?_
  refine v_istore_n (pc := 1) (i := 1) (x := (0 : Int32)) hC dN_firstFault_1 rfl (by decide) [(1, .int (0 : Int32)), (0, va_rf (some b))] rfl ?_
  exact V.sub [1, 0] rfl (tN_firstFault_l2 hC hE hR  FU _ _ hf)
theorem mN_firstFault (l : Launch) (G : cG) (b : Nat)  (w : cW) (r : Int32) (w' : cW) (hf : fN_firstFault b w = some (r, w')) : Met l yN_firstFault (wsM yN_firstFault prog_1_method_20_code 3 (some .int)) rmN_firstFault (mP G w [va_rf (some b)]) (mQ mkI G w w' r) (rmN_firstFault).cells (rmN_firstFault).slots (Aw w) :=
  met_of (by decide +kernel) rfl (Nat.le_of_ble_eq_true rfl) (fun C hC hR _ _ _ hts hE => tN_firstFault (okC.tbl hC) hE hR  w hf)
set_option maxHeartbeats 4000000 in
set_option maxRecDepth 100000 in
theorem tN_giveLives_l90 {C : xC} {G : cG} {w0 w' : cW} {r : Unit} {b : Nat} (hC : okC C prog_1_method_23_code 3 "ArenaNetwork" lw_gd) (hE : xE C none mkV G w0 w' r) (hR : xR C = rmN_giveLives)  : ∀ n : Nat, ∀ (a1 : Int32) (w : cW), fN_giveLives_l90 b n a1 w = some (r, w') → V C w 0 0 90 [(0, va_rf (some b)), (1, .int a1)] [] := by
  refine lp_P (P := fun (f : Int32 → cW → Option (Unit × cW)) => ∀ (a1 : Int32) (w : cW), f a1 w = some (r, w') → V C w 0 0 90 [(0, va_rf (some b)), (1, .int a1)] []) ?_ ?_
  · intro a1 w hf
    cases hf
  · intro rec90 hrec90 a1 w hf
    unfold fN_giveLives_b90 at hf
    refine v_iload_n (pc := 90) (i := 1) (x := a1) hC dN_giveLives_90 rfl 1 rfl ?_
    refine v_aload_n (pc := 91) (i := 0) (r := (some b)) hC dN_giveLives_91 rfl 0 rfl ?_
    refine v_getQ (pc := 92) (r := (some b)) hC dN_giveLives_92 inN rfl 0 (by decide) q84 (Or.inl rfl) hf (fun r1 hf => ?_)
    refine v_callV (pc := 95) (r := r1) (As := []) (rest := [.int a1]) (k' := 0) (n' := 0) (st1 := (fun yq => [.int yq, .int a1])) hC dN_giveLives_95 q116 q117 q118 q4 q119 ykL_size rfl rfl (fun bq rq wq hq => mL_size _ _ bq  _ rq wq hq) (by rw [hR]; decide) (by simp only [List.map_cons, List.map_nil, va_cat]; exact Nat.le_of_ble_eq_true rfl) (by decide) (by rw [hR]; decide) hf rfl (fun _ => rfl) (fun x2 w3 hf => ?_)
    refine v_icmp_ge (pc := 98) (tgt := 137) hC dN_giveLives_98 (by decide) hf (fun hf => ?_) (fun hf => ?_)
    · exact v_vret (pc := 137) hC hE dN_giveLives_137 (by rw [hR]; decide) (by rw [hR]; decide) hf
    · refine v_aload_n (pc := 101) (i := 0) (r := (some b)) hC dN_giveLives_101 rfl 0 rfl ?_
      refine v_getQ (pc := 102) (r := (some b)) hC dN_giveLives_102 inN rfl 0 (by decide) q84 (Or.inl rfl) hf (fun r5 hf => ?_)
      refine v_iload_n (pc := 105) (i := 1) (x := a1) hC dN_giveLives_105 rfl 1 rfl ?_
      refine v_callV (pc := 106) (r := r5) (As := [.int a1]) (rest := []) (k' := 0) (n' := 0) (st1 := (fun yq => [va_rf yq])) hC dN_giveLives_106 q239 q240 q241 q4 q242 ykL_get rfl rfl (fun bq rq wq hq => mL_get _ _ bq a1 _ rq wq hq) (by rw [hR]; decide) (by simp only [List.map_cons, List.map_nil, va_cat]; exact Nat.le_of_ble_eq_true rfl) (by decide) (by rw [hR]; decide) hf rfl (fun _ => rfl) (fun r6 w7 hf => ?_)
      refine v_cast (pc := 109) (r := r6) hC dN_giveLives_109 rfl q120 hf (fun hf => ?_)
      refine v_astore_n (pc := 112) (i := 2) (r := r6) hC dN_giveLives_112 rfl (by decide) [(2, va_rf r6), (0, va_rf (some b)), (1, .int a1)] rfl ?_
      refine v_aload_n (pc := 113) (i := 2) (r := r6) hC dN_giveLives_113 rfl 0 rfl ?_
      refine v_getI (pc := 114) (r := r6) hC dN_giveLives_114 inT rfl 6 (by decide) q142 (Or.inl rfl) hf (fun x9 hf => ?_)
      refine v_if_eq (pc := 117) (tgt := 131) hC dN_giveLives_117 (by decide) hf (fun hf => ?_) (fun hf => ?_)
      · refine v_iincB (pc := 131) (i := 1) (x := a1) (v := (1 : Int32)) hC dN_giveLives_131 2 rfl (by decide) (by decide) (fun x10 => [(1, .int x10), (2, va_rf r6), (0, va_rf (some b))]) (fun _ => rfl) hf (fun x10 hf => ?_)
        refine v_goto (pc := 134) (tgt := 90) hC dN_giveLives_134 (by decide) ?_
        exact V.sub [2, 0] rfl (hrec90 _ _ hf)
      · refine v_aload_n (pc := 120) (i := 2) (r := r6) hC dN_giveLives_120 rfl 0 rfl ?_
        refine v_aload_n (pc := 121) (i := 0) (r := (some b)) hC dN_giveLives_121 rfl 1 rfl ?_
        refine v_getQ (pc := 122) (r := (some b)) hC dN_giveLives_122 inN rfl 1 (by decide) q85 (Or.inl rfl) hf (fun r11 hf => ?_)
        refine v_callV (pc := 125) (r := r11) (As := []) (rest := [va_rf r6]) (k' := 0) (n' := 0) (st1 := (fun yq => [.int yq, va_rf r6])) hC dN_giveLives_125 q116 q117 q118 q4 q119 ykL_size rfl rfl (fun bq rq wq hq => mL_size _ _ bq  _ rq wq hq) (by rw [hR]; decide) (by simp only [List.map_cons, List.map_nil, va_cat]; exact Nat.le_of_ble_eq_true rfl) (by decide) (by rw [hR]; decide) hf rfl (fun _ => rfl) (fun x12 w13 hf => ?_)
        refine v_putI (pc := 128) (r := r6) hC dN_giveLives_128 inT rfl tyT tkT nmT 9 (by decide) q149 (Or.inl rfl) rfl (tkT 9 (by decide)) hf (fun w15 hf => ?_)
        refine v_iincB (pc := 131) (i := 1) (x := a1) (v := (1 : Int32)) hC dN_giveLives_131 2 rfl (by decide) (by decide) (fun x16 => [(1, .int x16), (2, va_rf r6), (0, va_rf (some b))]) (fun _ => rfl) hf (fun x16 hf => ?_)
        refine v_goto (pc := 134) (tgt := 90) hC dN_giveLives_134 (by decide) ?_
        exact V.sub [2, 0] rfl (hrec90 _ _ hf)
set_option maxHeartbeats 4000000 in
set_option maxRecDepth 100000 in
theorem tN_giveLives_l35 {C : xC} {G : cG} {w0 w' : cW} {r : Unit} {b : Nat} (hC : okC C prog_1_method_23_code 3 "ArenaNetwork" lw_gd) (hE : xE C none mkV G w0 w' r) (hR : xR C = rmN_giveLives)  : ∀ n : Nat, ∀ (a1 : Int32) (w : cW), fN_giveLives_l35 b n a1 w = some (r, w') → V C w 0 0 35 [(0, va_rf (some b)), (1, .int a1)] [] := by
  refine lp_P (P := fun (f : Int32 → cW → Option (Unit × cW)) => ∀ (a1 : Int32) (w : cW), f a1 w = some (r, w') → V C w 0 0 35 [(0, va_rf (some b)), (1, .int a1)] []) ?_ ?_
  · intro a1 w hf
    cases hf
  · intro rec35 hrec35 a1 w hf
    unfold fN_giveLives_b35 at hf
    refine v_iload_n (pc := 35) (i := 1) (x := a1) hC dN_giveLives_35 rfl 1 rfl ?_
    refine v_aload_n (pc := 36) (i := 0) (r := (some b)) hC dN_giveLives_36 rfl 0 rfl ?_
    refine v_getQ (pc := 37) (r := (some b)) hC dN_giveLives_37 inN rfl 1 (by decide) q85 (Or.inl rfl) hf (fun r1 hf => ?_)
    refine v_callV (pc := 40) (r := r1) (As := []) (rest := [.int a1]) (k' := 0) (n' := 0) (st1 := (fun yq => [.int yq, .int a1])) hC dN_giveLives_40 q116 q117 q118 q4 q119 ykL_size rfl rfl (fun bq rq wq hq => mL_size _ _ bq  _ rq wq hq) (by rw [hR]; decide) (by simp only [List.map_cons, List.map_nil, va_cat]; exact Nat.le_of_ble_eq_true rfl) (by decide) (by rw [hR]; decide) hf rfl (fun _ => rfl) (fun x2 w3 hf => ?_)
    refine v_icmp_ge (pc := 43) (tgt := 88) hC dN_giveLives_43 (by decide) hf (fun hf => ?_) (fun hf => ?_)
    · refine v_iconst (pc := 88) (v := (0 : Int32)) hC dN_giveLives_88 (by decide) ?_
      refine v_istore_n (pc := 89) (i := 1) (x := (0 : Int32)) hC dN_giveLives_89 rfl (by decide) [(1, .int (0 : Int32)), (0, va_rf (some b))] rfl ?_
      exact V.sub [1, 0] rfl (tN_giveLives_l90 hC hE hR  FU _ _ hf)
    · refine v_aload_n (pc := 46) (i := 0) (r := (some b)) hC dN_giveLives_46 rfl 0 rfl ?_
      refine v_getQ (pc := 47) (r := (some b)) hC dN_giveLives_47 inN rfl 1 (by decide) q85 (Or.inl rfl) hf (fun r5 hf => ?_)
      refine v_iload_n (pc := 50) (i := 1) (x := a1) hC dN_giveLives_50 rfl 1 rfl ?_
      refine v_callV (pc := 51) (r := r5) (As := [.int a1]) (rest := []) (k' := 0) (n' := 0) (st1 := (fun yq => [va_rf yq])) hC dN_giveLives_51 q239 q240 q241 q4 q242 ykL_get rfl rfl (fun bq rq wq hq => mL_get _ _ bq a1 _ rq wq hq) (by rw [hR]; decide) (by simp only [List.map_cons, List.map_nil, va_cat]; exact Nat.le_of_ble_eq_true rfl) (by decide) (by rw [hR]; decide) hf rfl (fun _ => rfl) (fun r6 w7 hf => ?_)
      refine v_cast (pc := 54) (r := r6) hC dN_giveLives_54 rfl q268 hf (fun hf => ?_)
      refine v_astore_n (pc := 57) (i := 2) (r := r6) hC dN_giveLives_57 rfl (by decide) [(2, va_rf r6), (0, va_rf (some b)), (1, .int a1)] rfl ?_
      refine v_aload_n (pc := 58) (i := 2) (r := r6) hC dN_giveLives_58 rfl 0 rfl ?_
      refine v_getQ (pc := 59) (r := r6) hC dN_giveLives_59 inO rfl 1 (by decide) q276 (Or.inl rfl) hf (fun r9 hf => ?_)
      refine v_iload_n (pc := 62) (i := 1) (x := a1) hC dN_giveLives_62 rfl 2 rfl ?_
      refine v_putI (pc := 63) (r := r9) hC dN_giveLives_63 inT rfl tyT tkT nmT 9 (by decide) q149 (Or.inl rfl) rfl (tkT 9 (by decide)) hf (fun w10 hf => ?_)
      refine v_aload_n (pc := 66) (i := 2) (r := r6) hC dN_giveLives_66 rfl 0 rfl ?_
      refine v_getQ (pc := 67) (r := r6) hC dN_giveLives_67 inO rfl 2 (by decide) q278 (Or.inl rfl) hf (fun r11 hf => ?_)
      refine v_iload_n (pc := 70) (i := 1) (x := a1) hC dN_giveLives_70 rfl 2 rfl ?_
      refine v_putI (pc := 71) (r := r11) hC dN_giveLives_71 inT rfl tyT tkT nmT 9 (by decide) q149 (Or.inl rfl) rfl (tkT 9 (by decide)) hf (fun w12 hf => ?_)
      refine v_aload_n (pc := 74) (i := 2) (r := r6) hC dN_giveLives_74 rfl 0 rfl ?_
      refine v_getQ (pc := 75) (r := r6) hC dN_giveLives_75 inO rfl 3 (by decide) q280 (Or.inl rfl) hf (fun r13 hf => ?_)
      refine v_iload_n (pc := 78) (i := 1) (x := a1) hC dN_giveLives_78 rfl 2 rfl ?_
      refine v_callV (pc := 79) (r := r13) (As := [.int a1]) (rest := []) (k' := 0) (n' := 0) (st1 := (fun yq => [])) hC dN_giveLives_79 q331 q328 q329 q8 q330 ykT_beginLife rfl rfl (fun bq rq wq hq => mT_beginLife _ _ bq a1 _ rq wq hq) (by rw [hR]; decide) (by simp only [List.map_cons, List.map_nil, va_cat]; exact Nat.le_of_ble_eq_true rfl) (by decide) (by rw [hR]; decide) hf rfl (fun _ => rfl) (fun u14 w15 hf => ?_)
      refine v_iincB (pc := 82) (i := 1) (x := a1) (v := (1 : Int32)) hC dN_giveLives_82 2 rfl (by decide) (by decide) (fun x17 => [(1, .int x17), (2, va_rf r6), (0, va_rf (some b))]) (fun _ => rfl) hf (fun x17 hf => ?_)
      refine v_goto (pc := 85) (tgt := 35) hC dN_giveLives_85 (by decide) ?_
      exact V.sub [2, 0] rfl (hrec35 _ _ hf)
set_option maxHeartbeats 4000000 in
set_option maxRecDepth 100000 in
theorem tN_giveLives_l2 {C : xC} {G : cG} {w0 w' : cW} {r : Unit} {b : Nat} (hC : okC C prog_1_method_23_code 3 "ArenaNetwork" lw_gd) (hE : xE C none mkV G w0 w' r) (hR : xR C = rmN_giveLives)  : ∀ n : Nat, ∀ (a1 : Int32) (w : cW), fN_giveLives_l2 b n a1 w = some (r, w') → V C w 0 0 2 [(0, va_rf (some b)), (1, .int a1)] [] := by
  refine lp_P (P := fun (f : Int32 → cW → Option (Unit × cW)) => ∀ (a1 : Int32) (w : cW), f a1 w = some (r, w') → V C w 0 0 2 [(0, va_rf (some b)), (1, .int a1)] []) ?_ ?_
  · intro a1 w hf
    cases hf
  · intro rec2 hrec2 a1 w hf
    unfold fN_giveLives_b2 at hf
    refine v_iload_n (pc := 2) (i := 1) (x := a1) hC dN_giveLives_2 rfl 1 rfl ?_
    refine v_aload_n (pc := 3) (i := 0) (r := (some b)) hC dN_giveLives_3 rfl 0 rfl ?_
    refine v_getQ (pc := 4) (r := (some b)) hC dN_giveLives_4 inN rfl 0 (by decide) q84 (Or.inl rfl) hf (fun r1 hf => ?_)
    refine v_callV (pc := 7) (r := r1) (As := []) (rest := [.int a1]) (k' := 0) (n' := 0) (st1 := (fun yq => [.int yq, .int a1])) hC dN_giveLives_7 q116 q117 q118 q4 q119 ykL_size rfl rfl (fun bq rq wq hq => mL_size _ _ bq  _ rq wq hq) (by rw [hR]; decide) (by simp only [List.map_cons, List.map_nil, va_cat]; exact Nat.le_of_ble_eq_true rfl) (by decide) (by rw [hR]; decide) hf rfl (fun _ => rfl) (fun x2 w3 hf => ?_)
    refine v_icmp_ge (pc := 10) (tgt := 33) hC dN_giveLives_10 (by decide) hf (fun hf => ?_) (fun hf => ?_)
    · refine v_iconst (pc := 33) (v := (0 : Int32)) hC dN_giveLives_33 (by decide) ?_
      refine v_istore_n (pc := 34) (i := 1) (x := (0 : Int32)) hC dN_giveLives_34 rfl (by decide) [(1, .int (0 : Int32)), (0, va_rf (some b))] rfl ?_
      exact V.sub [1, 0] rfl (tN_giveLives_l35 hC hE hR  FU _ _ hf)
    · refine v_aload_n (pc := 13) (i := 0) (r := (some b)) hC dN_giveLives_13 rfl 0 rfl ?_
      refine v_getQ (pc := 14) (r := (some b)) hC dN_giveLives_14 inN rfl 0 (by decide) q84 (Or.inl rfl) hf (fun r5 hf => ?_)
      refine v_iload_n (pc := 17) (i := 1) (x := a1) hC dN_giveLives_17 rfl 1 rfl ?_
      refine v_callV (pc := 18) (r := r5) (As := [.int a1]) (rest := []) (k' := 0) (n' := 0) (st1 := (fun yq => [va_rf yq])) hC dN_giveLives_18 q239 q240 q241 q4 q242 ykL_get rfl rfl (fun bq rq wq hq => mL_get _ _ bq a1 _ rq wq hq) (by rw [hR]; decide) (by simp only [List.map_cons, List.map_nil, va_cat]; exact Nat.le_of_ble_eq_true rfl) (by decide) (by rw [hR]; decide) hf rfl (fun _ => rfl) (fun r6 w7 hf => ?_)
      refine v_cast (pc := 21) (r := r6) hC dN_giveLives_21 rfl q120 hf (fun hf => ?_)
      refine v_callV (pc := 24) (r := r6) (As := []) (rest := []) (k' := 0) (n' := 0) (st1 := (fun yq => [])) hC dN_giveLives_24 q323 q324 q325 q8 q326 ykT_resetLife rfl rfl (fun bq rq wq hq => mT_resetLife _ _ bq  _ rq wq hq) (by rw [hR]; decide) (by simp only [List.map_cons, List.map_nil, va_cat]; exact Nat.le_of_ble_eq_true rfl) (by decide) (by rw [hR]; decide) hf rfl (fun _ => rfl) (fun u9 w10 hf => ?_)
      refine v_iincB (pc := 27) (i := 1) (x := a1) (v := (1 : Int32)) hC dN_giveLives_27 1 rfl (by decide) (by decide) (fun x12 => [(1, .int x12), (0, va_rf (some b))]) (fun _ => rfl) hf (fun x12 hf => ?_)
      refine v_goto (pc := 30) (tgt := 2) hC dN_giveLives_30 (by decide) ?_
      exact V.sub [1, 0] rfl (hrec2 _ _ hf)
set_option maxHeartbeats 4000000 in
set_option maxRecDepth 100000 in
theorem tN_giveLives {C : xC} {G : cG} {w0 w' : cW} {r : Unit} {b : Nat} (hC : okC C prog_1_method_23_code 3 "ArenaNetwork" lw_gd) (hE : xE C none mkV G w0 w' r) (hR : xR C = rmN_giveLives)  (w : cW) (hf : fN_giveLives b w = some (r, w')) : V C w 0 0 0 [(0, va_rf (some b))] [] := by
  unfold fN_giveLives at hf
  refine v_iconst (pc := 0) (v := (0 : Int32)) hC dN_giveLives_0 (by decide) ?_
  refine v_istore_n (pc := 1) (i := 1) (x := (0 : Int32)) hC dN_giveLives_1 rfl (by decide) [(1, .int (0 : Int32)), (0, va_rf (some b))] rfl ?_
  exact V.sub [1, 0] rfl (tN_giveLives_l2 hC hE hR  FU _ _ hf)
theorem mN_giveLives (l : Launch) (G : cG) (b : Nat)  (w : cW) (r : Unit) (w' : cW) (hf : fN_giveLives b w = some (r, w')) : Met l yN_giveLives (wsM yN_giveLives prog_1_method_23_code 3 none) rmN_giveLives (mP G w [va_rf (some b)]) (mQ mkV G w w' r) (rmN_giveLives).cells (rmN_giveLives).slots (Aw w) :=
  met_of (by decide +kernel) rfl (Nat.le_of_ble_eq_true rfl) (fun C hC hR _ _ _ hts hE => tN_giveLives (okC.tbl hC) hE hR  w hf)
set_option maxHeartbeats 4000000 in
set_option maxRecDepth 100000 in
theorem tN_doNext {C : xC} {G : cG} {w0 w' : cW} {r : Unit} {b : Nat} (hC : okC C prog_1_method_24_code 2 "ArenaNetwork" lw_gd) (hE : xE C none mkV G w0 w' r) (hR : xR C = rmN_doNext)  (w : cW) (hf : fN_doNext b w = some (r, w')) : V C w 0 0 0 [(0, va_rf (some b))] [] := by
  unfold fN_doNext at hf
  refine v_aload_n (pc := 0) (i := 0) (r := (some b)) hC dN_doNext_0 rfl 0 rfl ?_
  refine v_getQ (pc := 1) (r := (some b)) hC dN_doNext_1 inN rfl 1 (by decide) q85 (Or.inl rfl) hf (fun r1 hf => ?_)
  refine v_aload_n (pc := 4) (i := 0) (r := (some b)) hC dN_doNext_4 rfl 0 rfl ?_
  refine v_getI (pc := 5) (r := (some b)) hC dN_doNext_5 inN rfl 5 (by decide) q89 (Or.inl rfl) hf (fun x2 hf => ?_)
  refine v_callV (pc := 8) (r := r1) (As := [.int x2]) (rest := []) (k' := 0) (n' := 0) (st1 := (fun yq => [va_rf yq])) hC dN_doNext_8 q239 q240 q241 q4 q242 ykL_get rfl rfl (fun bq rq wq hq => mL_get _ _ bq x2 _ rq wq hq) (by rw [hR]; decide) (by simp only [List.map_cons, List.map_nil, va_cat]; exact Nat.le_of_ble_eq_true rfl) (by decide) (by rw [hR]; decide) hf rfl (fun _ => rfl) (fun r3 w4 hf => ?_)
  refine v_cast (pc := 11) (r := r3) hC dN_doNext_11 rfl q268 hf (fun hf => ?_)
  refine v_astore_n (pc := 14) (i := 1) (r := r3) hC dN_doNext_14 rfl (by decide) [(1, va_rf r3), (0, va_rf (some b))] rfl ?_
  refine v_aload_n (pc := 15) (i := 1) (r := r3) hC dN_doNext_15 rfl 0 rfl ?_
  refine v_aload_n (pc := 16) (i := 0) (r := (some b)) hC dN_doNext_16 rfl 1 rfl ?_
  refine v_getQ (pc := 17) (r := (some b)) hC dN_doNext_17 inN rfl 2 (by decide) q86 (Or.inl rfl) hf (fun r6 hf => ?_)
  refine v_aload_n (pc := 20) (i := 1) (r := r3) hC dN_doNext_20 rfl 0 rfl ?_
  refine v_getI (pc := 21) (r := r3) hC dN_doNext_21 inO rfl 4 (by decide) q282 (Or.inl rfl) hf (fun x7 hf => ?_)
  refine v_aald (pc := 24) hC dN_doNext_24 hf (fun r8 hf => ?_)
  obtain ⟨b9, eb9, hf1⟩ := ob hf
  clear hf
  cases eb9
  have hf := hf1
  clear hf1
  refine v_callV (pc := 25) (r := r3) (As := [va_rf (some b9)]) (rest := []) (k' := 0) (n' := 0) (st1 := (fun yq => [])) hC dN_doNext_25 q382 q383 q384 q15 q385 ykO_makeResult rfl rfl (fun bq rq wq hq => mO_makeResult _ _ bq b9 _ rq wq hq) (by rw [hR]; decide) (by simp only [List.map_cons, List.map_nil, va_cat]; exact Nat.le_of_ble_eq_true rfl) (by decide) (by rw [hR]; decide) hf rfl (fun _ => rfl) (fun u10 w11 hf => ?_)
  refine v_aload_n (pc := 28) (i := 0) (r := (some b)) hC dN_doNext_28 rfl 1 rfl ?_
  refine v_dupR (pc := 29) hC dN_doNext_29 ?_
  refine v_getI (pc := 30) (r := (some b)) hC dN_doNext_30 inN rfl 5 (by decide) q89 (Or.inl rfl) hf (fun x13 hf => ?_)
  refine v_iconst (pc := 33) (v := (1 : Int32)) hC dN_doNext_33 (by decide) ?_
  refine v_iadd (pc := 34) hC dN_doNext_34 ?_
  refine v_putI (pc := 35) (r := (some b)) hC dN_doNext_35 inN rfl tyN tkN nmN 5 (by decide) q89 (Or.inl rfl) rfl (tkN 5 (by decide)) hf (fun w14 hf => ?_)
  exact v_vret (pc := 38) hC hE dN_doNext_38 (by rw [hR]; decide) (by rw [hR]; decide) hf
theorem mN_doNext (l : Launch) (G : cG) (b : Nat)  (w : cW) (r : Unit) (w' : cW) (hf : fN_doNext b w = some (r, w')) : Met l yN_doNext (wsM yN_doNext prog_1_method_24_code 2 none) rmN_doNext (mP G w [va_rf (some b)]) (mQ mkV G w w' r) (rmN_doNext).cells (rmN_doNext).slots (Aw w) :=
  met_of (by decide +kernel) rfl (Nat.le_of_ble_eq_true rfl) (fun C hC hR _ _ _ hts hE => tN_doNext (okC.tbl hC) hE hR  w hf)
