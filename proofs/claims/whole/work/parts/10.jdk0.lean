abbrev yC_init : MethodName := ⟨"java/util/AbstractCollection", "<init>", "()V"⟩
abbrev rmC_init : Room := { frames := 1, cells := 0, slots := 0, locals := 20 }
theorem ykC_init : yOk yC_init 0 := by decide +kernel
theorem dC_init_0 : decode prog_13_method_1_code 0 = .ok (.aload_n 0, 1) := by decide +kernel
theorem dC_init_1 : decode prog_13_method_1_code 1 = .ok (.invokespecial 1, 3) := by decide +kernel
theorem dC_init_4 : decode prog_13_method_1_code 4 = .ok (.return_, 1) := by decide +kernel
abbrev yB_init : MethodName := ⟨"java/util/AbstractList", "<init>", "()V"⟩
abbrev rmB_init : Room := { frames := 2, cells := 0, slots := 0, locals := 40 }
theorem ykB_init : yOk yB_init 0 := by decide +kernel
theorem dB_init_0 : decode prog_14_method_1_code 0 = .ok (.aload_n 0, 1) := by decide +kernel
theorem dB_init_1 : decode prog_14_method_1_code 1 = .ok (.invokespecial 1, 3) := by decide +kernel
theorem dB_init_4 : decode prog_14_method_1_code 4 = .ok (.aload_n 0, 1) := by decide +kernel
theorem dB_init_5 : decode prog_14_method_1_code 5 = .ok (.iconst (0), 1) := by decide +kernel
theorem dB_init_6 : decode prog_14_method_1_code 6 = .ok (.putfield 7, 3) := by decide +kernel
theorem dB_init_9 : decode prog_14_method_1_code 9 = .ok (.return_, 1) := by decide +kernel
abbrev yL_init : MethodName := ⟨"java/util/ArrayList", "<init>", "()V"⟩
abbrev rmL_init : Room := { frames := 3, cells := 0, slots := 0, locals := 60 }
theorem ykL_init : yOk yL_init 0 := by decide +kernel
theorem dL_init_0 : decode prog_15_method_2_code 0 = .ok (.aload_n 0, 1) := by decide +kernel
theorem dL_init_1 : decode prog_15_method_2_code 1 = .ok (.invokespecial 1, 3) := by decide +kernel
theorem dL_init_4 : decode prog_15_method_2_code 4 = .ok (.aload_n 0, 1) := by decide +kernel
theorem dL_init_5 : decode prog_15_method_2_code 5 = .ok (.getstatic 39, 3) := by decide +kernel
theorem dL_init_8 : decode prog_15_method_2_code 8 = .ok (.putfield 9, 3) := by decide +kernel
theorem dL_init_11 : decode prog_15_method_2_code 11 = .ok (.return_, 1) := by decide +kernel
abbrev yL_size : MethodName := ⟨"java/util/ArrayList", "size", "()I"⟩
abbrev rmL_size : Room := { frames := 0, cells := 0, slots := 0, locals := 0 }
theorem ykL_size : yOk yL_size 0 := by decide +kernel
theorem dL_size_0 : decode prog_15_method_8_code 0 = .ok (.aload_n 0, 1) := by decide +kernel
theorem dL_size_1 : decode prog_15_method_8_code 1 = .ok (.getfield 48, 3) := by decide +kernel
theorem dL_size_4 : decode prog_15_method_8_code 4 = .ok (.ireturn, 1) := by decide +kernel
abbrev yP_checkIndex : MethodName := ⟨"jdk/internal/util/Preconditions", "checkIndex", "(IILjava/util/function/BiFunction;)I"⟩
abbrev rmP_checkIndex : Room := { frames := 0, cells := 0, slots := 0, locals := 0 }
theorem ykP_checkIndex : yOk yP_checkIndex 3 := by decide +kernel
theorem dP_checkIndex_0 : decode prog_23_method_11_code 0 = .ok (.iload_n 0, 1) := by decide +kernel
theorem dP_checkIndex_1 : decode prog_23_method_11_code 1 = .ok (.ifCond .lt (8), 3) := by decide +kernel
theorem dP_checkIndex_4 : decode prog_23_method_11_code 4 = .ok (.iload_n 0, 1) := by decide +kernel
theorem dP_checkIndex_5 : decode prog_23_method_11_code 5 = .ok (.iload_n 1, 1) := by decide +kernel
theorem dP_checkIndex_6 : decode prog_23_method_11_code 6 = .ok (.if_icmp .lt (10), 3) := by decide +kernel
theorem dP_checkIndex_9 : decode prog_23_method_11_code 9 = .ok (.aload_n 2, 1) := by decide +kernel
theorem dP_checkIndex_16 : decode prog_23_method_11_code 16 = .ok (.iload_n 0, 1) := by decide +kernel
theorem dP_checkIndex_17 : decode prog_23_method_11_code 17 = .ok (.ireturn, 1) := by decide +kernel
abbrev yJ_checkIndex : MethodName := ⟨"java/util/Objects", "checkIndex", "(II)I"⟩
abbrev rmJ_checkIndex : Room := { frames := 1, cells := 0, slots := 0, locals := 22 }
theorem ykJ_checkIndex : yOk yJ_checkIndex 2 := by decide +kernel
theorem dJ_checkIndex_0 : decode prog_19_method_17_code 0 = .ok (.iload_n 0, 1) := by decide +kernel
theorem dJ_checkIndex_1 : decode prog_19_method_17_code 1 = .ok (.iload_n 1, 1) := by decide +kernel
theorem dJ_checkIndex_2 : decode prog_19_method_17_code 2 = .ok (.aconst_null, 1) := by decide +kernel
theorem dJ_checkIndex_3 : decode prog_19_method_17_code 3 = .ok (.invokestatic 105, 3) := by decide +kernel
theorem dJ_checkIndex_6 : decode prog_19_method_17_code 6 = .ok (.ireturn, 1) := by decide +kernel
abbrev yL_elementData : MethodName := ⟨"java/util/ArrayList", "elementData", "(I)Ljava/lang/Object;"⟩
abbrev rmL_elementData : Room := { frames := 0, cells := 0, slots := 0, locals := 0 }
theorem ykL_elementData : yOk yL_elementData 1 := by decide +kernel
theorem dL_elementData_0 : decode prog_15_method_18_code 0 = .ok (.aload_n 0, 1) := by decide +kernel
theorem dL_elementData_1 : decode prog_15_method_18_code 1 = .ok (.getfield 9, 3) := by decide +kernel
theorem dL_elementData_4 : decode prog_15_method_18_code 4 = .ok (.iload_n 1, 1) := by decide +kernel
theorem dL_elementData_5 : decode prog_15_method_18_code 5 = .ok (.aaload, 1) := by decide +kernel
theorem dL_elementData_6 : decode prog_15_method_18_code 6 = .ok (.areturn, 1) := by decide +kernel
abbrev yL_get : MethodName := ⟨"java/util/ArrayList", "get", "(I)Ljava/lang/Object;"⟩
abbrev rmL_get : Room := { frames := 2, cells := 0, slots := 0, locals := 43 }
theorem ykL_get : yOk yL_get 1 := by decide +kernel
theorem dL_get_0 : decode prog_15_method_20_code 0 = .ok (.iload_n 1, 1) := by decide +kernel
theorem dL_get_1 : decode prog_15_method_20_code 1 = .ok (.aload_n 0, 1) := by decide +kernel
theorem dL_get_2 : decode prog_15_method_20_code 2 = .ok (.getfield 48, 3) := by decide +kernel
theorem dL_get_5 : decode prog_15_method_20_code 5 = .ok (.invokestatic 118, 3) := by decide +kernel
theorem dL_get_8 : decode prog_15_method_20_code 8 = .ok (.pop, 1) := by decide +kernel
theorem dL_get_9 : decode prog_15_method_20_code 9 = .ok (.aload_n 0, 1) := by decide +kernel
theorem dL_get_10 : decode prog_15_method_20_code 10 = .ok (.iload_n 1, 1) := by decide +kernel
theorem dL_get_11 : decode prog_15_method_20_code 11 = .ok (.invokevirtual 123, 3) := by decide +kernel
theorem dL_get_14 : decode prog_15_method_20_code 14 = .ok (.areturn, 1) := by decide +kernel
abbrev yU_newLength : MethodName := ⟨"jdk/internal/util/ArraysSupport", "newLength", "(III)I"⟩
abbrev rmU_newLength : Room := { frames := 1, cells := 0, slots := 0, locals := 21 }
theorem ykU_newLength : yOk yU_newLength 3 := by decide +kernel
theorem dU_newLength_0 : decode prog_22_method_27_code 0 = .ok (.iload_n 0, 1) := by decide +kernel
theorem dU_newLength_1 : decode prog_22_method_27_code 1 = .ok (.iload_n 1, 1) := by decide +kernel
theorem dU_newLength_2 : decode prog_22_method_27_code 2 = .ok (.iload_n 2, 1) := by decide +kernel
theorem dU_newLength_3 : decode prog_22_method_27_code 3 = .ok (.invokestatic 194, 3) := by decide +kernel
theorem dU_newLength_6 : decode prog_22_method_27_code 6 = .ok (.iadd, 1) := by decide +kernel
theorem dU_newLength_7 : decode prog_22_method_27_code 7 = .ok (.istore_n 3, 1) := by decide +kernel
theorem dU_newLength_8 : decode prog_22_method_27_code 8 = .ok (.iconst (0), 1) := by decide +kernel
theorem dU_newLength_9 : decode prog_22_method_27_code 9 = .ok (.iload_n 3, 1) := by decide +kernel
theorem dU_newLength_10 : decode prog_22_method_27_code 10 = .ok (.if_icmp .ge (11), 3) := by decide +kernel
theorem dU_newLength_13 : decode prog_22_method_27_code 13 = .ok (.iload_n 3, 1) := by decide +kernel
theorem dU_newLength_14 : decode prog_22_method_27_code 14 = .ok (.ldc 200, 2) := by decide +kernel
theorem dU_newLength_16 : decode prog_22_method_27_code 16 = .ok (.if_icmp .gt (5), 3) := by decide +kernel
theorem dU_newLength_19 : decode prog_22_method_27_code 19 = .ok (.iload_n 3, 1) := by decide +kernel
theorem dU_newLength_20 : decode prog_22_method_27_code 20 = .ok (.ireturn, 1) := by decide +kernel
theorem dU_newLength_21 : decode prog_22_method_27_code 21 = .ok (.iload_n 0, 1) := by decide +kernel
theorem dU_newLength_22 : decode prog_22_method_27_code 22 = .ok (.iload_n 1, 1) := by decide +kernel
theorem dU_newLength_23 : decode prog_22_method_27_code 23 = .ok (.invokestatic 201, 3) := by decide +kernel
abbrev yY_copyOf : MethodName := ⟨"java/util/Arrays", "copyOf", "([Ljava/lang/Object;ILjava/lang/Class;)[Ljava/lang/Object;"⟩
abbrev rmY_copyOf : Room := { frames := 1, cells := 1, slots := 33, locals := 40 }
theorem ykY_copyOf : yOk yY_copyOf 3 := by decide +kernel
theorem dY_copyOf_0 : decode prog_16_method_120_code 0 = .ok (.aload_n 2, 1) := by decide +kernel
theorem dY_copyOf_1 : decode prog_16_method_120_code 1 = .ok (.ldc 110, 2) := by decide +kernel
theorem dY_copyOf_3 : decode prog_16_method_120_code 3 = .ok (.if_acmp .ne (10), 3) := by decide +kernel
theorem dY_copyOf_6 : decode prog_16_method_120_code 6 = .ok (.iload_n 1, 1) := by decide +kernel
theorem dY_copyOf_7 : decode prog_16_method_120_code 7 = .ok (.anewarray 2, 3) := by decide +kernel
theorem dY_copyOf_10 : decode prog_16_method_120_code 10 = .ok (.goto (14), 3) := by decide +kernel
theorem dY_copyOf_13 : decode prog_16_method_120_code 13 = .ok (.aload_n 2, 1) := by decide +kernel
theorem dY_copyOf_14 : decode prog_16_method_120_code 14 = .ok (.invokevirtual 90, 3) := by decide +kernel
theorem dY_copyOf_24 : decode prog_16_method_120_code 24 = .ok (.astore_n 3, 1) := by decide +kernel
theorem dY_copyOf_25 : decode prog_16_method_120_code 25 = .ok (.aload_n 0, 1) := by decide +kernel
theorem dY_copyOf_26 : decode prog_16_method_120_code 26 = .ok (.iconst (0), 1) := by decide +kernel
theorem dY_copyOf_27 : decode prog_16_method_120_code 27 = .ok (.aload_n 3, 1) := by decide +kernel
theorem dY_copyOf_28 : decode prog_16_method_120_code 28 = .ok (.iconst (0), 1) := by decide +kernel
theorem dY_copyOf_29 : decode prog_16_method_120_code 29 = .ok (.aload_n 0, 1) := by decide +kernel
theorem dY_copyOf_30 : decode prog_16_method_120_code 30 = .ok (.arraylength, 1) := by decide +kernel
theorem dY_copyOf_31 : decode prog_16_method_120_code 31 = .ok (.iload_n 1, 1) := by decide +kernel
theorem dY_copyOf_32 : decode prog_16_method_120_code 32 = .ok (.invokestatic 304, 3) := by decide +kernel
theorem dY_copyOf_35 : decode prog_16_method_120_code 35 = .ok (.invokestatic 150, 3) := by decide +kernel
theorem dY_copyOf_38 : decode prog_16_method_120_code 38 = .ok (.aload_n 3, 1) := by decide +kernel
theorem dY_copyOf_39 : decode prog_16_method_120_code 39 = .ok (.areturn, 1) := by decide +kernel
abbrev yY_copyOf2 : MethodName := ⟨"java/util/Arrays", "copyOf", "([Ljava/lang/Object;I)[Ljava/lang/Object;"⟩
abbrev rmY_copyOf2 : Room := { frames := 2, cells := 1, slots := 33, locals := 63 }
theorem ykY_copyOf2 : yOk yY_copyOf2 2 := by decide +kernel
theorem dY_copyOf2_0 : decode prog_16_method_119_code 0 = .ok (.aload_n 0, 1) := by decide +kernel
theorem dY_copyOf2_1 : decode prog_16_method_119_code 1 = .ok (.iload_n 1, 1) := by decide +kernel
theorem dY_copyOf2_2 : decode prog_16_method_119_code 2 = .ok (.aload_n 0, 1) := by decide +kernel
theorem dY_copyOf2_3 : decode prog_16_method_119_code 3 = .ok (.invokevirtual 86, 3) := by decide +kernel
theorem dY_copyOf2_6 : decode prog_16_method_119_code 6 = .ok (.invokestatic 300, 3) := by decide +kernel
theorem dY_copyOf2_9 : decode prog_16_method_119_code 9 = .ok (.areturn, 1) := by decide +kernel
abbrev yL_grow : MethodName := ⟨"java/util/ArrayList", "grow", "(I)[Ljava/lang/Object;"⟩
abbrev rmL_grow : Room := { frames := 3, cells := 1, slots := 33, locals := 84 }
theorem ykL_grow : yOk yL_grow 1 := by decide +kernel
theorem dL_grow_0 : decode prog_15_method_6_code 0 = .ok (.aload_n 0, 1) := by decide +kernel
theorem dL_grow_1 : decode prog_15_method_6_code 1 = .ok (.getfield 9, 3) := by decide +kernel
theorem dL_grow_4 : decode prog_15_method_6_code 4 = .ok (.arraylength, 1) := by decide +kernel
theorem dL_grow_5 : decode prog_15_method_6_code 5 = .ok (.istore_n 2, 1) := by decide +kernel
theorem dL_grow_6 : decode prog_15_method_6_code 6 = .ok (.iload_n 2, 1) := by decide +kernel
theorem dL_grow_7 : decode prog_15_method_6_code 7 = .ok (.ifCond .gt (13), 3) := by decide +kernel
theorem dL_grow_10 : decode prog_15_method_6_code 10 = .ok (.aload_n 0, 1) := by decide +kernel
theorem dL_grow_11 : decode prog_15_method_6_code 11 = .ok (.getfield 9, 3) := by decide +kernel
theorem dL_grow_14 : decode prog_15_method_6_code 14 = .ok (.getstatic 39, 3) := by decide +kernel
theorem dL_grow_17 : decode prog_15_method_6_code 17 = .ok (.if_acmp .eq (28), 3) := by decide +kernel
theorem dL_grow_20 : decode prog_15_method_6_code 20 = .ok (.iload_n 2, 1) := by decide +kernel
theorem dL_grow_21 : decode prog_15_method_6_code 21 = .ok (.iload_n 1, 1) := by decide +kernel
theorem dL_grow_22 : decode prog_15_method_6_code 22 = .ok (.iload_n 2, 1) := by decide +kernel
theorem dL_grow_23 : decode prog_15_method_6_code 23 = .ok (.isub, 1) := by decide +kernel
theorem dL_grow_24 : decode prog_15_method_6_code 24 = .ok (.iload_n 2, 1) := by decide +kernel
theorem dL_grow_25 : decode prog_15_method_6_code 25 = .ok (.iconst (1), 1) := by decide +kernel
theorem dL_grow_26 : decode prog_15_method_6_code 26 = .ok (.ishr, 1) := by decide +kernel
theorem dL_grow_27 : decode prog_15_method_6_code 27 = .ok (.invokestatic 73, 3) := by decide +kernel
theorem dL_grow_30 : decode prog_15_method_6_code 30 = .ok (.istore_n 3, 1) := by decide +kernel
theorem dL_grow_31 : decode prog_15_method_6_code 31 = .ok (.aload_n 0, 1) := by decide +kernel
theorem dL_grow_32 : decode prog_15_method_6_code 32 = .ok (.aload_n 0, 1) := by decide +kernel
theorem dL_grow_33 : decode prog_15_method_6_code 33 = .ok (.getfield 9, 3) := by decide +kernel
theorem dL_grow_36 : decode prog_15_method_6_code 36 = .ok (.iload_n 3, 1) := by decide +kernel
theorem dL_grow_37 : decode prog_15_method_6_code 37 = .ok (.invokestatic 66, 3) := by decide +kernel
theorem dL_grow_40 : decode prog_15_method_6_code 40 = .ok (.dup_x1, 1) := by decide +kernel
theorem dL_grow_41 : decode prog_15_method_6_code 41 = .ok (.putfield 9, 3) := by decide +kernel
theorem dL_grow_44 : decode prog_15_method_6_code 44 = .ok (.areturn, 1) := by decide +kernel
theorem dL_grow_45 : decode prog_15_method_6_code 45 = .ok (.aload_n 0, 1) := by decide +kernel
theorem dL_grow_46 : decode prog_15_method_6_code 46 = .ok (.bipush (10), 2) := by decide +kernel
theorem dL_grow_48 : decode prog_15_method_6_code 48 = .ok (.iload_n 1, 1) := by decide +kernel
theorem dL_grow_49 : decode prog_15_method_6_code 49 = .ok (.invokestatic 79, 3) := by decide +kernel
theorem dL_grow_52 : decode prog_15_method_6_code 52 = .ok (.anewarray 7, 3) := by decide +kernel
theorem dL_grow_55 : decode prog_15_method_6_code 55 = .ok (.dup_x1, 1) := by decide +kernel
theorem dL_grow_56 : decode prog_15_method_6_code 56 = .ok (.putfield 9, 3) := by decide +kernel
theorem dL_grow_59 : decode prog_15_method_6_code 59 = .ok (.areturn, 1) := by decide +kernel
abbrev yL_grow2 : MethodName := ⟨"java/util/ArrayList", "grow", "()[Ljava/lang/Object;"⟩
abbrev rmL_grow2 : Room := { frames := 4, cells := 1, slots := 33, locals := 107 }
theorem ykL_grow2 : yOk yL_grow2 0 := by decide +kernel
theorem dL_grow2_0 : decode prog_15_method_7_code 0 = .ok (.aload_n 0, 1) := by decide +kernel
theorem dL_grow2_1 : decode prog_15_method_7_code 1 = .ok (.aload_n 0, 1) := by decide +kernel
theorem dL_grow2_2 : decode prog_15_method_7_code 2 = .ok (.getfield 48, 3) := by decide +kernel
theorem dL_grow2_5 : decode prog_15_method_7_code 5 = .ok (.iconst (1), 1) := by decide +kernel
theorem dL_grow2_6 : decode prog_15_method_7_code 6 = .ok (.iadd, 1) := by decide +kernel
theorem dL_grow2_7 : decode prog_15_method_7_code 7 = .ok (.invokevirtual 69, 3) := by decide +kernel
theorem dL_grow2_10 : decode prog_15_method_7_code 10 = .ok (.areturn, 1) := by decide +kernel
abbrev yL_add : MethodName := ⟨"java/util/ArrayList", "add", "(Ljava/lang/Object;[Ljava/lang/Object;I)V"⟩
abbrev rmL_add : Room := { frames := 5, cells := 1, slots := 33, locals := 127 }
theorem ykL_add : yOk yL_add 3 := by decide +kernel
theorem dL_add_0 : decode prog_15_method_24_code 0 = .ok (.iload_n 3, 1) := by decide +kernel
theorem dL_add_1 : decode prog_15_method_24_code 1 = .ok (.aload_n 2, 1) := by decide +kernel
theorem dL_add_2 : decode prog_15_method_24_code 2 = .ok (.arraylength, 1) := by decide +kernel
theorem dL_add_3 : decode prog_15_method_24_code 3 = .ok (.if_icmp .ne (8), 3) := by decide +kernel
theorem dL_add_6 : decode prog_15_method_24_code 6 = .ok (.aload_n 0, 1) := by decide +kernel
theorem dL_add_7 : decode prog_15_method_24_code 7 = .ok (.invokevirtual 129, 3) := by decide +kernel
theorem dL_add_10 : decode prog_15_method_24_code 10 = .ok (.astore_n 2, 1) := by decide +kernel
theorem dL_add_11 : decode prog_15_method_24_code 11 = .ok (.aload_n 2, 1) := by decide +kernel
theorem dL_add_12 : decode prog_15_method_24_code 12 = .ok (.iload_n 3, 1) := by decide +kernel
theorem dL_add_13 : decode prog_15_method_24_code 13 = .ok (.aload_n 1, 1) := by decide +kernel
theorem dL_add_14 : decode prog_15_method_24_code 14 = .ok (.aastore, 1) := by decide +kernel
theorem dL_add_15 : decode prog_15_method_24_code 15 = .ok (.aload_n 0, 1) := by decide +kernel
theorem dL_add_16 : decode prog_15_method_24_code 16 = .ok (.iload_n 3, 1) := by decide +kernel
theorem dL_add_17 : decode prog_15_method_24_code 17 = .ok (.iconst (1), 1) := by decide +kernel
theorem dL_add_18 : decode prog_15_method_24_code 18 = .ok (.iadd, 1) := by decide +kernel
theorem dL_add_19 : decode prog_15_method_24_code 19 = .ok (.putfield 48, 3) := by decide +kernel
theorem dL_add_22 : decode prog_15_method_24_code 22 = .ok (.return_, 1) := by decide +kernel
abbrev yL_add2 : MethodName := ⟨"java/util/ArrayList", "add", "(Ljava/lang/Object;)Z"⟩
abbrev rmL_add2 : Room := { frames := 6, cells := 1, slots := 33, locals := 150 }
theorem ykL_add2 : yOk yL_add2 1 := by decide +kernel
theorem dL_add2_0 : decode prog_15_method_25_code 0 = .ok (.aload_n 0, 1) := by decide +kernel
theorem dL_add2_1 : decode prog_15_method_25_code 1 = .ok (.dup, 1) := by decide +kernel
theorem dL_add2_2 : decode prog_15_method_25_code 2 = .ok (.getfield 63, 3) := by decide +kernel
theorem dL_add2_5 : decode prog_15_method_25_code 5 = .ok (.iconst (1), 1) := by decide +kernel
theorem dL_add2_6 : decode prog_15_method_25_code 6 = .ok (.iadd, 1) := by decide +kernel
theorem dL_add2_7 : decode prog_15_method_25_code 7 = .ok (.putfield 63, 3) := by decide +kernel
theorem dL_add2_10 : decode prog_15_method_25_code 10 = .ok (.aload_n 0, 1) := by decide +kernel
theorem dL_add2_11 : decode prog_15_method_25_code 11 = .ok (.aload_n 1, 1) := by decide +kernel
theorem dL_add2_12 : decode prog_15_method_25_code 12 = .ok (.aload_n 0, 1) := by decide +kernel
theorem dL_add2_13 : decode prog_15_method_25_code 13 = .ok (.getfield 9, 3) := by decide +kernel
theorem dL_add2_16 : decode prog_15_method_25_code 16 = .ok (.aload_n 0, 1) := by decide +kernel
theorem dL_add2_17 : decode prog_15_method_25_code 17 = .ok (.getfield 48, 3) := by decide +kernel
theorem dL_add2_20 : decode prog_15_method_25_code 20 = .ok (.invokevirtual 131, 3) := by decide +kernel
theorem dL_add2_23 : decode prog_15_method_25_code 23 = .ok (.iconst (1), 1) := by decide +kernel
theorem dL_add2_24 : decode prog_15_method_25_code 24 = .ok (.ireturn, 1) := by decide +kernel
abbrev yL_clear : MethodName := ⟨"java/util/ArrayList", "clear", "()V"⟩
abbrev rmL_clear : Room := { frames := 0, cells := 0, slots := 0, locals := 0 }
theorem ykL_clear : yOk yL_clear 0 := by decide +kernel
theorem dL_clear_0 : decode prog_15_method_40_code 0 = .ok (.aload_n 0, 1) := by decide +kernel
theorem dL_clear_1 : decode prog_15_method_40_code 1 = .ok (.dup, 1) := by decide +kernel
theorem dL_clear_2 : decode prog_15_method_40_code 2 = .ok (.getfield 63, 3) := by decide +kernel
theorem dL_clear_5 : decode prog_15_method_40_code 5 = .ok (.iconst (1), 1) := by decide +kernel
theorem dL_clear_6 : decode prog_15_method_40_code 6 = .ok (.iadd, 1) := by decide +kernel
theorem dL_clear_7 : decode prog_15_method_40_code 7 = .ok (.putfield 63, 3) := by decide +kernel
theorem dL_clear_10 : decode prog_15_method_40_code 10 = .ok (.aload_n 0, 1) := by decide +kernel
theorem dL_clear_11 : decode prog_15_method_40_code 11 = .ok (.getfield 9, 3) := by decide +kernel
theorem dL_clear_14 : decode prog_15_method_40_code 14 = .ok (.astore_n 1, 1) := by decide +kernel
theorem dL_clear_15 : decode prog_15_method_40_code 15 = .ok (.aload_n 0, 1) := by decide +kernel
theorem dL_clear_16 : decode prog_15_method_40_code 16 = .ok (.getfield 48, 3) := by decide +kernel
theorem dL_clear_19 : decode prog_15_method_40_code 19 = .ok (.istore_n 2, 1) := by decide +kernel
theorem dL_clear_20 : decode prog_15_method_40_code 20 = .ok (.aload_n 0, 1) := by decide +kernel
theorem dL_clear_21 : decode prog_15_method_40_code 21 = .ok (.iconst (0), 1) := by decide +kernel
theorem dL_clear_22 : decode prog_15_method_40_code 22 = .ok (.dup_x1, 1) := by decide +kernel
theorem dL_clear_23 : decode prog_15_method_40_code 23 = .ok (.putfield 48, 3) := by decide +kernel
theorem dL_clear_26 : decode prog_15_method_40_code 26 = .ok (.istore_n 3, 1) := by decide +kernel
theorem dL_clear_27 : decode prog_15_method_40_code 27 = .ok (.iload_n 3, 1) := by decide +kernel
theorem dL_clear_28 : decode prog_15_method_40_code 28 = .ok (.iload_n 2, 1) := by decide +kernel
theorem dL_clear_29 : decode prog_15_method_40_code 29 = .ok (.if_icmp .ge (13), 3) := by decide +kernel
theorem dL_clear_32 : decode prog_15_method_40_code 32 = .ok (.aload_n 1, 1) := by decide +kernel
theorem dL_clear_33 : decode prog_15_method_40_code 33 = .ok (.iload_n 3, 1) := by decide +kernel
theorem dL_clear_34 : decode prog_15_method_40_code 34 = .ok (.aconst_null, 1) := by decide +kernel
theorem dL_clear_35 : decode prog_15_method_40_code 35 = .ok (.aastore, 1) := by decide +kernel
theorem dL_clear_36 : decode prog_15_method_40_code 36 = .ok (.iinc 3 (1), 3) := by decide +kernel
theorem dL_clear_39 : decode prog_15_method_40_code 39 = .ok (.goto (-12), 3) := by decide +kernel
theorem dL_clear_42 : decode prog_15_method_40_code 42 = .ok (.return_, 1) := by decide +kernel
def fC_init (b : Nat)  (w : cW) : Option (Unit × cW) :=
  some ((), w)
def fB_init (b : Nat)  (w : cW) : Option (Unit × cW) :=
  cbd (fC_init b w) fun _ w2 =>
  (pI w2 (some b) 6 2 (0 : Int32)).bind fun w3 =>
  some ((), w3)
def fL_init (b : Nat)  (w : cW) : Option (Unit × cW) :=
  cbd (fB_init b w) fun _ w2 =>
  (pQ w2 (some b) 6 0 (some w2.2.2.1)).bind fun w3 =>
  some ((), w3)
def fL_size (b : Nat)  (w : cW) : Option (Int32 × cW) :=
  (gI w (some b) 6 1).bind fun x1 =>
  some (x1, w)
def fP_checkIndex  (a0 : Int32) (a1 : Int32) (w : cW) : Option (Int32 × cW) :=
  if a0 < 0 then (
    none) else
  if a0 < a1 then (
    some (a0, w)) else
  none
def fJ_checkIndex  (a0 : Int32) (a1 : Int32) (w : cW) : Option (Int32 × cW) :=
  cbd (fP_checkIndex a0 a1 w) fun x1 w2 =>
  some (x1, w2)
def fL_elementData (b : Nat) (a1 : Int32) (w : cW) : Option (Option Nat × cW) :=
  (gQ w (some b) 6 0).bind fun r1 =>
  (ldQ w r1 a1).bind fun r2 =>
  some (r2, w)
def fL_get (b : Nat) (a1 : Int32) (w : cW) : Option (Option Nat × cW) :=
  (gI w (some b) 6 1).bind fun x1 =>
  cbd (fJ_checkIndex a1 x1 w) fun x2 w3 =>
  (cRcv w3 (some b) 6).bind fun b6 => cbd (fL_elementData b6 a1 w3) fun r4 w5 =>
  some (r4, w5)
def fU_newLength  (a0 : Int32) (a1 : Int32) (a2 : Int32) (w : cW) : Option (Int32 × cW) :=
  bnd (a0 + (if a1 < a2 then a2 else a1)) fun x1 =>
  if x1 ≤ (0 : Int32) then (
    none) else
  if (2147483639 : Int32) < x1 then (
    none) else
  some (x1, w)
def fY_copyOf  (a0 : Nat) (a1 : Int32) (a2 : Nat) (w : cW) : Option (Option Nat × cW) :=
  if (some a2) = (some w.2.2.2) then (
    (alQ w 2 a1 33).bind fun w1 =>
    (aLen w1 (some a0)).bind fun x2 =>
    (cpQ w1 (some a0) (0 : Int32) (some w.2.1) (0 : Int32) (if a1 < x2 then a1 else x2)).bind fun w3 =>
    some ((some w.2.1), w3)) else
  none
def fY_copyOf2  (a0 : Nat) (a1 : Int32) (w : cW) : Option (Option Nat × cW) :=
  (cGC w (some a0)).bind fun _ =>
  cbd (fY_copyOf a0 a1 w.2.2.2 w) fun r1 w2 =>
  some (r1, w2)
def fL_grow_b20 (b : Nat)  (a1 : Int32) (a2 : Int32) (c : Nat) (w : cW) : Option (Option Nat × cW) :=
  if c < 2 then (
  cbd (fU_newLength a2 (a1 - a2) (a2 >>> ((1 : Int32) &&& 31)) w) fun x1 w2 =>
  (gQ w2 (some b) 6 0).bind fun r4 =>
  r4.bind fun b5 =>
  if c < 1 then (
  cbd (fY_copyOf2 b5 x1 w2) fun r6 w7 =>
  (pQ w7 (some b) 6 0 r6).bind fun w9 =>
  if (c + 1) < 2 then (
  some (r6, w9)) else none) else none) else none
def fL_grow (b : Nat) (a1 : Int32) (w : cW) : Option (Option Nat × cW) :=
  (gQ w (some b) 6 0).bind fun r1 =>
  (aLen w r1).bind fun x2 =>
  if 0 < x2 then (
    fL_grow_b20 b a1 x2 (0) w) else
  (gQ w (some b) 6 0).bind fun r3 =>
  if r3 = (some w.2.2.1) then (
    (alQ w 2 (if (10 : Int32) < a1 then a1 else (10 : Int32)) 33).bind fun w4 =>
    (pQ w4 (some b) 6 0 (some w.2.1)).bind fun w5 =>
    some ((some w.2.1), w5)) else
  fL_grow_b20 b a1 x2 (0) w
def fL_grow2 (b : Nat)  (w : cW) : Option (Option Nat × cW) :=
  (gI w (some b) 6 1).bind fun x1 =>
  (cRcv w (some b) 6).bind fun b4 => cbd (fL_grow b4 (x1 + (1 : Int32)) w) fun r2 w3 =>
  some (r2, w3)
def fL_add_b11 (b : Nat)  (a1 : Option Nat) (a2 : Option Nat) (a3 : Int32) (c : Nat) (w : cW) : Option (Unit × cW) :=
  (stQ w a2 a3 a1).bind fun w1 =>
  (pI w1 (some b) 6 1 (a3 + (1 : Int32))).bind fun w2 =>
  if c < 2 then (
  some ((), w2)) else none
def fL_add (b : Nat) (a1 : Nat) (a2 : Nat) (a3 : Int32) (w : cW) : Option (Unit × cW) :=
  (aLen w (some a2)).bind fun x1 =>
  if a3 = x1 then (
    (cRcv w (some b) 6).bind fun b4 => cbd (fL_grow2 b4 w) fun r2 w3 =>
    fL_add_b11 b (some a1) r2 a3 (1) w3) else
  fL_add_b11 b (some a1) (some a2) a3 (0) w
def fL_add2 (b : Nat) (a1 : Nat) (w : cW) : Option (Int32 × cW) :=
  (gI w (some b) 6 2).bind fun x1 =>
  (pI w (some b) 6 2 (x1 + (1 : Int32))).bind fun w2 =>
  (gQ w2 (some b) 6 0).bind fun r3 =>
  (gI w2 (some b) 6 1).bind fun x4 =>
  r3.bind fun b5 =>
  (cRcv w2 (some b) 6).bind fun b8 => cbd (fL_add b8 a1 b5 x4 w2) fun u6 w7 =>
  some ((1 : Int32), w7)
def fL_clear_b27 (b : Nat)  (rec27 : (Option Nat) → Int32 → Int32 → cW → Option (Unit × cW)) (a1 : Option Nat) (a2 : Int32) (a3 : Int32) (w : cW) : Option (Unit × cW) :=
  if a2 ≤ a3 then (
    some ((), w)) else
  (stQ w a1 a3 none).bind fun w1 =>
  bnd (a3 + (1 : Int32)) fun x2 =>
  rec27 a1 a2 x2 w1
def fL_clear_l27 (b : Nat)  (n : Nat) : (Option Nat) → Int32 → Int32 → cW → Option (Unit × cW) := lp (fun _ _ _ _ => none) (fL_clear_b27 b ) n
def fL_clear (b : Nat)  (w : cW) : Option (Unit × cW) :=
  (gI w (some b) 6 2).bind fun x1 =>
  (pI w (some b) 6 2 (x1 + (1 : Int32))).bind fun w2 =>
  (gQ w2 (some b) 6 0).bind fun r3 =>
  (gI w2 (some b) 6 1).bind fun x4 =>
  (pI w2 (some b) 6 1 (0 : Int32)).bind fun w5 =>
  fL_clear_l27 b FU r3 x4 (0 : Int32) w5
set_option maxHeartbeats 4000000 in
set_option maxRecDepth 100000 in
theorem tC_init {C : xC} {G : cG} {w0 w' : cW} {r : Unit} {b : Nat} (hC : okC C prog_13_method_1_code 1 "java/util/AbstractCollection" lw_gd) (hE : xE C none mkV G w0 w' r) (hR : xR C = rmC_init) (hN : (xmeth C).name = "<init>")  (w : cW) (hf : fC_init b w = some (r, w')) : V C w 0 0 0 [(0, va_rf (some b))] [] := by
  unfold fC_init at hf
  refine v_aload_n (pc := 0) (i := 0) (r := (some b)) hC dC_init_0 rfl 0 rfl ?_
  refine v_objInit (pc := 1) (b := b) (rest := []) hC dC_init_1 q35 q22 q23 (by simp only [List.map_cons, List.map_nil, va_cat]; exact Nat.le_of_ble_eq_true rfl) (by rw [hR]; decide) ?_
  exact v_vret (pc := 4) hC hE dC_init_4 (by rw [hR]; decide) (by rw [hR]; decide) hf
theorem mC_init (l : Launch) (G : cG) (b : Nat)  (w : cW) (r : Unit) (w' : cW) (hf : fC_init b w = some (r, w')) : Met l yC_init (wsM yC_init prog_13_method_1_code 1 none) rmC_init (mP G w [va_rf (some b)]) (mQ mkV G w w' r) (rmC_init).cells (rmC_init).slots (Aw w) :=
  met_of (by decide +kernel) rfl (Nat.le_of_ble_eq_true rfl) (fun C hC hR _ _ hN hts hE => tC_init (okC.tbl hC) hE hR hN  w hf)
set_option maxHeartbeats 4000000 in
set_option maxRecDepth 100000 in
theorem tB_init {C : xC} {G : cG} {w0 w' : cW} {r : Unit} {b : Nat} (hC : okC C prog_14_method_1_code 1 "java/util/AbstractList" lw_gd) (hE : xE C none mkV G w0 w' r) (hR : xR C = rmB_init) (hN : (xmeth C).name = "<init>")  (w : cW) (hf : fB_init b w = some (r, w')) : V C w 0 0 0 [(0, va_rf (some b))] [] := by
  unfold fB_init at hf
  refine v_aload_n (pc := 0) (i := 0) (r := (some b)) hC dB_init_0 rfl 0 rfl ?_
  refine v_callI (pc := 1) (b := b) (As := []) (rest := []) (k' := 0) (n' := 0) hC dB_init_1 q32 q33 q2 q34 rfl ykC_init rfl (fun rq wq hq => mC_init _ _ b _ rq wq hq) (by rw [hR]; decide) (by simp only [List.map_cons, List.map_nil, va_cat]; exact Nat.le_of_ble_eq_true rfl) (by decide) (by rw [hR]; decide) hf rfl (fun _ w2 hf => ?_)
  refine v_aload_n (pc := 4) (i := 0) (r := (some b)) hC dB_init_4 rfl 0 rfl ?_
  refine v_iconst (pc := 5) (v := (0 : Int32)) hC dB_init_5 (by decide) ?_
  refine v_putI (pc := 6) (r := (some b)) hC dB_init_6 inL rfl tyL tkL nmL 2 (by decide) q40 (Or.inl rfl) rfl (tkL 2 (by decide)) hf (fun w3 hf => ?_)
  exact v_vret (pc := 9) hC hE dB_init_9 (by rw [hR]; decide) (by rw [hR]; decide) hf
theorem mB_init (l : Launch) (G : cG) (b : Nat)  (w : cW) (r : Unit) (w' : cW) (hf : fB_init b w = some (r, w')) : Met l yB_init (wsM yB_init prog_14_method_1_code 1 none) rmB_init (mP G w [va_rf (some b)]) (mQ mkV G w w' r) (rmB_init).cells (rmB_init).slots (Aw w) :=
  met_of (by decide +kernel) rfl (Nat.le_of_ble_eq_true rfl) (fun C hC hR _ _ hN hts hE => tB_init (okC.tbl hC) hE hR hN  w hf)
set_option maxHeartbeats 4000000 in
set_option maxRecDepth 100000 in
theorem tL_init {C : xC} {G : cG} {w0 w' : cW} {r : Unit} {b : Nat} (hC : okC C prog_15_method_2_code 1 "java/util/ArrayList" lw_gd) (hE : xE C none mkV G w0 w' r) (hR : xR C = rmL_init) (hN : (xmeth C).name = "<init>")  (w : cW) (hf : fL_init b w = some (r, w')) : V C w 0 0 0 [(0, va_rf (some b))] [] := by
  unfold fL_init at hf
  refine v_aload_n (pc := 0) (i := 0) (r := (some b)) hC dL_init_0 rfl 0 rfl ?_
  refine v_callI (pc := 1) (b := b) (As := []) (rest := []) (k' := 0) (n' := 0) hC dL_init_1 q29 q30 q3 q31 rfl ykB_init rfl (fun rq wq hq => mB_init _ _ b _ rq wq hq) (by rw [hR]; decide) (by simp only [List.map_cons, List.map_nil, va_cat]; exact Nat.le_of_ble_eq_true rfl) (by decide) (by rw [hR]; decide) hf rfl (fun _ w2 hf => ?_)
  refine v_aload_n (pc := 4) (i := 0) (r := (some b)) hC dL_init_4 rfl 0 rfl ?_
  refine v_gets (pc := 5) hC dL_init_5 q36 ?_
  refine v_putQ (pc := 8) (r := (some b)) hC dL_init_8 inL rfl tyL tkL nmL 0 (by decide) q38 (Or.inl rfl) rfl (tkL 0 (by decide)) (Or.inr ⟨_, rfl⟩) hf (fun w3 hf => ?_)
  exact v_vret (pc := 11) hC hE dL_init_11 (by rw [hR]; decide) (by rw [hR]; decide) hf
theorem mL_init (l : Launch) (G : cG) (b : Nat)  (w : cW) (r : Unit) (w' : cW) (hf : fL_init b w = some (r, w')) : Met l yL_init (wsM yL_init prog_15_method_2_code 1 none) rmL_init (mP G w [va_rf (some b)]) (mQ mkV G w w' r) (rmL_init).cells (rmL_init).slots (Aw w) :=
  met_of (by decide +kernel) rfl (Nat.le_of_ble_eq_true rfl) (fun C hC hR _ _ hN hts hE => tL_init (okC.tbl hC) hE hR hN  w hf)
set_option maxHeartbeats 4000000 in
set_option maxRecDepth 100000 in
theorem tL_size {C : xC} {G : cG} {w0 w' : cW} {r : Int32} {b : Nat} (hC : okC C prog_15_method_8_code 1 "java/util/ArrayList" lw_gd) (hE : xE C (some .int) mkI G w0 w' r) (hR : xR C = rmL_size)  (w : cW) (hf : fL_size b w = some (r, w')) : V C w 0 0 0 [(0, va_rf (some b))] [] := by
  unfold fL_size at hf
  refine v_aload_n (pc := 0) (i := 0) (r := (some b)) hC dL_size_0 rfl 0 rfl ?_
  refine v_getI (pc := 1) (r := (some b)) hC dL_size_1 inL rfl 1 (by decide) q39 (Or.inl rfl) hf (fun x1 hf => ?_)
  exact v_iret (pc := 4) hC hE dL_size_4 (by rw [hR]; decide) (by rw [hR]; decide) hf
theorem mL_size (l : Launch) (G : cG) (b : Nat)  (w : cW) (r : Int32) (w' : cW) (hf : fL_size b w = some (r, w')) : Met l yL_size (wsM yL_size prog_15_method_8_code 1 (some .int)) rmL_size (mP G w [va_rf (some b)]) (mQ mkI G w w' r) (rmL_size).cells (rmL_size).slots (Aw w) :=
  met_of (by decide +kernel) rfl (Nat.le_of_ble_eq_true rfl) (fun C hC hR _ _ _ hts hE => tL_size (okC.tbl hC) hE hR  w hf)
set_option maxHeartbeats 4000000 in
set_option maxRecDepth 100000 in
theorem tP_checkIndex {C : xC} {G : cG} {w0 w' : cW} {r : Int32}  (hC : okC C prog_23_method_11_code 3 "jdk/internal/util/Preconditions" lw_gd) (hE : xE C (some .int) mkI G w0 w' r) (hR : xR C = rmP_checkIndex) (a0 : Int32) (a1 : Int32) (w : cW) (hf : fP_checkIndex a0 a1 w = some (r, w')) : V C w 0 0 0 [(0, .int a0), (1, .int a1), (2, va_rf none)] [] := by
  unfold fP_checkIndex at hf
  refine v_iload_n (pc := 0) (i := 0) (x := a0) hC dP_checkIndex_0 rfl 0 rfl ?_
  refine v_if_lt (pc := 1) (tgt := 9) hC dP_checkIndex_1 (by decide) hf (fun hf => ?_) (fun hf => ?_)
  · cases hf
  · refine v_iload_n (pc := 4) (i := 0) (x := a0) hC dP_checkIndex_4 rfl 0 rfl ?_
    refine v_iload_n (pc := 5) (i := 1) (x := a1) hC dP_checkIndex_5 rfl 1 rfl ?_
    refine v_icmp_lt (pc := 6) (tgt := 16) hC dP_checkIndex_6 (by decide) hf (fun hf => ?_) (fun hf => ?_)
    · refine v_iload_n (pc := 16) (i := 0) (x := a0) hC dP_checkIndex_16 rfl 0 rfl ?_
      exact v_iret (pc := 17) hC hE dP_checkIndex_17 (by rw [hR]; decide) (by rw [hR]; decide) hf
    · cases hf
theorem mP_checkIndex (l : Launch) (G : cG)  (a0 : Int32) (a1 : Int32) (w : cW) (r : Int32) (w' : cW) (hf : fP_checkIndex a0 a1 w = some (r, w')) : Met l yP_checkIndex (wsM yP_checkIndex prog_23_method_11_code 3 (some .int)) rmP_checkIndex (mP G w [.int a0, .int a1, va_rf none]) (mQ mkI G w w' r) (rmP_checkIndex).cells (rmP_checkIndex).slots (Aw w) :=
  met_of (by decide +kernel) rfl (Nat.le_of_ble_eq_true rfl) (fun C hC hR _ _ _ hts hE => tP_checkIndex (okC.tbl hC) hE hR a0 a1 w hf)
set_option maxHeartbeats 4000000 in
set_option maxRecDepth 100000 in
theorem tJ_checkIndex {C : xC} {G : cG} {w0 w' : cW} {r : Int32}  (hC : okC C prog_19_method_17_code 2 "java/util/Objects" lw_gd) (hE : xE C (some .int) mkI G w0 w' r) (hR : xR C = rmJ_checkIndex) (a0 : Int32) (a1 : Int32) (w : cW) (hf : fJ_checkIndex a0 a1 w = some (r, w')) : V C w 0 0 0 [(0, .int a0), (1, .int a1)] [] := by
  unfold fJ_checkIndex at hf
  refine v_iload_n (pc := 0) (i := 0) (x := a0) hC dJ_checkIndex_0 rfl 0 rfl ?_
  refine v_iload_n (pc := 1) (i := 1) (x := a1) hC dJ_checkIndex_1 rfl 1 rfl ?_
  refine v_null (pc := 2) hC dJ_checkIndex_2 ?_
  refine v_callS (pc := 3) (As := [.int a0, .int a1, va_rf none]) (rest := []) (k' := 0) (n' := 0) (st1 := (fun yq => [.int yq])) hC dJ_checkIndex_3 q246 q247 q14 q248 ykP_checkIndex rfl (fun rq wq hq => mP_checkIndex _ _ a0 a1 _ rq wq hq) (by rw [hR]; decide) (by simp only [List.map_cons, List.map_nil, va_cat]; exact Nat.le_of_ble_eq_true rfl) (by decide) (by rw [hR]; decide) hf rfl (fun _ => rfl) (fun x1 w2 hf => ?_)
  exact v_iret (pc := 6) hC hE dJ_checkIndex_6 (by rw [hR]; decide) (by rw [hR]; decide) hf
theorem mJ_checkIndex (l : Launch) (G : cG)  (a0 : Int32) (a1 : Int32) (w : cW) (r : Int32) (w' : cW) (hf : fJ_checkIndex a0 a1 w = some (r, w')) : Met l yJ_checkIndex (wsM yJ_checkIndex prog_19_method_17_code 2 (some .int)) rmJ_checkIndex (mP G w [.int a0, .int a1]) (mQ mkI G w w' r) (rmJ_checkIndex).cells (rmJ_checkIndex).slots (Aw w) :=
  met_of (by decide +kernel) rfl (Nat.le_of_ble_eq_true rfl) (fun C hC hR _ _ _ hts hE => tJ_checkIndex (okC.tbl hC) hE hR a0 a1 w hf)
set_option maxHeartbeats 4000000 in
set_option maxRecDepth 100000 in
theorem tL_elementData {C : xC} {G : cG} {w0 w' : cW} {r : Option Nat} {b : Nat} (hC : okC C prog_15_method_18_code 2 "java/util/ArrayList" lw_gd) (hE : xE C (some (.object "java/lang/Object")) mkR G w0 w' r) (hR : xR C = rmL_elementData) (a1 : Int32) (w : cW) (hf : fL_elementData b a1 w = some (r, w')) : V C w 0 0 0 [(0, va_rf (some b)), (1, .int a1)] [] := by
  unfold fL_elementData at hf
  refine v_aload_n (pc := 0) (i := 0) (r := (some b)) hC dL_elementData_0 rfl 0 rfl ?_
  refine v_getQ (pc := 1) (r := (some b)) hC dL_elementData_1 inL rfl 0 (by decide) q38 (Or.inl rfl) hf (fun r1 hf => ?_)
  refine v_iload_n (pc := 4) (i := 1) (x := a1) hC dL_elementData_4 rfl 1 rfl ?_
  refine v_aald (pc := 5) hC dL_elementData_5 hf (fun r2 hf => ?_)
  exact v_aret (pc := 6) hC hE (Or.inl ⟨_, rfl⟩) dL_elementData_6 (by rw [hR]; decide) (by rw [hR]; decide) hf
theorem mL_elementData (l : Launch) (G : cG) (b : Nat) (a1 : Int32) (w : cW) (r : Option Nat) (w' : cW) (hf : fL_elementData b a1 w = some (r, w')) : Met l yL_elementData (wsM yL_elementData prog_15_method_18_code 2 (some (.object "java/lang/Object"))) rmL_elementData (mP G w [va_rf (some b), .int a1]) (mQ mkR G w w' r) (rmL_elementData).cells (rmL_elementData).slots (Aw w) :=
  met_of (by decide +kernel) rfl (Nat.le_of_ble_eq_true rfl) (fun C hC hR _ _ _ hts hE => tL_elementData (okC.tbl hC) hE hR a1 w hf)
set_option maxHeartbeats 4000000 in
set_option maxRecDepth 100000 in
theorem tL_get {C : xC} {G : cG} {w0 w' : cW} {r : Option Nat} {b : Nat} (hC : okC C prog_15_method_20_code 2 "java/util/ArrayList" lw_gd) (hE : xE C (some (.object "java/lang/Object")) mkR G w0 w' r) (hR : xR C = rmL_get) (a1 : Int32) (w : cW) (hf : fL_get b a1 w = some (r, w')) : V C w 0 0 0 [(0, va_rf (some b)), (1, .int a1)] [] := by
  unfold fL_get at hf
  refine v_iload_n (pc := 0) (i := 1) (x := a1) hC dL_get_0 rfl 1 rfl ?_
  refine v_aload_n (pc := 1) (i := 0) (r := (some b)) hC dL_get_1 rfl 0 rfl ?_
  refine v_getI (pc := 2) (r := (some b)) hC dL_get_2 inL rfl 1 (by decide) q39 (Or.inl rfl) hf (fun x1 hf => ?_)
  refine v_callS (pc := 5) (As := [.int a1, .int x1]) (rest := []) (k' := 0) (n' := 0) (st1 := (fun yq => [.int yq])) hC dL_get_5 q243 q244 q13 q245 ykJ_checkIndex rfl (fun rq wq hq => mJ_checkIndex _ _ a1 x1 _ rq wq hq) (by rw [hR]; decide) (by simp only [List.map_cons, List.map_nil, va_cat]; exact Nat.le_of_ble_eq_true rfl) (by decide) (by rw [hR]; decide) hf rfl (fun _ => rfl) (fun x2 w3 hf => ?_)
  refine v_pop (pc := 8) hC dL_get_8 rfl ?_
  refine v_aload_n (pc := 9) (i := 0) (r := (some b)) hC dL_get_9 rfl 0 rfl ?_
  refine v_iload_n (pc := 10) (i := 1) (x := a1) hC dL_get_10 rfl 1 rfl ?_
  refine v_callV (pc := 11) (r := (some b)) (As := [.int a1]) (rest := []) (k' := 0) (n' := 0) (st1 := (fun yq => [va_rf yq])) hC dL_get_11 q249 q250 q251 q4 q252 ykL_elementData rfl rfl (fun bq rq wq hq => mL_elementData _ _ bq a1 _ rq wq hq) (by rw [hR]; decide) (by simp only [List.map_cons, List.map_nil, va_cat]; exact Nat.le_of_ble_eq_true rfl) (by decide) (by rw [hR]; decide) hf rfl (fun _ => rfl) (fun r4 w5 hf => ?_)
  exact v_aret (pc := 14) hC hE (Or.inl ⟨_, rfl⟩) dL_get_14 (by rw [hR]; decide) (by rw [hR]; decide) hf
theorem mL_get (l : Launch) (G : cG) (b : Nat) (a1 : Int32) (w : cW) (r : Option Nat) (w' : cW) (hf : fL_get b a1 w = some (r, w')) : Met l yL_get (wsM yL_get prog_15_method_20_code 2 (some (.object "java/lang/Object"))) rmL_get (mP G w [va_rf (some b), .int a1]) (mQ mkR G w w' r) (rmL_get).cells (rmL_get).slots (Aw w) :=
  met_of (by decide +kernel) rfl (Nat.le_of_ble_eq_true rfl) (fun C hC hR _ _ _ hts hE => tL_get (okC.tbl hC) hE hR a1 w hf)
set_option maxHeartbeats 4000000 in
set_option maxRecDepth 100000 in
theorem tU_newLength {C : xC} {G : cG} {w0 w' : cW} {r : Int32}  (hC : okC C prog_22_method_27_code 4 "jdk/internal/util/ArraysSupport" lw_gd) (hE : xE C (some .int) mkI G w0 w' r) (hR : xR C = rmU_newLength) (a0 : Int32) (a1 : Int32) (a2 : Int32) (w : cW) (hf : fU_newLength a0 a1 a2 w = some (r, w')) : V C w 0 0 0 [(0, .int a0), (1, .int a1), (2, .int a2)] [] := by
  unfold fU_newLength at hf
  refine v_iload_n (pc := 0) (i := 0) (x := a0) hC dU_newLength_0 rfl 0 rfl ?_
  refine v_iload_n (pc := 1) (i := 1) (x := a1) hC dU_newLength_1 rfl 1 rfl ?_
  refine v_iload_n (pc := 2) (i := 2) (x := a2) hC dU_newLength_2 rfl 2 rfl ?_
  refine v_mmax (pc := 3) (x := a1) (y := a2) (st := [.int a0]) hC dU_newLength_3 q196 q197 q10 q198 (by rw [hR]; decide) (by simp only [List.map_cons, List.map_nil, va_cat]; exact Nat.le_of_ble_eq_true rfl) (by rw [hR]; decide) ?_
  refine v_iadd (pc := 6) hC dU_newLength_6 ?_
  refine v_bndi hf (fun x1 hf => ?_)
  refine v_istore_n (pc := 7) (i := 3) (x := x1) hC dU_newLength_7 rfl (by decide) [(3, .int x1), (0, .int a0), (1, .int a1), (2, .int a2)] rfl ?_
  refine v_iconst (pc := 8) (v := (0 : Int32)) hC dU_newLength_8 (by decide) ?_
  refine v_iload_n (pc := 9) (i := 3) (x := x1) hC dU_newLength_9 rfl 0 rfl ?_
  refine v_icmp_ge (pc := 10) (tgt := 21) hC dU_newLength_10 (by decide) hf (fun hf => ?_) (fun hf => ?_)
  · refine v_iload_n (pc := 21) (i := 0) (x := a0) hC dU_newLength_21 rfl 1 rfl ?_
    refine v_iload_n (pc := 22) (i := 1) (x := a1) hC dU_newLength_22 rfl 2 rfl ?_
    cases hf
  · refine v_iload_n (pc := 13) (i := 3) (x := x1) hC dU_newLength_13 rfl 0 rfl ?_
    refine v_ldc (pc := 14) (v := (2147483639 : Int32)) hC dU_newLength_14 q199 ?_
    refine v_icmp_gt (pc := 16) (tgt := 21) hC dU_newLength_16 (by decide) hf (fun hf => ?_) (fun hf => ?_)
    · refine v_iload_n (pc := 21) (i := 0) (x := a0) hC dU_newLength_21 rfl 1 rfl ?_
      refine v_iload_n (pc := 22) (i := 1) (x := a1) hC dU_newLength_22 rfl 2 rfl ?_
      cases hf
    · refine v_iload_n (pc := 19) (i := 3) (x := x1) hC dU_newLength_19 rfl 0 rfl ?_
      exact v_iret (pc := 20) hC hE dU_newLength_20 (by rw [hR]; decide) (by rw [hR]; decide) hf
theorem mU_newLength (l : Launch) (G : cG)  (a0 : Int32) (a1 : Int32) (a2 : Int32) (w : cW) (r : Int32) (w' : cW) (hf : fU_newLength a0 a1 a2 w = some (r, w')) : Met l yU_newLength (wsM yU_newLength prog_22_method_27_code 4 (some .int)) rmU_newLength (mP G w [.int a0, .int a1, .int a2]) (mQ mkI G w w' r) (rmU_newLength).cells (rmU_newLength).slots (Aw w) :=
  met_of (by decide +kernel) rfl (Nat.le_of_ble_eq_true rfl) (fun C hC hR _ _ _ hts hE => tU_newLength (okC.tbl hC) hE hR a0 a1 a2 w hf)
set_option maxHeartbeats 4000000 in
set_option maxRecDepth 100000 in
theorem tY_copyOf {C : xC} {G : cG} {w0 w' : cW} {r : Option Nat}  (hC : okC C prog_16_method_120_code 4 "java/util/Arrays" lw_gd) (hE : xE C (some (.array (.object "java/lang/Object"))) mkR G w0 w' r) (hR : xR C = rmY_copyOf) (a0 : Nat) (a1 : Int32) (a2 : Nat) (w : cW) (hf : fY_copyOf a0 a1 a2 w = some (r, w')) : V C w 0 0 0 [(0, va_rf (some a0)), (1, .int a1), (2, va_rf (some a2))] [] := by
  unfold fY_copyOf at hf
  refine v_aload_n (pc := 0) (i := 2) (r := (some a2)) hC dY_copyOf_0 rfl 2 rfl ?_
  refine v_ldcM (pc := 1) hC dY_copyOf_1 q220 ?_
  refine v_acmp_ne (pc := 3) (tgt := 13) hC dY_copyOf_3 (by decide) hf (fun hf => ?_) (fun hf => ?_)
  · refine v_aload_n (pc := 13) (i := 2) (r := (some a2)) hC dY_copyOf_13 rfl 2 rfl ?_
    cases hf
  · refine v_iload_n (pc := 6) (i := 1) (x := a1) hC dY_copyOf_6 rfl 1 rfl ?_
    refine v_newq (pc := 7) (t := 2) (b := 33) hC dY_copyOf_7 q222 x221 rfl (by decide) (by decide) (by rw [hR]; decide) (by rw [hR]; decide) hf (fun w1 hf => ?_)
    refine V.widen (k' := 1) (n' := 33) (by omega) (by omega) ?_
    refine v_goto (pc := 10) (tgt := 24) hC dY_copyOf_10 (by decide) ?_
    refine v_astore_n (pc := 24) (i := 3) (r := (some w.2.1)) hC dY_copyOf_24 rfl (by decide) [(3, va_rf (some w.2.1)), (0, va_rf (some a0)), (1, .int a1), (2, va_rf (some a2))] rfl ?_
    refine v_aload_n (pc := 25) (i := 0) (r := (some a0)) hC dY_copyOf_25 rfl 1 rfl ?_
    refine v_iconst (pc := 26) (v := (0 : Int32)) hC dY_copyOf_26 (by decide) ?_
    refine v_aload_n (pc := 27) (i := 3) (r := (some w.2.1)) hC dY_copyOf_27 rfl 0 rfl ?_
    refine v_iconst (pc := 28) (v := (0 : Int32)) hC dY_copyOf_28 (by decide) ?_
    refine v_aload_n (pc := 29) (i := 0) (r := (some a0)) hC dY_copyOf_29 rfl 1 rfl ?_
    refine v_alen (pc := 30) hC dY_copyOf_30 hf (fun x2 hf => ?_)
    refine v_iload_n (pc := 31) (i := 1) (x := a1) hC dY_copyOf_31 rfl 2 rfl ?_
    refine v_mmin (pc := 32) (x := x2) (y := a1) (st := [.int (0 : Int32), va_rf (some w.2.1), .int (0 : Int32), va_rf (some a0)]) hC dY_copyOf_32 q223 q224 q10 q225 (by rw [hR]; decide) (by simp only [List.map_cons, List.map_nil, va_cat]; exact Nat.le_of_ble_eq_true rfl) (by rw [hR]; decide) ?_
    refine v_copyQ (pc := 35) (st := []) hC (cAs_of hC) dY_copyOf_35 q226 q228 q227 q12 (by rw [hR]; decide) (by simp only [List.map_cons, List.map_nil, va_cat]; exact Nat.le_of_ble_eq_true rfl) hf (fun w3 hf => ?_)
    refine v_aload_n (pc := 38) (i := 3) (r := (some w.2.1)) hC dY_copyOf_38 rfl 0 rfl ?_
    exact v_aret (pc := 39) hC hE (Or.inr ⟨_, rfl⟩) dY_copyOf_39 (by rw [hR]; decide) (by rw [hR]; decide) hf
theorem mY_copyOf (l : Launch) (G : cG)  (a0 : Nat) (a1 : Int32) (a2 : Nat) (w : cW) (r : Option Nat) (w' : cW) (hf : fY_copyOf a0 a1 a2 w = some (r, w')) : Met l yY_copyOf (wsM yY_copyOf prog_16_method_120_code 4 (some (.array (.object "java/lang/Object")))) rmY_copyOf (mP G w [va_rf (some a0), .int a1, va_rf (some a2)]) (mQ mkR G w w' r) (rmY_copyOf).cells (rmY_copyOf).slots (Aw w) :=
  met_of (by decide +kernel) rfl (Nat.le_of_ble_eq_true rfl) (fun C hC hR _ _ _ hts hE => tY_copyOf (okC.tbl hC) hE hR a0 a1 a2 w hf)
set_option maxHeartbeats 4000000 in
set_option maxRecDepth 100000 in
theorem tY_copyOf2 {C : xC} {G : cG} {w0 w' : cW} {r : Option Nat}  (hC : okC C prog_16_method_119_code 2 "java/util/Arrays" lw_gd) (hE : xE C (some (.array (.object "java/lang/Object"))) mkR G w0 w' r) (hR : xR C = rmY_copyOf2) (a0 : Nat) (a1 : Int32) (w : cW) (hf : fY_copyOf2 a0 a1 w = some (r, w')) : V C w 0 0 0 [(0, va_rf (some a0)), (1, .int a1)] [] := by
  unfold fY_copyOf2 at hf
  refine v_aload_n (pc := 0) (i := 0) (r := (some a0)) hC dY_copyOf2_0 rfl 0 rfl ?_
  refine v_iload_n (pc := 1) (i := 1) (x := a1) hC dY_copyOf2_1 rfl 1 rfl ?_
  refine v_aload_n (pc := 2) (i := 0) (r := (some a0)) hC dY_copyOf2_2 rfl 0 rfl ?_
  refine v_getC (pc := 3) (r := (some a0)) (st := [.int a1, va_rf (some a0)]) hC dY_copyOf2_3 q206 q216 q207 (Or.inr q675) (Or.inl x676) (by rw [hR]; decide) (by simp only [List.map_cons, List.map_nil, va_cat]; exact Nat.le_of_ble_eq_true rfl) hf (fun hf => ?_)
  refine v_callS (pc := 6) (As := [va_rf (some a0), .int a1, va_rf (some w.2.2.2)]) (rest := []) (k' := 1) (n' := 33) (st1 := (fun yq => [va_rf yq])) hC dY_copyOf2_6 q217 q218 q11 q219 ykY_copyOf rfl (fun rq wq hq => mY_copyOf _ _ a0 a1 w.2.2.2 _ rq wq hq) (by rw [hR]; decide) (by simp only [List.map_cons, List.map_nil, va_cat]; exact Nat.le_of_ble_eq_true rfl) (by decide) (by rw [hR]; decide) hf rfl (fun _ => rfl) (fun r1 w2 hf => ?_)
  exact v_aret (pc := 9) hC hE (Or.inr ⟨_, rfl⟩) dY_copyOf2_9 (by rw [hR]; decide) (by rw [hR]; decide) hf
theorem mY_copyOf2 (l : Launch) (G : cG)  (a0 : Nat) (a1 : Int32) (w : cW) (r : Option Nat) (w' : cW) (hf : fY_copyOf2 a0 a1 w = some (r, w')) : Met l yY_copyOf2 (wsM yY_copyOf2 prog_16_method_119_code 2 (some (.array (.object "java/lang/Object")))) rmY_copyOf2 (mP G w [va_rf (some a0), .int a1]) (mQ mkR G w w' r) (rmY_copyOf2).cells (rmY_copyOf2).slots (Aw w) :=
  met_of (by decide +kernel) rfl (Nat.le_of_ble_eq_true rfl) (fun C hC hR _ _ _ hts hE => tY_copyOf2 (okC.tbl hC) hE hR a0 a1 w hf)
set_option maxHeartbeats 4000000 in
set_option maxRecDepth 100000 in
theorem tL_grow_b20 {C : xC} {G : cG} {w0 w' : cW} {r : Option Nat} {b : Nat} (hC : okC C prog_15_method_6_code 4 "java/util/ArrayList" lw_gd) (hE : xE C (some (.array (.object "java/lang/Object"))) mkR G w0 w' r) (hR : xR C = rmL_grow)  (a1 : Int32) (a2 : Int32) (c : Nat) (w : cW) (hf : fL_grow_b20 b a1 a2 c w = some (r, w')) : V C w (1 * c) (33 * c) 20 [(0, va_rf (some b)), (1, .int a1), (2, .int a2)] [] := by
  unfold fL_grow_b20 at hf
  refine v_iload_n (pc := 20) (i := 2) (x := a2) hC dL_grow_20 rfl 2 rfl ?_
  refine v_iload_n (pc := 21) (i := 1) (x := a1) hC dL_grow_21 rfl 1 rfl ?_
  refine v_iload_n (pc := 22) (i := 2) (x := a2) hC dL_grow_22 rfl 2 rfl ?_
  refine v_isub (pc := 23) hC dL_grow_23 ?_
  refine v_iload_n (pc := 24) (i := 2) (x := a2) hC dL_grow_24 rfl 2 rfl ?_
  refine v_iconst (pc := 25) (v := (1 : Int32)) hC dL_grow_25 (by decide) ?_
  refine v_ishr (pc := 26) hC dL_grow_26 ?_
  by_cases ec3 : c < 2
  rotate_left
  · rw [if_neg ec3] at hf; cases hf
  rw [if_pos ec3] at hf
  refine v_callS (pc := 27) (As := [.int a2, .int (a1 - a2), .int (a2 >>> ((1 : Int32) &&& 31))]) (rest := []) (k' := 1 * c) (n' := 33 * c) (st1 := (fun yq => [.int yq])) hC dL_grow_27 q193 q194 q9 q195 ykU_newLength rfl (fun rq wq hq => mU_newLength _ _ a2 (a1 - a2) (a2 >>> ((1 : Int32) &&& 31)) _ rq wq hq) (by rw [hR]; decide) (by simp only [List.map_cons, List.map_nil, va_cat]; exact Nat.le_of_ble_eq_true rfl) (by simp only [rmU_newLength]; omega) (by rw [hR]; simp only [rmL_grow]; omega) hf rfl (fun _ => rfl) (fun x1 w2 hf => ?_)
  refine v_istore_n (pc := 30) (i := 3) (x := x1) hC dL_grow_30 rfl (by decide) [(3, .int x1), (0, va_rf (some b)), (1, .int a1), (2, .int a2)] rfl ?_
  refine v_aload_n (pc := 31) (i := 0) (r := (some b)) hC dL_grow_31 rfl 1 rfl ?_
  refine v_aload_n (pc := 32) (i := 0) (r := (some b)) hC dL_grow_32 rfl 1 rfl ?_
  refine v_getQ (pc := 33) (r := (some b)) hC dL_grow_33 inL rfl 0 (by decide) q38 (Or.inl rfl) hf (fun r4 hf => ?_)
  refine v_iload_n (pc := 36) (i := 3) (x := x1) hC dL_grow_36 rfl 0 rfl ?_
  obtain ⟨b5, eb5, hf1⟩ := ob hf
  clear hf
  cases eb5
  have hf := hf1
  clear hf1
  by_cases ec8 : c < 1
  rotate_left
  · rw [if_neg ec8] at hf; cases hf
  rw [if_pos ec8] at hf
  refine v_callS (pc := 37) (As := [va_rf (some b5), .int x1]) (rest := [va_rf (some b)]) (k' := 1 * (c + 1)) (n' := 33 * (c + 1)) (st1 := (fun yq => [va_rf yq, va_rf (some b)])) hC dL_grow_37 q203 q204 q11 q205 ykY_copyOf2 rfl (fun rq wq hq => mY_copyOf2 _ _ b5 x1 _ rq wq hq) (by rw [hR]; decide) (by simp only [List.map_cons, List.map_nil, va_cat]; exact Nat.le_of_ble_eq_true rfl) (by simp only [rmY_copyOf2]; omega) (by rw [hR]; simp only [rmL_grow]; omega) hf rfl (fun _ => rfl) (fun r6 w7 hf => ?_)
  refine v_dup_x1RR (pc := 40) hC dL_grow_40 ?_
  refine v_putQ (pc := 41) (r := (some b)) hC dL_grow_41 inL rfl tyL tkL nmL 0 (by decide) q38 (Or.inl rfl) rfl (tkL 0 (by decide)) (Or.inr ⟨_, rfl⟩) hf (fun w9 hf => ?_)
  by_cases ec10 : (c + 1) < 2
  rotate_left
  · rw [if_neg ec10] at hf; cases hf
  rw [if_pos ec10] at hf
  exact v_aret (pc := 44) hC hE (Or.inr ⟨_, rfl⟩) dL_grow_44 (by rw [hR]; simp only [rmL_grow]; omega) (by rw [hR]; simp only [rmL_grow]; omega) hf
set_option maxHeartbeats 4000000 in
set_option maxRecDepth 100000 in
theorem tL_grow {C : xC} {G : cG} {w0 w' : cW} {r : Option Nat} {b : Nat} (hC : okC C prog_15_method_6_code 4 "java/util/ArrayList" lw_gd) (hE : xE C (some (.array (.object "java/lang/Object"))) mkR G w0 w' r) (hR : xR C = rmL_grow) (a1 : Int32) (w : cW) (hf : fL_grow b a1 w = some (r, w')) : V C w 0 0 0 [(0, va_rf (some b)), (1, .int a1)] [] := by
  unfold fL_grow at hf
  refine v_aload_n (pc := 0) (i := 0) (r := (some b)) hC dL_grow_0 rfl 0 rfl ?_
  refine v_getQ (pc := 1) (r := (some b)) hC dL_grow_1 inL rfl 0 (by decide) q38 (Or.inl rfl) hf (fun r1 hf => ?_)
  refine v_alen (pc := 4) hC dL_grow_4 hf (fun x2 hf => ?_)
  refine v_istore_n (pc := 5) (i := 2) (x := x2) hC dL_grow_5 rfl (by decide) [(2, .int x2), (0, va_rf (some b)), (1, .int a1)] rfl ?_
  refine v_iload_n (pc := 6) (i := 2) (x := x2) hC dL_grow_6 rfl 0 rfl ?_
  refine v_if_gt (pc := 7) (tgt := 20) hC dL_grow_7 (by decide) hf (fun hf => ?_) (fun hf => ?_)
  · exact V.sub [1, 2, 0] rfl (tL_grow_b20 hC hE hR  _ _ _ _ hf)
  · refine v_aload_n (pc := 10) (i := 0) (r := (some b)) hC dL_grow_10 rfl 1 rfl ?_
    refine v_getQ (pc := 11) (r := (some b)) hC dL_grow_11 inL rfl 0 (by decide) q38 (Or.inl rfl) hf (fun r3 hf => ?_)
    refine v_gets (pc := 14) hC dL_grow_14 q36 ?_
    refine v_acmp_eq (pc := 17) (tgt := 45) hC dL_grow_17 (by decide) hf (fun hf => ?_) (fun hf => ?_)
    · refine v_aload_n (pc := 45) (i := 0) (r := (some b)) hC dL_grow_45 rfl 1 rfl ?_
      refine v_bipush (pc := 46) (v := (10 : Int32)) hC dL_grow_46 (by decide) ?_
      refine v_iload_n (pc := 48) (i := 1) (x := a1) hC dL_grow_48 rfl 2 rfl ?_
      refine v_mmax (pc := 49) (x := (10 : Int32)) (y := a1) (st := [va_rf (some b)]) hC dL_grow_49 q229 q197 q10 q198 (by rw [hR]; decide) (by simp only [List.map_cons, List.map_nil, va_cat]; exact Nat.le_of_ble_eq_true rfl) (by rw [hR]; decide) ?_
      refine v_newq (pc := 52) (t := 2) (b := 33) hC dL_grow_52 q230 x221 rfl (by decide) (by decide) (by rw [hR]; decide) (by rw [hR]; decide) hf (fun w4 hf => ?_)
      refine V.widen (k' := 1) (n' := 33) (by omega) (by omega) ?_
      refine v_dup_x1RR (pc := 55) hC dL_grow_55 ?_
      refine v_putQ (pc := 56) (r := (some b)) hC dL_grow_56 inL rfl tyL tkL nmL 0 (by decide) q38 (Or.inl rfl) rfl (tkL 0 (by decide)) (Or.inr ⟨_, rfl⟩) hf (fun w5 hf => ?_)
      exact v_aret (pc := 59) hC hE (Or.inr ⟨_, rfl⟩) dL_grow_59 (by rw [hR]; decide) (by rw [hR]; decide) hf
    · exact V.sub [1, 2, 0] rfl (tL_grow_b20 hC hE hR  _ _ _ _ hf)
theorem mL_grow (l : Launch) (G : cG) (b : Nat) (a1 : Int32) (w : cW) (r : Option Nat) (w' : cW) (hf : fL_grow b a1 w = some (r, w')) : Met l yL_grow (wsM yL_grow prog_15_method_6_code 4 (some (.array (.object "java/lang/Object")))) rmL_grow (mP G w [va_rf (some b), .int a1]) (mQ mkR G w w' r) (rmL_grow).cells (rmL_grow).slots (Aw w) :=
  met_of (by decide +kernel) rfl (Nat.le_of_ble_eq_true rfl) (fun C hC hR _ _ _ hts hE => tL_grow (okC.tbl hC) hE hR a1 w hf)
set_option maxHeartbeats 4000000 in
set_option maxRecDepth 100000 in
theorem tL_grow2 {C : xC} {G : cG} {w0 w' : cW} {r : Option Nat} {b : Nat} (hC : okC C prog_15_method_7_code 1 "java/util/ArrayList" lw_gd) (hE : xE C (some (.array (.object "java/lang/Object"))) mkR G w0 w' r) (hR : xR C = rmL_grow2)  (w : cW) (hf : fL_grow2 b w = some (r, w')) : V C w 0 0 0 [(0, va_rf (some b))] [] := by
  unfold fL_grow2 at hf
  refine v_aload_n (pc := 0) (i := 0) (r := (some b)) hC dL_grow2_0 rfl 0 rfl ?_
  refine v_aload_n (pc := 1) (i := 0) (r := (some b)) hC dL_grow2_1 rfl 0 rfl ?_
  refine v_getI (pc := 2) (r := (some b)) hC dL_grow2_2 inL rfl 1 (by decide) q39 (Or.inl rfl) hf (fun x1 hf => ?_)
  refine v_iconst (pc := 5) (v := (1 : Int32)) hC dL_grow2_5 (by decide) ?_
  refine v_iadd (pc := 6) hC dL_grow2_6 ?_
  refine v_callV (pc := 7) (r := (some b)) (As := [.int (x1 + (1 : Int32))]) (rest := []) (k' := 1) (n' := 33) (st1 := (fun yq => [va_rf yq])) hC dL_grow2_7 q189 q191 p2 q4 q192 ykL_grow rfl rfl (fun bq rq wq hq => mL_grow _ _ bq (x1 + (1 : Int32)) _ rq wq hq) (by rw [hR]; decide) (by simp only [List.map_cons, List.map_nil, va_cat]; exact Nat.le_of_ble_eq_true rfl) (by decide) (by rw [hR]; decide) hf rfl (fun _ => rfl) (fun r2 w3 hf => ?_)
  exact v_aret (pc := 10) hC hE (Or.inr ⟨_, rfl⟩) dL_grow2_10 (by rw [hR]; decide) (by rw [hR]; decide) hf
theorem mL_grow2 (l : Launch) (G : cG) (b : Nat)  (w : cW) (r : Option Nat) (w' : cW) (hf : fL_grow2 b w = some (r, w')) : Met l yL_grow2 (wsM yL_grow2 prog_15_method_7_code 1 (some (.array (.object "java/lang/Object")))) rmL_grow2 (mP G w [va_rf (some b)]) (mQ mkR G w w' r) (rmL_grow2).cells (rmL_grow2).slots (Aw w) :=
  met_of (by decide +kernel) rfl (Nat.le_of_ble_eq_true rfl) (fun C hC hR _ _ _ hts hE => tL_grow2 (okC.tbl hC) hE hR  w hf)
set_option maxHeartbeats 4000000 in
set_option maxRecDepth 100000 in
theorem tL_add_b11 {C : xC} {G : cG} {w0 w' : cW} {r : Unit} {b : Nat} (hC : okC C prog_15_method_24_code 4 "java/util/ArrayList" lw_gd) (hE : xE C none mkV G w0 w' r) (hR : xR C = rmL_add)  (a1 : Option Nat) (a2 : Option Nat) (a3 : Int32) (c : Nat) (w : cW) (hf : fL_add_b11 b a1 a2 a3 c w = some (r, w')) : V C w (1 * c) (33 * c) 11 [(0, va_rf (some b)), (1, va_rf a1), (2, va_rf a2), (3, .int a3)] [] := by
  unfold fL_add_b11 at hf
  refine v_aload_n (pc := 11) (i := 2) (r := a2) hC dL_add_11 rfl 2 rfl ?_
  refine v_iload_n (pc := 12) (i := 3) (x := a3) hC dL_add_12 rfl 3 rfl ?_
  refine v_aload_n (pc := 13) (i := 1) (r := a1) hC dL_add_13 rfl 1 rfl ?_
  refine v_aast (pc := 14) hC (cAs_of hC) dL_add_14 hf (fun w1 hf => ?_)
  refine v_aload_n (pc := 15) (i := 0) (r := (some b)) hC dL_add_15 rfl 0 rfl ?_
  refine v_iload_n (pc := 16) (i := 3) (x := a3) hC dL_add_16 rfl 3 rfl ?_
  refine v_iconst (pc := 17) (v := (1 : Int32)) hC dL_add_17 (by decide) ?_
  refine v_iadd (pc := 18) hC dL_add_18 ?_
  refine v_putI (pc := 19) (r := (some b)) hC dL_add_19 inL rfl tyL tkL nmL 1 (by decide) q39 (Or.inl rfl) rfl (tkL 1 (by decide)) hf (fun w2 hf => ?_)
  by_cases ec3 : c < 2
  rotate_left
  · rw [if_neg ec3] at hf; cases hf
  rw [if_pos ec3] at hf
  exact v_vret (pc := 22) hC hE dL_add_22 (by rw [hR]; simp only [rmL_add]; omega) (by rw [hR]; simp only [rmL_add]; omega) hf
set_option maxHeartbeats 4000000 in
set_option maxRecDepth 100000 in
theorem tL_add {C : xC} {G : cG} {w0 w' : cW} {r : Unit} {b : Nat} (hC : okC C prog_15_method_24_code 4 "java/util/ArrayList" lw_gd) (hE : xE C none mkV G w0 w' r) (hR : xR C = rmL_add) (a1 : Nat) (a2 : Nat) (a3 : Int32) (w : cW) (hf : fL_add b a1 a2 a3 w = some (r, w')) : V C w 0 0 0 [(0, va_rf (some b)), (1, va_rf (some a1)), (2, va_rf (some a2)), (3, .int a3)] [] := by
  unfold fL_add at hf
  refine v_iload_n (pc := 0) (i := 3) (x := a3) hC dL_add_0 rfl 3 rfl ?_
  refine v_aload_n (pc := 1) (i := 2) (r := (some a2)) hC dL_add_1 rfl 2 rfl ?_
  refine v_alen (pc := 2) hC dL_add_2 hf (fun x1 hf => ?_)
  refine v_icmp_ne (pc := 3) (tgt := 11) hC dL_add_3 (by decide) hf (fun hf => ?_) (fun hf => ?_)
  · exact V.sub [0, 1, 2, 3] rfl (tL_add_b11 hC hE hR  _ _ _ _ _ hf)
  · refine v_aload_n (pc := 6) (i := 0) (r := (some b)) hC dL_add_6 rfl 0 rfl ?_
    refine v_callV (pc := 7) (r := (some b)) (As := []) (rest := []) (k' := 1) (n' := 33) (st1 := (fun yq => [va_rf yq])) hC dL_add_7 q185 q187 p1 q4 q188 ykL_grow2 rfl rfl (fun bq rq wq hq => mL_grow2 _ _ bq  _ rq wq hq) (by rw [hR]; decide) (by simp only [List.map_cons, List.map_nil, va_cat]; exact Nat.le_of_ble_eq_true rfl) (by decide) (by rw [hR]; decide) hf rfl (fun _ => rfl) (fun r2 w3 hf => ?_)
    refine v_astore_n (pc := 10) (i := 2) (r := r2) hC dL_add_10 rfl (by decide) [(2, va_rf r2), (0, va_rf (some b)), (1, va_rf (some a1)), (3, .int a3)] rfl ?_
    exact V.sub [1, 2, 0, 3] rfl (tL_add_b11 hC hE hR  _ _ _ _ _ hf)
theorem mL_add (l : Launch) (G : cG) (b : Nat) (a1 : Nat) (a2 : Nat) (a3 : Int32) (w : cW) (r : Unit) (w' : cW) (hf : fL_add b a1 a2 a3 w = some (r, w')) : Met l yL_add (wsM yL_add prog_15_method_24_code 4 none) rmL_add (mP G w [va_rf (some b), va_rf (some a1), va_rf (some a2), .int a3]) (mQ mkV G w w' r) (rmL_add).cells (rmL_add).slots (Aw w) :=
  met_of (by decide +kernel) rfl (Nat.le_of_ble_eq_true rfl) (fun C hC hR _ _ _ hts hE => tL_add (okC.tbl hC) hE hR a1 a2 a3 w hf)
set_option maxHeartbeats 4000000 in
set_option maxRecDepth 100000 in
theorem tL_add2 {C : xC} {G : cG} {w0 w' : cW} {r : Int32} {b : Nat} (hC : okC C prog_15_method_25_code 2 "java/util/ArrayList" lw_gd) (hE : xE C (some .boolean) mkI G w0 w' r) (hR : xR C = rmL_add2) (a1 : Nat) (w : cW) (hf : fL_add2 b a1 w = some (r, w')) : V C w 0 0 0 [(0, va_rf (some b)), (1, va_rf (some a1))] [] := by
  unfold fL_add2 at hf
  refine v_aload_n (pc := 0) (i := 0) (r := (some b)) hC dL_add2_0 rfl 0 rfl ?_
  refine v_dupR (pc := 1) hC dL_add2_1 ?_
  refine v_getI (pc := 2) (r := (some b)) hC dL_add2_2 inL rfl 2 (by decide) q41 (Or.inr q42) hf (fun x1 hf => ?_)
  refine v_iconst (pc := 5) (v := (1 : Int32)) hC dL_add2_5 (by decide) ?_
  refine v_iadd (pc := 6) hC dL_add2_6 ?_
  refine v_putI (pc := 7) (r := (some b)) hC dL_add2_7 inL rfl tyL tkL nmL 2 (by decide) q41 (Or.inr q42) rfl (tkL 2 (by decide)) hf (fun w2 hf => ?_)
  refine v_aload_n (pc := 10) (i := 0) (r := (some b)) hC dL_add2_10 rfl 0 rfl ?_
  refine v_aload_n (pc := 11) (i := 1) (r := (some a1)) hC dL_add2_11 rfl 1 rfl ?_
  refine v_aload_n (pc := 12) (i := 0) (r := (some b)) hC dL_add2_12 rfl 0 rfl ?_
  refine v_getQ (pc := 13) (r := (some b)) hC dL_add2_13 inL rfl 0 (by decide) q38 (Or.inl rfl) hf (fun r3 hf => ?_)
  refine v_aload_n (pc := 16) (i := 0) (r := (some b)) hC dL_add2_16 rfl 0 rfl ?_
  refine v_getI (pc := 17) (r := (some b)) hC dL_add2_17 inL rfl 1 (by decide) q39 (Or.inl rfl) hf (fun x4 hf => ?_)
  obtain ⟨b5, eb5, hf1⟩ := ob hf
  clear hf
  cases eb5
  have hf := hf1
  clear hf1
  refine v_callV (pc := 20) (r := (some b)) (As := [va_rf (some a1), va_rf (some b5), .int x4]) (rest := []) (k' := 1) (n' := 33) (st1 := (fun yq => [])) hC dL_add2_20 q181 q183 p0 q4 q184 ykL_add rfl rfl (fun bq rq wq hq => mL_add _ _ bq a1 b5 x4 _ rq wq hq) (by rw [hR]; decide) (by simp only [List.map_cons, List.map_nil, va_cat]; exact Nat.le_of_ble_eq_true rfl) (by decide) (by rw [hR]; decide) hf rfl (fun _ => rfl) (fun u6 w7 hf => ?_)
  refine v_iconst (pc := 23) (v := (1 : Int32)) hC dL_add2_23 (by decide) ?_
  exact v_zret (pc := 24) hC hE dL_add2_24 (by rw [hR]; decide) (by rw [hR]; decide) (by rw [if_pos (by decide)]; exact hf)
theorem mL_add2 (l : Launch) (G : cG) (b : Nat) (a1 : Nat) (w : cW) (r : Int32) (w' : cW) (hf : fL_add2 b a1 w = some (r, w')) : Met l yL_add2 (wsM yL_add2 prog_15_method_25_code 2 (some .boolean)) rmL_add2 (mP G w [va_rf (some b), va_rf (some a1)]) (mQ mkI G w w' r) (rmL_add2).cells (rmL_add2).slots (Aw w) :=
  met_of (by decide +kernel) rfl (Nat.le_of_ble_eq_true rfl) (fun C hC hR _ _ _ hts hE => tL_add2 (okC.tbl hC) hE hR a1 w hf)
set_option maxHeartbeats 4000000 in
set_option maxRecDepth 100000 in
theorem tL_clear_l27 {C : xC} {G : cG} {w0 w' : cW} {r : Unit} {b : Nat} (hC : okC C prog_15_method_40_code 4 "java/util/ArrayList" lw_gd) (hE : xE C none mkV G w0 w' r) (hR : xR C = rmL_clear)  : ∀ n : Nat, ∀ (a1 : Option Nat) (a2 : Int32) (a3 : Int32) (w : cW), fL_clear_l27 b n a1 a2 a3 w = some (r, w') → V C w 0 0 27 [(1, va_rf a1), (2, .int a2), (3, .int a3)] [] := by
  refine lp_P (P := fun (f : (Option Nat) → Int32 → Int32 → cW → Option (Unit × cW)) => ∀ (a1 : Option Nat) (a2 : Int32) (a3 : Int32) (w : cW), f a1 a2 a3 w = some (r, w') → V C w 0 0 27 [(1, va_rf a1), (2, .int a2), (3, .int a3)] []) ?_ ?_
  · intro a1 a2 a3 w hf
    cases hf
  · intro rec27 hrec27 a1 a2 a3 w hf
    unfold fL_clear_b27 at hf
    refine v_iload_n (pc := 27) (i := 3) (x := a3) hC dL_clear_27 rfl 2 rfl ?_
    refine v_iload_n (pc := 28) (i := 2) (x := a2) hC dL_clear_28 rfl 1 rfl ?_
    refine v_icmp_ge (pc := 29) (tgt := 42) hC dL_clear_29 (by decide) hf (fun hf => ?_) (fun hf => ?_)
    · exact v_vret (pc := 42) hC hE dL_clear_42 (by rw [hR]; decide) (by rw [hR]; decide) hf
    · refine v_aload_n (pc := 32) (i := 1) (r := a1) hC dL_clear_32 rfl 0 rfl ?_
      refine v_iload_n (pc := 33) (i := 3) (x := a3) hC dL_clear_33 rfl 2 rfl ?_
      refine v_null (pc := 34) hC dL_clear_34 ?_
      refine v_aast (pc := 35) hC (cAs_of hC) dL_clear_35 hf (fun w1 hf => ?_)
      refine v_iincB (pc := 36) (i := 3) (x := a3) (v := (1 : Int32)) hC dL_clear_36 2 rfl (by decide) (by decide) (fun x2 => [(3, .int x2), (1, va_rf a1), (2, .int a2)]) (fun _ => rfl) hf (fun x2 hf => ?_)
      refine v_goto (pc := 39) (tgt := 27) hC dL_clear_39 (by decide) ?_
      exact V.sub [1, 2, 0] rfl (hrec27 _ _ _ _ hf)
set_option maxHeartbeats 4000000 in
set_option maxRecDepth 100000 in
theorem tL_clear {C : xC} {G : cG} {w0 w' : cW} {r : Unit} {b : Nat} (hC : okC C prog_15_method_40_code 4 "java/util/ArrayList" lw_gd) (hE : xE C none mkV G w0 w' r) (hR : xR C = rmL_clear)  (w : cW) (hf : fL_clear b w = some (r, w')) : V C w 0 0 0 [(0, va_rf (some b))] [] := by
  unfold fL_clear at hf
  refine v_aload_n (pc := 0) (i := 0) (r := (some b)) hC dL_clear_0 rfl 0 rfl ?_
  refine v_dupR (pc := 1) hC dL_clear_1 ?_
  refine v_getI (pc := 2) (r := (some b)) hC dL_clear_2 inL rfl 2 (by decide) q41 (Or.inr q42) hf (fun x1 hf => ?_)
  refine v_iconst (pc := 5) (v := (1 : Int32)) hC dL_clear_5 (by decide) ?_
  refine v_iadd (pc := 6) hC dL_clear_6 ?_
  refine v_putI (pc := 7) (r := (some b)) hC dL_clear_7 inL rfl tyL tkL nmL 2 (by decide) q41 (Or.inr q42) rfl (tkL 2 (by decide)) hf (fun w2 hf => ?_)
  refine v_aload_n (pc := 10) (i := 0) (r := (some b)) hC dL_clear_10 rfl 0 rfl ?_
  refine v_getQ (pc := 11) (r := (some b)) hC dL_clear_11 inL rfl 0 (by decide) q38 (Or.inl rfl) hf (fun r3 hf => ?_)
  refine v_astore_n (pc := 14) (i := 1) (r := r3) hC dL_clear_14 rfl (by decide) [(1, va_rf r3), (0, va_rf (some b))] rfl ?_
  refine v_aload_n (pc := 15) (i := 0) (r := (some b)) hC dL_clear_15 rfl 1 rfl ?_
  refine v_getI (pc := 16) (r := (some b)) hC dL_clear_16 inL rfl 1 (by decide) q39 (Or.inl rfl) hf (fun x4 hf => ?_)
  refine v_istore_n (pc := 19) (i := 2) (x := x4) hC dL_clear_19 rfl (by decide) [(2, .int x4), (1, va_rf r3), (0, va_rf (some b))] (by cases r3 <;> rfl) ?_
  refine v_aload_n (pc := 20) (i := 0) (r := (some b)) hC dL_clear_20 rfl 2 rfl ?_
  refine v_iconst (pc := 21) (v := (0 : Int32)) hC dL_clear_21 (by decide) ?_
  refine v_dup_x1R (pc := 22) hC dL_clear_22 ?_
  refine v_putI (pc := 23) (r := (some b)) hC dL_clear_23 inL rfl tyL tkL nmL 1 (by decide) q39 (Or.inl rfl) rfl (tkL 1 (by decide)) hf (fun w5 hf => ?_)
  refine v_istore_n (pc := 26) (i := 3) (x := (0 : Int32)) hC dL_clear_26 rfl (by decide) [(3, .int (0 : Int32)), (2, .int x4), (1, va_rf r3), (0, va_rf (some b))] rfl ?_
  exact V.sub [2, 1, 0] rfl (tL_clear_l27 hC hE hR  FU _ _ _ _ hf)
theorem mL_clear (l : Launch) (G : cG) (b : Nat)  (w : cW) (r : Unit) (w' : cW) (hf : fL_clear b w = some (r, w')) : Met l yL_clear (wsM yL_clear prog_15_method_40_code 4 none) rmL_clear (mP G w [va_rf (some b)]) (mQ mkV G w w' r) (rmL_clear).cells (rmL_clear).slots (Aw w) :=
  met_of (by decide +kernel) rfl (Nat.le_of_ble_eq_true rfl) (fun C hC hR _ _ _ hts hE => tL_clear (okC.tbl hC) hE hR  w hf)
