abbrev yN_isWithin : MethodName := ⟨"ArenaNetwork", "isWithin", "(III)Z"⟩
abbrev rmN_isWithin : Room := { frames := 0, cells := 0, slots := 0, locals := 0 }
theorem ykN_isWithin : yOk yN_isWithin 3 := by decide +kernel
theorem dN_isWithin_0 : decode prog_1_method_27_code 0 = .ok (.iload_n 0, 1) := by decide +kernel
theorem dN_isWithin_1 : decode prog_1_method_27_code 1 = .ok (.iload_n 1, 1) := by decide +kernel
theorem dN_isWithin_2 : decode prog_1_method_27_code 2 = .ok (.if_icmp .lt (12), 3) := by decide +kernel
theorem dN_isWithin_5 : decode prog_1_method_27_code 5 = .ok (.iload_n 0, 1) := by decide +kernel
theorem dN_isWithin_6 : decode prog_1_method_27_code 6 = .ok (.iload_n 2, 1) := by decide +kernel
theorem dN_isWithin_7 : decode prog_1_method_27_code 7 = .ok (.if_icmp .gt (7), 3) := by decide +kernel
theorem dN_isWithin_10 : decode prog_1_method_27_code 10 = .ok (.iconst (1), 1) := by decide +kernel
theorem dN_isWithin_11 : decode prog_1_method_27_code 11 = .ok (.goto (4), 3) := by decide +kernel
theorem dN_isWithin_14 : decode prog_1_method_27_code 14 = .ok (.iconst (0), 1) := by decide +kernel
theorem dN_isWithin_15 : decode prog_1_method_27_code 15 = .ok (.ireturn, 1) := by decide +kernel
abbrev yN_isScale : MethodName := ⟨"ArenaNetwork", "isScale", "(I)Z"⟩
abbrev rmN_isScale : Room := { frames := 1, cells := 0, slots := 0, locals := 22 }
theorem ykN_isScale : yOk yN_isScale 1 := by decide +kernel
theorem dN_isScale_0 : decode prog_1_method_25_code 0 = .ok (.iload_n 0, 1) := by decide +kernel
theorem dN_isScale_1 : decode prog_1_method_25_code 1 = .ok (.iconst (0), 1) := by decide +kernel
theorem dN_isScale_2 : decode prog_1_method_25_code 2 = .ok (.bipush (7), 2) := by decide +kernel
theorem dN_isScale_4 : decode prog_1_method_25_code 4 = .ok (.invokestatic 43, 3) := by decide +kernel
theorem dN_isScale_7 : decode prog_1_method_25_code 7 = .ok (.ireturn, 1) := by decide +kernel
abbrev yN_isCellValue : MethodName := ⟨"ArenaNetwork", "isCellValue", "(I)Z"⟩
abbrev rmN_isCellValue : Room := { frames := 1, cells := 0, slots := 0, locals := 22 }
theorem ykN_isCellValue : yOk yN_isCellValue 1 := by decide +kernel
theorem dN_isCellValue_0 : decode prog_1_method_26_code 0 = .ok (.iload_n 0, 1) := by decide +kernel
theorem dN_isCellValue_1 : decode prog_1_method_26_code 1 = .ok (.bipush (-128), 2) := by decide +kernel
theorem dN_isCellValue_3 : decode prog_1_method_26_code 3 = .ok (.bipush (127), 2) := by decide +kernel
theorem dN_isCellValue_5 : decode prog_1_method_26_code 5 = .ok (.invokestatic 43, 3) := by decide +kernel
theorem dN_isCellValue_8 : decode prog_1_method_26_code 8 = .ok (.ireturn, 1) := by decide +kernel
abbrev yN_rounded : MethodName := ⟨"ArenaNetwork", "rounded", "(JJ)J"⟩
abbrev rmN_rounded : Room := { frames := 1, cells := 0, slots := 0, locals := 21 }
theorem ykN_rounded : yOk yN_rounded 2 := by decide +kernel
theorem dN_rounded_0 : decode prog_1_method_28_code 0 = .ok (.lload_n 0, 1) := by decide +kernel
theorem dN_rounded_1 : decode prog_1_method_28_code 1 = .ok (.invokestatic 191, 3) := by decide +kernel
theorem dN_rounded_4 : decode prog_1_method_28_code 4 = .ok (.lload_n 2, 1) := by decide +kernel
theorem dN_rounded_5 : decode prog_1_method_28_code 5 = .ok (.ldc2_w 197, 3) := by decide +kernel
theorem dN_rounded_8 : decode prog_1_method_28_code 8 = .ok (.ldiv, 1) := by decide +kernel
theorem dN_rounded_9 : decode prog_1_method_28_code 9 = .ok (.ladd, 1) := by decide +kernel
theorem dN_rounded_10 : decode prog_1_method_28_code 10 = .ok (.lload_n 2, 1) := by decide +kernel
theorem dN_rounded_11 : decode prog_1_method_28_code 11 = .ok (.ldiv, 1) := by decide +kernel
theorem dN_rounded_12 : decode prog_1_method_28_code 12 = .ok (.lstore 4, 2) := by decide +kernel
theorem dN_rounded_14 : decode prog_1_method_28_code 14 = .ok (.lload_n 0, 1) := by decide +kernel
theorem dN_rounded_15 : decode prog_1_method_28_code 15 = .ok (.lconst 0, 1) := by decide +kernel
theorem dN_rounded_16 : decode prog_1_method_28_code 16 = .ok (.lcmp, 1) := by decide +kernel
theorem dN_rounded_17 : decode prog_1_method_28_code 17 = .ok (.ifCond .ge (9), 3) := by decide +kernel
theorem dN_rounded_20 : decode prog_1_method_28_code 20 = .ok (.lload 4, 2) := by decide +kernel
theorem dN_rounded_22 : decode prog_1_method_28_code 22 = .ok (.lneg, 1) := by decide +kernel
theorem dN_rounded_23 : decode prog_1_method_28_code 23 = .ok (.goto (5), 3) := by decide +kernel
theorem dN_rounded_26 : decode prog_1_method_28_code 26 = .ok (.lload 4, 2) := by decide +kernel
theorem dN_rounded_28 : decode prog_1_method_28_code 28 = .ok (.lreturn, 1) := by decide +kernel
abbrev yT_init : MethodName := ⟨"ArenaNetwork$Tensor", "<init>", "(IIII)V"⟩
abbrev rmT_init : Room := { frames := 1, cells := 2, slots := 128, locals := 20 }
theorem ykT_init : yOk yT_init 4 := by decide +kernel
theorem dT_init_0 : decode prog_5_method_1_code 0 = .ok (.aload_n 0, 1) := by decide +kernel
theorem dT_init_1 : decode prog_5_method_1_code 1 = .ok (.invokespecial 1, 3) := by decide +kernel
theorem dT_init_4 : decode prog_5_method_1_code 4 = .ok (.aload_n 0, 1) := by decide +kernel
theorem dT_init_5 : decode prog_5_method_1_code 5 = .ok (.iconst (0), 1) := by decide +kernel
theorem dT_init_6 : decode prog_5_method_1_code 6 = .ok (.putfield 7, 3) := by decide +kernel
theorem dT_init_9 : decode prog_5_method_1_code 9 = .ok (.aload_n 0, 1) := by decide +kernel
theorem dT_init_10 : decode prog_5_method_1_code 10 = .ok (.iconst (0), 1) := by decide +kernel
theorem dT_init_11 : decode prog_5_method_1_code 11 = .ok (.putfield 13, 3) := by decide +kernel
theorem dT_init_14 : decode prog_5_method_1_code 14 = .ok (.aload_n 0, 1) := by decide +kernel
theorem dT_init_15 : decode prog_5_method_1_code 15 = .ok (.iconst (0), 1) := by decide +kernel
theorem dT_init_16 : decode prog_5_method_1_code 16 = .ok (.putfield 16, 3) := by decide +kernel
theorem dT_init_19 : decode prog_5_method_1_code 19 = .ok (.aload_n 0, 1) := by decide +kernel
theorem dT_init_20 : decode prog_5_method_1_code 20 = .ok (.iconst (0), 1) := by decide +kernel
theorem dT_init_21 : decode prog_5_method_1_code 21 = .ok (.putfield 20, 3) := by decide +kernel
theorem dT_init_24 : decode prog_5_method_1_code 24 = .ok (.aload_n 0, 1) := by decide +kernel
theorem dT_init_25 : decode prog_5_method_1_code 25 = .ok (.iconst (0), 1) := by decide +kernel
theorem dT_init_26 : decode prog_5_method_1_code 26 = .ok (.putfield 23, 3) := by decide +kernel
theorem dT_init_29 : decode prog_5_method_1_code 29 = .ok (.aload_n 0, 1) := by decide +kernel
theorem dT_init_30 : decode prog_5_method_1_code 30 = .ok (.iload_n 1, 1) := by decide +kernel
theorem dT_init_31 : decode prog_5_method_1_code 31 = .ok (.putfield 26, 3) := by decide +kernel
theorem dT_init_34 : decode prog_5_method_1_code 34 = .ok (.aload_n 0, 1) := by decide +kernel
theorem dT_init_35 : decode prog_5_method_1_code 35 = .ok (.iload_n 2, 1) := by decide +kernel
theorem dT_init_36 : decode prog_5_method_1_code 36 = .ok (.putfield 29, 3) := by decide +kernel
theorem dT_init_39 : decode prog_5_method_1_code 39 = .ok (.aload_n 0, 1) := by decide +kernel
theorem dT_init_40 : decode prog_5_method_1_code 40 = .ok (.iload_n 3, 1) := by decide +kernel
theorem dT_init_41 : decode prog_5_method_1_code 41 = .ok (.putfield 32, 3) := by decide +kernel
theorem dT_init_44 : decode prog_5_method_1_code 44 = .ok (.aload_n 0, 1) := by decide +kernel
theorem dT_init_45 : decode prog_5_method_1_code 45 = .ok (.iload 4, 2) := by decide +kernel
theorem dT_init_47 : decode prog_5_method_1_code 47 = .ok (.putfield 35, 3) := by decide +kernel
theorem dT_init_50 : decode prog_5_method_1_code 50 = .ok (.aload_n 0, 1) := by decide +kernel
theorem dT_init_51 : decode prog_5_method_1_code 51 = .ok (.iload_n 3, 1) := by decide +kernel
theorem dT_init_52 : decode prog_5_method_1_code 52 = .ok (.newarray .int, 2) := by decide +kernel
theorem dT_init_54 : decode prog_5_method_1_code 54 = .ok (.putfield 38, 3) := by decide +kernel
theorem dT_init_57 : decode prog_5_method_1_code 57 = .ok (.aload_n 0, 1) := by decide +kernel
theorem dT_init_58 : decode prog_5_method_1_code 58 = .ok (.iload_n 2, 1) := by decide +kernel
theorem dT_init_59 : decode prog_5_method_1_code 59 = .ok (.iconst (1), 1) := by decide +kernel
theorem dT_init_60 : decode prog_5_method_1_code 60 = .ok (.if_icmp .ne (9), 3) := by decide +kernel
theorem dT_init_63 : decode prog_5_method_1_code 63 = .ok (.iload_n 3, 1) := by decide +kernel
theorem dT_init_64 : decode prog_5_method_1_code 64 = .ok (.newarray .int, 2) := by decide +kernel
theorem dT_init_66 : decode prog_5_method_1_code 66 = .ok (.goto (7), 3) := by decide +kernel
theorem dT_init_69 : decode prog_5_method_1_code 69 = .ok (.aload_n 0, 1) := by decide +kernel
theorem dT_init_70 : decode prog_5_method_1_code 70 = .ok (.getfield 38, 3) := by decide +kernel
theorem dT_init_73 : decode prog_5_method_1_code 73 = .ok (.putfield 42, 3) := by decide +kernel
theorem dT_init_76 : decode prog_5_method_1_code 76 = .ok (.return_, 1) := by decide +kernel
abbrev yT_greatestLength : MethodName := ⟨"ArenaNetwork$Tensor", "greatestLength", "(I)I"⟩
abbrev rmT_greatestLength : Room := { frames := 0, cells := 0, slots := 0, locals := 0 }
theorem ykT_greatestLength : yOk yT_greatestLength 1 := by decide +kernel
theorem dT_greatestLength_0 : decode prog_5_method_2_code 0 = .ok (.iload_n 0, 1) := by decide +kernel
theorem dT_greatestLength_1 : decode prog_5_method_2_code 1 = .ok (.ifCond .ne (8), 3) := by decide +kernel
theorem dT_greatestLength_4 : decode prog_5_method_2_code 4 = .ok (.bipush (64), 2) := by decide +kernel
theorem dT_greatestLength_6 : decode prog_5_method_2_code 6 = .ok (.goto (5), 3) := by decide +kernel
theorem dT_greatestLength_9 : decode prog_5_method_2_code 9 = .ok (.bipush (16), 2) := by decide +kernel
theorem dT_greatestLength_11 : decode prog_5_method_2_code 11 = .ok (.ireturn, 1) := by decide +kernel
abbrev yT_hasCell : MethodName := ⟨"ArenaNetwork$Tensor", "hasCell", "(I)Z"⟩
abbrev rmT_hasCell : Room := { frames := 0, cells := 0, slots := 0, locals := 0 }
theorem ykT_hasCell : yOk yT_hasCell 1 := by decide +kernel
theorem dT_hasCell_0 : decode prog_5_method_3_code 0 = .ok (.iload_n 1, 1) := by decide +kernel
theorem dT_hasCell_1 : decode prog_5_method_3_code 1 = .ok (.ifCond .lt (15), 3) := by decide +kernel
theorem dT_hasCell_4 : decode prog_5_method_3_code 4 = .ok (.iload_n 1, 1) := by decide +kernel
theorem dT_hasCell_5 : decode prog_5_method_3_code 5 = .ok (.aload_n 0, 1) := by decide +kernel
theorem dT_hasCell_6 : decode prog_5_method_3_code 6 = .ok (.getfield 32, 3) := by decide +kernel
theorem dT_hasCell_9 : decode prog_5_method_3_code 9 = .ok (.if_icmp .ge (7), 3) := by decide +kernel
theorem dT_hasCell_12 : decode prog_5_method_3_code 12 = .ok (.iconst (1), 1) := by decide +kernel
theorem dT_hasCell_13 : decode prog_5_method_3_code 13 = .ok (.goto (4), 3) := by decide +kernel
theorem dT_hasCell_16 : decode prog_5_method_3_code 16 = .ok (.iconst (0), 1) := by decide +kernel
theorem dT_hasCell_17 : decode prog_5_method_3_code 17 = .ok (.ireturn, 1) := by decide +kernel
abbrev yT_takeGiven : MethodName := ⟨"ArenaNetwork$Tensor", "takeGiven", "()V"⟩
abbrev rmT_takeGiven : Room := { frames := 1, cells := 0, slots := 0, locals := 40 }
theorem ykT_takeGiven : yOk yT_takeGiven 0 := by decide +kernel
theorem dT_takeGiven_0 : decode prog_5_method_4_code 0 = .ok (.aload_n 0, 1) := by decide +kernel
theorem dT_takeGiven_1 : decode prog_5_method_4_code 1 = .ok (.getfield 29, 3) := by decide +kernel
theorem dT_takeGiven_4 : decode prog_5_method_4_code 4 = .ok (.iconst (1), 1) := by decide +kernel
theorem dT_takeGiven_5 : decode prog_5_method_4_code 5 = .ok (.if_icmp .ne (20), 3) := by decide +kernel
theorem dT_takeGiven_8 : decode prog_5_method_4_code 8 = .ok (.aload_n 0, 1) := by decide +kernel
theorem dT_takeGiven_9 : decode prog_5_method_4_code 9 = .ok (.getfield 38, 3) := by decide +kernel
theorem dT_takeGiven_12 : decode prog_5_method_4_code 12 = .ok (.iconst (0), 1) := by decide +kernel
theorem dT_takeGiven_13 : decode prog_5_method_4_code 13 = .ok (.aload_n 0, 1) := by decide +kernel
theorem dT_takeGiven_14 : decode prog_5_method_4_code 14 = .ok (.getfield 42, 3) := by decide +kernel
theorem dT_takeGiven_17 : decode prog_5_method_4_code 17 = .ok (.iconst (0), 1) := by decide +kernel
theorem dT_takeGiven_18 : decode prog_5_method_4_code 18 = .ok (.aload_n 0, 1) := by decide +kernel
theorem dT_takeGiven_19 : decode prog_5_method_4_code 19 = .ok (.getfield 32, 3) := by decide +kernel
theorem dT_takeGiven_22 : decode prog_5_method_4_code 22 = .ok (.invokestatic 45, 3) := by decide +kernel
theorem dT_takeGiven_25 : decode prog_5_method_4_code 25 = .ok (.return_, 1) := by decide +kernel
abbrev yT_beginLife : MethodName := ⟨"ArenaNetwork$Tensor", "beginLife", "(I)V"⟩
abbrev rmT_beginLife : Room := { frames := 0, cells := 0, slots := 0, locals := 0 }
theorem ykT_beginLife : yOk yT_beginLife 1 := by decide +kernel
theorem dT_beginLife_0 : decode prog_5_method_6_code 0 = .ok (.aload_n 0, 1) := by decide +kernel
theorem dT_beginLife_1 : decode prog_5_method_6_code 1 = .ok (.iconst (1), 1) := by decide +kernel
theorem dT_beginLife_2 : decode prog_5_method_6_code 2 = .ok (.putfield 13, 3) := by decide +kernel
theorem dT_beginLife_5 : decode prog_5_method_6_code 5 = .ok (.aload_n 0, 1) := by decide +kernel
theorem dT_beginLife_6 : decode prog_5_method_6_code 6 = .ok (.iload_n 1, 1) := by decide +kernel
theorem dT_beginLife_7 : decode prog_5_method_6_code 7 = .ok (.putfield 16, 3) := by decide +kernel
theorem dT_beginLife_10 : decode prog_5_method_6_code 10 = .ok (.aload_n 0, 1) := by decide +kernel
theorem dT_beginLife_11 : decode prog_5_method_6_code 11 = .ok (.iload_n 1, 1) := by decide +kernel
theorem dT_beginLife_12 : decode prog_5_method_6_code 12 = .ok (.putfield 20, 3) := by decide +kernel
theorem dT_beginLife_15 : decode prog_5_method_6_code 15 = .ok (.return_, 1) := by decide +kernel
abbrev yT_resetLife : MethodName := ⟨"ArenaNetwork$Tensor", "resetLife", "()V"⟩
abbrev rmT_resetLife : Room := { frames := 1, cells := 0, slots := 0, locals := 21 }
theorem ykT_resetLife : yOk yT_resetLife 0 := by decide +kernel
theorem dT_resetLife_0 : decode prog_5_method_5_code 0 = .ok (.aload_n 0, 1) := by decide +kernel
theorem dT_resetLife_1 : decode prog_5_method_5_code 1 = .ok (.iconst (0), 1) := by decide +kernel
theorem dT_resetLife_2 : decode prog_5_method_5_code 2 = .ok (.putfield 13, 3) := by decide +kernel
theorem dT_resetLife_5 : decode prog_5_method_5_code 5 = .ok (.aload_n 0, 1) := by decide +kernel
theorem dT_resetLife_6 : decode prog_5_method_5_code 6 = .ok (.getfield 29, 3) := by decide +kernel
theorem dT_resetLife_9 : decode prog_5_method_5_code 9 = .ok (.iconst (1), 1) := by decide +kernel
theorem dT_resetLife_10 : decode prog_5_method_5_code 10 = .ok (.if_icmp .ne (8), 3) := by decide +kernel
theorem dT_resetLife_13 : decode prog_5_method_5_code 13 = .ok (.aload_n 0, 1) := by decide +kernel
theorem dT_resetLife_14 : decode prog_5_method_5_code 14 = .ok (.iconst (-1), 1) := by decide +kernel
theorem dT_resetLife_15 : decode prog_5_method_5_code 15 = .ok (.invokevirtual 51, 3) := by decide +kernel
theorem dT_resetLife_18 : decode prog_5_method_5_code 18 = .ok (.return_, 1) := by decide +kernel
abbrev yT_livesAfter : MethodName := ⟨"ArenaNetwork$Tensor", "livesAfter", "(I)Z"⟩
abbrev rmT_livesAfter : Room := { frames := 0, cells := 0, slots := 0, locals := 0 }
theorem ykT_livesAfter : yOk yT_livesAfter 1 := by decide +kernel
theorem dT_livesAfter_0 : decode prog_5_method_7_code 0 = .ok (.aload_n 0, 1) := by decide +kernel
theorem dT_livesAfter_1 : decode prog_5_method_7_code 1 = .ok (.getfield 13, 3) := by decide +kernel
theorem dT_livesAfter_4 : decode prog_5_method_7_code 4 = .ok (.ifCond .eq (25), 3) := by decide +kernel
theorem dT_livesAfter_7 : decode prog_5_method_7_code 7 = .ok (.aload_n 0, 1) := by decide +kernel
theorem dT_livesAfter_8 : decode prog_5_method_7_code 8 = .ok (.getfield 16, 3) := by decide +kernel
theorem dT_livesAfter_11 : decode prog_5_method_7_code 11 = .ok (.iload_n 1, 1) := by decide +kernel
theorem dT_livesAfter_12 : decode prog_5_method_7_code 12 = .ok (.if_icmp .ge (17), 3) := by decide +kernel
theorem dT_livesAfter_15 : decode prog_5_method_7_code 15 = .ok (.aload_n 0, 1) := by decide +kernel
theorem dT_livesAfter_16 : decode prog_5_method_7_code 16 = .ok (.getfield 20, 3) := by decide +kernel
theorem dT_livesAfter_19 : decode prog_5_method_7_code 19 = .ok (.iload_n 1, 1) := by decide +kernel
theorem dT_livesAfter_20 : decode prog_5_method_7_code 20 = .ok (.iconst (1), 1) := by decide +kernel
theorem dT_livesAfter_21 : decode prog_5_method_7_code 21 = .ok (.isub, 1) := by decide +kernel
theorem dT_livesAfter_22 : decode prog_5_method_7_code 22 = .ok (.if_icmp .lt (7), 3) := by decide +kernel
theorem dT_livesAfter_25 : decode prog_5_method_7_code 25 = .ok (.iconst (1), 1) := by decide +kernel
theorem dT_livesAfter_26 : decode prog_5_method_7_code 26 = .ok (.goto (4), 3) := by decide +kernel
theorem dT_livesAfter_29 : decode prog_5_method_7_code 29 = .ok (.iconst (0), 1) := by decide +kernel
theorem dT_livesAfter_30 : decode prog_5_method_7_code 30 = .ok (.ireturn, 1) := by decide +kernel
abbrev yT_meets : MethodName := ⟨"ArenaNetwork$Tensor", "meets", "(LArenaNetwork$Tensor;)Z"⟩
abbrev rmT_meets : Room := { frames := 0, cells := 0, slots := 0, locals := 0 }
theorem ykT_meets : yOk yT_meets 1 := by decide +kernel
theorem dT_meets_0 : decode prog_5_method_8_code 0 = .ok (.aload_n 0, 1) := by decide +kernel
theorem dT_meets_1 : decode prog_5_method_8_code 1 = .ok (.getfield 16, 3) := by decide +kernel
theorem dT_meets_4 : decode prog_5_method_8_code 4 = .ok (.aload_n 1, 1) := by decide +kernel
theorem dT_meets_5 : decode prog_5_method_8_code 5 = .ok (.getfield 20, 3) := by decide +kernel
theorem dT_meets_8 : decode prog_5_method_8_code 8 = .ok (.if_icmp .gt (18), 3) := by decide +kernel
theorem dT_meets_11 : decode prog_5_method_8_code 11 = .ok (.aload_n 1, 1) := by decide +kernel
theorem dT_meets_12 : decode prog_5_method_8_code 12 = .ok (.getfield 16, 3) := by decide +kernel
theorem dT_meets_15 : decode prog_5_method_8_code 15 = .ok (.aload_n 0, 1) := by decide +kernel
theorem dT_meets_16 : decode prog_5_method_8_code 16 = .ok (.getfield 20, 3) := by decide +kernel
theorem dT_meets_19 : decode prog_5_method_8_code 19 = .ok (.if_icmp .gt (7), 3) := by decide +kernel
theorem dT_meets_22 : decode prog_5_method_8_code 22 = .ok (.iconst (1), 1) := by decide +kernel
theorem dT_meets_23 : decode prog_5_method_8_code 23 = .ok (.goto (4), 3) := by decide +kernel
theorem dT_meets_26 : decode prog_5_method_8_code 26 = .ok (.iconst (0), 1) := by decide +kernel
theorem dT_meets_27 : decode prog_5_method_8_code 27 = .ok (.ireturn, 1) := by decide +kernel
abbrev yT_distance : MethodName := ⟨"ArenaNetwork$Tensor", "distance", "(I)I"⟩
abbrev rmT_distance : Room := { frames := 0, cells := 0, slots := 0, locals := 0 }
theorem ykT_distance : yOk yT_distance 1 := by decide +kernel
theorem dT_distance_0 : decode prog_5_method_9_code 0 = .ok (.aload_n 0, 1) := by decide +kernel
theorem dT_distance_1 : decode prog_5_method_9_code 1 = .ok (.getfield 42, 3) := by decide +kernel
theorem dT_distance_4 : decode prog_5_method_9_code 4 = .ok (.iload_n 1, 1) := by decide +kernel
theorem dT_distance_5 : decode prog_5_method_9_code 5 = .ok (.iaload, 1) := by decide +kernel
theorem dT_distance_6 : decode prog_5_method_9_code 6 = .ok (.aload_n 0, 1) := by decide +kernel
theorem dT_distance_7 : decode prog_5_method_9_code 7 = .ok (.getfield 35, 3) := by decide +kernel
theorem dT_distance_10 : decode prog_5_method_9_code 10 = .ok (.isub, 1) := by decide +kernel
theorem dT_distance_11 : decode prog_5_method_9_code 11 = .ok (.ireturn, 1) := by decide +kernel
abbrev yS_init : MethodName := ⟨"ArenaNetwork$Scale", "<init>", "()V"⟩
abbrev rmS_init : Room := { frames := 1, cells := 0, slots := 0, locals := 20 }
theorem ykS_init : yOk yS_init 0 := by decide +kernel
theorem dS_init_0 : decode prog_4_method_1_code 0 = .ok (.aload_n 0, 1) := by decide +kernel
theorem dS_init_1 : decode prog_4_method_1_code 1 = .ok (.invokespecial 1, 3) := by decide +kernel
theorem dS_init_4 : decode prog_4_method_1_code 4 = .ok (.aload_n 0, 1) := by decide +kernel
theorem dS_init_5 : decode prog_4_method_1_code 5 = .ok (.ldc 7, 2) := by decide +kernel
theorem dS_init_7 : decode prog_4_method_1_code 7 = .ok (.putfield 8, 3) := by decide +kernel
theorem dS_init_10 : decode prog_4_method_1_code 10 = .ok (.aload_n 0, 1) := by decide +kernel
theorem dS_init_11 : decode prog_4_method_1_code 11 = .ok (.iconst (0), 1) := by decide +kernel
theorem dS_init_12 : decode prog_4_method_1_code 12 = .ok (.putfield 14, 3) := by decide +kernel
theorem dS_init_15 : decode prog_4_method_1_code 15 = .ok (.return_, 1) := by decide +kernel
abbrev yS_applied : MethodName := ⟨"ArenaNetwork$Scale", "applied", "(J)I"⟩
abbrev rmS_applied : Room := { frames := 2, cells := 0, slots := 0, locals := 46 }
theorem ykS_applied : yOk yS_applied 1 := by decide +kernel
theorem dS_applied_0 : decode prog_4_method_2_code 0 = .ok (.lload_n 1, 1) := by decide +kernel
theorem dS_applied_1 : decode prog_4_method_2_code 1 = .ok (.aload_n 0, 1) := by decide +kernel
theorem dS_applied_2 : decode prog_4_method_2_code 2 = .ok (.getfield 8, 3) := by decide +kernel
theorem dS_applied_5 : decode prog_4_method_2_code 5 = .ok (.i2l, 1) := by decide +kernel
theorem dS_applied_6 : decode prog_4_method_2_code 6 = .ok (.lmul, 1) := by decide +kernel
theorem dS_applied_7 : decode prog_4_method_2_code 7 = .ok (.ldc2_w 17, 3) := by decide +kernel
theorem dS_applied_10 : decode prog_4_method_2_code 10 = .ok (.invokestatic 19, 3) := by decide +kernel
theorem dS_applied_13 : decode prog_4_method_2_code 13 = .ok (.lstore_n 3, 1) := by decide +kernel
theorem dS_applied_14 : decode prog_4_method_2_code 14 = .ok (.lload_n 3, 1) := by decide +kernel
theorem dS_applied_15 : decode prog_4_method_2_code 15 = .ok (.lconst 1, 1) := by decide +kernel
theorem dS_applied_16 : decode prog_4_method_2_code 16 = .ok (.aload_n 0, 1) := by decide +kernel
theorem dS_applied_17 : decode prog_4_method_2_code 17 = .ok (.getfield 14, 3) := by decide +kernel
theorem dS_applied_20 : decode prog_4_method_2_code 20 = .ok (.lshl, 1) := by decide +kernel
theorem dS_applied_21 : decode prog_4_method_2_code 21 = .ok (.invokestatic 19, 3) := by decide +kernel
theorem dS_applied_24 : decode prog_4_method_2_code 24 = .ok (.l2i, 1) := by decide +kernel
theorem dS_applied_25 : decode prog_4_method_2_code 25 = .ok (.ireturn, 1) := by decide +kernel
abbrev yO_init : MethodName := ⟨"ArenaNetwork$Operator", "<init>", "(ILArenaNetwork$Tensor;LArenaNetwork$Tensor;LArenaNetwork$Tensor;I)V"⟩
abbrev rmO_init : Room := { frames := 1, cells := 0, slots := 0, locals := 20 }
theorem ykO_init : yOk yO_init 5 := by decide +kernel
theorem dO_init_0 : decode prog_3_method_1_code 0 = .ok (.aload_n 0, 1) := by decide +kernel
theorem dO_init_1 : decode prog_3_method_1_code 1 = .ok (.invokespecial 3, 3) := by decide +kernel
theorem dO_init_4 : decode prog_3_method_1_code 4 = .ok (.aload_n 0, 1) := by decide +kernel
theorem dO_init_5 : decode prog_3_method_1_code 5 = .ok (.iload_n 1, 1) := by decide +kernel
theorem dO_init_6 : decode prog_3_method_1_code 6 = .ok (.putfield 9, 3) := by decide +kernel
theorem dO_init_9 : decode prog_3_method_1_code 9 = .ok (.aload_n 0, 1) := by decide +kernel
theorem dO_init_10 : decode prog_3_method_1_code 10 = .ok (.aload_n 2, 1) := by decide +kernel
theorem dO_init_11 : decode prog_3_method_1_code 11 = .ok (.putfield 15, 3) := by decide +kernel
theorem dO_init_14 : decode prog_3_method_1_code 14 = .ok (.aload_n 0, 1) := by decide +kernel
theorem dO_init_15 : decode prog_3_method_1_code 15 = .ok (.aload_n 3, 1) := by decide +kernel
theorem dO_init_16 : decode prog_3_method_1_code 16 = .ok (.putfield 19, 3) := by decide +kernel
theorem dO_init_19 : decode prog_3_method_1_code 19 = .ok (.aload_n 0, 1) := by decide +kernel
theorem dO_init_20 : decode prog_3_method_1_code 20 = .ok (.aload 4, 2) := by decide +kernel
theorem dO_init_22 : decode prog_3_method_1_code 22 = .ok (.putfield 22, 3) := by decide +kernel
theorem dO_init_25 : decode prog_3_method_1_code 25 = .ok (.aload_n 0, 1) := by decide +kernel
theorem dO_init_26 : decode prog_3_method_1_code 26 = .ok (.iload 5, 2) := by decide +kernel
theorem dO_init_28 : decode prog_3_method_1_code 28 = .ok (.putfield 25, 3) := by decide +kernel
theorem dO_init_31 : decode prog_3_method_1_code 31 = .ok (.return_, 1) := by decide +kernel
abbrev yO_fits : MethodName := ⟨"ArenaNetwork$Operator", "fits", "()Z"⟩
abbrev rmO_fits : Room := { frames := 1, cells := 0, slots := 0, locals := 22 }
theorem ykO_fits : yOk yO_fits 0 := by decide +kernel
theorem dO_fits_0 : decode prog_3_method_2_code 0 = .ok (.aload_n 0, 1) := by decide +kernel
theorem dO_fits_1 : decode prog_3_method_2_code 1 = .ok (.getfield 9, 3) := by decide +kernel
theorem dO_fits_4 : decode prog_3_method_2_code 4 = .ok (.tableswitch (396) (0) (7) #[48, 89, 89, 129, 129, 197, 266, 338], 48) := by decide +kernel
theorem dO_fits_52 : decode prog_3_method_2_code 52 = .ok (.aload_n 0, 1) := by decide +kernel
theorem dO_fits_53 : decode prog_3_method_2_code 53 = .ok (.getfield 19, 3) := by decide +kernel
theorem dO_fits_56 : decode prog_3_method_2_code 56 = .ok (.getfield 28, 3) := by decide +kernel
theorem dO_fits_59 : decode prog_3_method_2_code 59 = .ok (.ifCond .ne (32), 3) := by decide +kernel
theorem dO_fits_62 : decode prog_3_method_2_code 62 = .ok (.aload_n 0, 1) := by decide +kernel
theorem dO_fits_63 : decode prog_3_method_2_code 63 = .ok (.getfield 19, 3) := by decide +kernel
theorem dO_fits_66 : decode prog_3_method_2_code 66 = .ok (.getfield 31, 3) := by decide +kernel
theorem dO_fits_69 : decode prog_3_method_2_code 69 = .ok (.aload_n 0, 1) := by decide +kernel
theorem dO_fits_70 : decode prog_3_method_2_code 70 = .ok (.getfield 15, 3) := by decide +kernel
theorem dO_fits_73 : decode prog_3_method_2_code 73 = .ok (.getfield 31, 3) := by decide +kernel
theorem dO_fits_76 : decode prog_3_method_2_code 76 = .ok (.aload_n 0, 1) := by decide +kernel
theorem dO_fits_77 : decode prog_3_method_2_code 77 = .ok (.getfield 22, 3) := by decide +kernel
theorem dO_fits_80 : decode prog_3_method_2_code 80 = .ok (.getfield 31, 3) := by decide +kernel
theorem dO_fits_83 : decode prog_3_method_2_code 83 = .ok (.imul, 1) := by decide +kernel
theorem dO_fits_84 : decode prog_3_method_2_code 84 = .ok (.if_icmp .ne (7), 3) := by decide +kernel
theorem dO_fits_87 : decode prog_3_method_2_code 87 = .ok (.iconst (1), 1) := by decide +kernel
theorem dO_fits_88 : decode prog_3_method_2_code 88 = .ok (.goto (4), 3) := by decide +kernel
theorem dO_fits_91 : decode prog_3_method_2_code 91 = .ok (.iconst (0), 1) := by decide +kernel
theorem dO_fits_92 : decode prog_3_method_2_code 92 = .ok (.ireturn, 1) := by decide +kernel
theorem dO_fits_93 : decode prog_3_method_2_code 93 = .ok (.aload_n 0, 1) := by decide +kernel
theorem dO_fits_94 : decode prog_3_method_2_code 94 = .ok (.getfield 15, 3) := by decide +kernel
theorem dO_fits_97 : decode prog_3_method_2_code 97 = .ok (.getfield 31, 3) := by decide +kernel
theorem dO_fits_100 : decode prog_3_method_2_code 100 = .ok (.aload_n 0, 1) := by decide +kernel
theorem dO_fits_101 : decode prog_3_method_2_code 101 = .ok (.getfield 22, 3) := by decide +kernel
theorem dO_fits_104 : decode prog_3_method_2_code 104 = .ok (.getfield 31, 3) := by decide +kernel
theorem dO_fits_107 : decode prog_3_method_2_code 107 = .ok (.if_icmp .ne (24), 3) := by decide +kernel
theorem dO_fits_110 : decode prog_3_method_2_code 110 = .ok (.aload_n 0, 1) := by decide +kernel
theorem dO_fits_111 : decode prog_3_method_2_code 111 = .ok (.getfield 19, 3) := by decide +kernel
theorem dO_fits_114 : decode prog_3_method_2_code 114 = .ok (.getfield 31, 3) := by decide +kernel
theorem dO_fits_117 : decode prog_3_method_2_code 117 = .ok (.aload_n 0, 1) := by decide +kernel
theorem dO_fits_118 : decode prog_3_method_2_code 118 = .ok (.getfield 22, 3) := by decide +kernel
theorem dO_fits_121 : decode prog_3_method_2_code 121 = .ok (.getfield 31, 3) := by decide +kernel
theorem dO_fits_124 : decode prog_3_method_2_code 124 = .ok (.if_icmp .ne (7), 3) := by decide +kernel
theorem dO_fits_127 : decode prog_3_method_2_code 127 = .ok (.iconst (1), 1) := by decide +kernel
theorem dO_fits_128 : decode prog_3_method_2_code 128 = .ok (.goto (4), 3) := by decide +kernel
theorem dO_fits_131 : decode prog_3_method_2_code 131 = .ok (.iconst (0), 1) := by decide +kernel
theorem dO_fits_132 : decode prog_3_method_2_code 132 = .ok (.ireturn, 1) := by decide +kernel
theorem dO_fits_133 : decode prog_3_method_2_code 133 = .ok (.aload_n 0, 1) := by decide +kernel
theorem dO_fits_134 : decode prog_3_method_2_code 134 = .ok (.getfield 19, 3) := by decide +kernel
theorem dO_fits_137 : decode prog_3_method_2_code 137 = .ok (.aload_n 0, 1) := by decide +kernel
theorem dO_fits_138 : decode prog_3_method_2_code 138 = .ok (.getfield 15, 3) := by decide +kernel
theorem dO_fits_141 : decode prog_3_method_2_code 141 = .ok (.if_acmp .ne (58), 3) := by decide +kernel
theorem dO_fits_144 : decode prog_3_method_2_code 144 = .ok (.aload_n 0, 1) := by decide +kernel
theorem dO_fits_145 : decode prog_3_method_2_code 145 = .ok (.getfield 25, 3) := by decide +kernel
theorem dO_fits_148 : decode prog_3_method_2_code 148 = .ok (.iconst (2), 1) := by decide +kernel
theorem dO_fits_149 : decode prog_3_method_2_code 149 = .ok (.iconst (4), 1) := by decide +kernel
theorem dO_fits_150 : decode prog_3_method_2_code 150 = .ok (.invokestatic 34, 3) := by decide +kernel
theorem dO_fits_153 : decode prog_3_method_2_code 153 = .ok (.ifCond .eq (46), 3) := by decide +kernel
theorem dO_fits_156 : decode prog_3_method_2_code 156 = .ok (.aload_n 0, 1) := by decide +kernel
theorem dO_fits_157 : decode prog_3_method_2_code 157 = .ok (.getfield 15, 3) := by decide +kernel
theorem dO_fits_160 : decode prog_3_method_2_code 160 = .ok (.getfield 31, 3) := by decide +kernel
theorem dO_fits_163 : decode prog_3_method_2_code 163 = .ok (.aload_n 0, 1) := by decide +kernel
theorem dO_fits_164 : decode prog_3_method_2_code 164 = .ok (.getfield 22, 3) := by decide +kernel
theorem dO_fits_167 : decode prog_3_method_2_code 167 = .ok (.getfield 31, 3) := by decide +kernel
theorem dO_fits_170 : decode prog_3_method_2_code 170 = .ok (.aload_n 0, 1) := by decide +kernel
theorem dO_fits_171 : decode prog_3_method_2_code 171 = .ok (.getfield 25, 3) := by decide +kernel
theorem dO_fits_174 : decode prog_3_method_2_code 174 = .ok (.imul, 1) := by decide +kernel
theorem dO_fits_175 : decode prog_3_method_2_code 175 = .ok (.if_icmp .ne (24), 3) := by decide +kernel
theorem dO_fits_178 : decode prog_3_method_2_code 178 = .ok (.aload_n 0, 1) := by decide +kernel
theorem dO_fits_179 : decode prog_3_method_2_code 179 = .ok (.getfield 15, 3) := by decide +kernel
theorem dO_fits_182 : decode prog_3_method_2_code 182 = .ok (.getfield 38, 3) := by decide +kernel
theorem dO_fits_185 : decode prog_3_method_2_code 185 = .ok (.aload_n 0, 1) := by decide +kernel
theorem dO_fits_186 : decode prog_3_method_2_code 186 = .ok (.getfield 22, 3) := by decide +kernel
theorem dO_fits_189 : decode prog_3_method_2_code 189 = .ok (.getfield 38, 3) := by decide +kernel
theorem dO_fits_192 : decode prog_3_method_2_code 192 = .ok (.if_icmp .ne (7), 3) := by decide +kernel
theorem dO_fits_195 : decode prog_3_method_2_code 195 = .ok (.iconst (1), 1) := by decide +kernel
theorem dO_fits_196 : decode prog_3_method_2_code 196 = .ok (.goto (4), 3) := by decide +kernel
theorem dO_fits_199 : decode prog_3_method_2_code 199 = .ok (.iconst (0), 1) := by decide +kernel
theorem dO_fits_200 : decode prog_3_method_2_code 200 = .ok (.ireturn, 1) := by decide +kernel
theorem dO_fits_201 : decode prog_3_method_2_code 201 = .ok (.aload_n 0, 1) := by decide +kernel
theorem dO_fits_202 : decode prog_3_method_2_code 202 = .ok (.getfield 25, 3) := by decide +kernel
theorem dO_fits_205 : decode prog_3_method_2_code 205 = .ok (.ifCond .ne (63), 3) := by decide +kernel
theorem dO_fits_208 : decode prog_3_method_2_code 208 = .ok (.aload_n 0, 1) := by decide +kernel
theorem dO_fits_209 : decode prog_3_method_2_code 209 = .ok (.getfield 19, 3) := by decide +kernel
theorem dO_fits_212 : decode prog_3_method_2_code 212 = .ok (.getfield 28, 3) := by decide +kernel
theorem dO_fits_215 : decode prog_3_method_2_code 215 = .ok (.ifCond .ne (53), 3) := by decide +kernel
theorem dO_fits_218 : decode prog_3_method_2_code 218 = .ok (.aload_n 0, 1) := by decide +kernel
theorem dO_fits_219 : decode prog_3_method_2_code 219 = .ok (.getfield 19, 3) := by decide +kernel
theorem dO_fits_222 : decode prog_3_method_2_code 222 = .ok (.getfield 31, 3) := by decide +kernel
theorem dO_fits_225 : decode prog_3_method_2_code 225 = .ok (.bipush (16), 2) := by decide +kernel
theorem dO_fits_227 : decode prog_3_method_2_code 227 = .ok (.if_icmp .ne (41), 3) := by decide +kernel
theorem dO_fits_230 : decode prog_3_method_2_code 230 = .ok (.aload_n 0, 1) := by decide +kernel
theorem dO_fits_231 : decode prog_3_method_2_code 231 = .ok (.getfield 15, 3) := by decide +kernel
theorem dO_fits_234 : decode prog_3_method_2_code 234 = .ok (.getfield 31, 3) := by decide +kernel
theorem dO_fits_237 : decode prog_3_method_2_code 237 = .ok (.aload_n 0, 1) := by decide +kernel
theorem dO_fits_238 : decode prog_3_method_2_code 238 = .ok (.getfield 22, 3) := by decide +kernel
theorem dO_fits_241 : decode prog_3_method_2_code 241 = .ok (.getfield 31, 3) := by decide +kernel
theorem dO_fits_244 : decode prog_3_method_2_code 244 = .ok (.if_icmp .ne (24), 3) := by decide +kernel
theorem dO_fits_247 : decode prog_3_method_2_code 247 = .ok (.aload_n 0, 1) := by decide +kernel
theorem dO_fits_248 : decode prog_3_method_2_code 248 = .ok (.getfield 19, 3) := by decide +kernel
theorem dO_fits_251 : decode prog_3_method_2_code 251 = .ok (.getfield 38, 3) := by decide +kernel
theorem dO_fits_254 : decode prog_3_method_2_code 254 = .ok (.aload_n 0, 1) := by decide +kernel
theorem dO_fits_255 : decode prog_3_method_2_code 255 = .ok (.getfield 22, 3) := by decide +kernel
theorem dO_fits_258 : decode prog_3_method_2_code 258 = .ok (.getfield 38, 3) := by decide +kernel
theorem dO_fits_261 : decode prog_3_method_2_code 261 = .ok (.if_icmp .ne (7), 3) := by decide +kernel
theorem dO_fits_264 : decode prog_3_method_2_code 264 = .ok (.iconst (1), 1) := by decide +kernel
theorem dO_fits_265 : decode prog_3_method_2_code 265 = .ok (.goto (4), 3) := by decide +kernel
theorem dO_fits_268 : decode prog_3_method_2_code 268 = .ok (.iconst (0), 1) := by decide +kernel
theorem dO_fits_269 : decode prog_3_method_2_code 269 = .ok (.ireturn, 1) := by decide +kernel
theorem dO_fits_270 : decode prog_3_method_2_code 270 = .ok (.aload_n 0, 1) := by decide +kernel
theorem dO_fits_271 : decode prog_3_method_2_code 271 = .ok (.getfield 25, 3) := by decide +kernel
theorem dO_fits_274 : decode prog_3_method_2_code 274 = .ok (.ifCond .ne (66), 3) := by decide +kernel
theorem dO_fits_277 : decode prog_3_method_2_code 277 = .ok (.aload_n 0, 1) := by decide +kernel
theorem dO_fits_278 : decode prog_3_method_2_code 278 = .ok (.getfield 22, 3) := by decide +kernel
theorem dO_fits_281 : decode prog_3_method_2_code 281 = .ok (.getfield 31, 3) := by decide +kernel
theorem dO_fits_284 : decode prog_3_method_2_code 284 = .ok (.aload_n 0, 1) := by decide +kernel
theorem dO_fits_285 : decode prog_3_method_2_code 285 = .ok (.getfield 15, 3) := by decide +kernel
theorem dO_fits_288 : decode prog_3_method_2_code 288 = .ok (.getfield 31, 3) := by decide +kernel
theorem dO_fits_291 : decode prog_3_method_2_code 291 = .ok (.aload_n 0, 1) := by decide +kernel
theorem dO_fits_292 : decode prog_3_method_2_code 292 = .ok (.getfield 19, 3) := by decide +kernel
theorem dO_fits_295 : decode prog_3_method_2_code 295 = .ok (.getfield 31, 3) := by decide +kernel
theorem dO_fits_298 : decode prog_3_method_2_code 298 = .ok (.iadd, 1) := by decide +kernel
theorem dO_fits_299 : decode prog_3_method_2_code 299 = .ok (.if_icmp .ne (41), 3) := by decide +kernel
theorem dO_fits_302 : decode prog_3_method_2_code 302 = .ok (.aload_n 0, 1) := by decide +kernel
theorem dO_fits_303 : decode prog_3_method_2_code 303 = .ok (.getfield 15, 3) := by decide +kernel
theorem dO_fits_306 : decode prog_3_method_2_code 306 = .ok (.getfield 38, 3) := by decide +kernel
theorem dO_fits_309 : decode prog_3_method_2_code 309 = .ok (.aload_n 0, 1) := by decide +kernel
theorem dO_fits_310 : decode prog_3_method_2_code 310 = .ok (.getfield 22, 3) := by decide +kernel
theorem dO_fits_313 : decode prog_3_method_2_code 313 = .ok (.getfield 38, 3) := by decide +kernel
theorem dO_fits_316 : decode prog_3_method_2_code 316 = .ok (.if_icmp .ne (24), 3) := by decide +kernel
theorem dO_fits_319 : decode prog_3_method_2_code 319 = .ok (.aload_n 0, 1) := by decide +kernel
theorem dO_fits_320 : decode prog_3_method_2_code 320 = .ok (.getfield 19, 3) := by decide +kernel
theorem dO_fits_323 : decode prog_3_method_2_code 323 = .ok (.getfield 38, 3) := by decide +kernel
theorem dO_fits_326 : decode prog_3_method_2_code 326 = .ok (.aload_n 0, 1) := by decide +kernel
theorem dO_fits_327 : decode prog_3_method_2_code 327 = .ok (.getfield 22, 3) := by decide +kernel
theorem dO_fits_330 : decode prog_3_method_2_code 330 = .ok (.getfield 38, 3) := by decide +kernel
theorem dO_fits_333 : decode prog_3_method_2_code 333 = .ok (.if_icmp .ne (7), 3) := by decide +kernel
theorem dO_fits_336 : decode prog_3_method_2_code 336 = .ok (.iconst (1), 1) := by decide +kernel
theorem dO_fits_337 : decode prog_3_method_2_code 337 = .ok (.goto (4), 3) := by decide +kernel
theorem dO_fits_340 : decode prog_3_method_2_code 340 = .ok (.iconst (0), 1) := by decide +kernel
theorem dO_fits_341 : decode prog_3_method_2_code 341 = .ok (.ireturn, 1) := by decide +kernel
theorem dO_fits_342 : decode prog_3_method_2_code 342 = .ok (.aload_n 0, 1) := by decide +kernel
theorem dO_fits_343 : decode prog_3_method_2_code 343 = .ok (.getfield 25, 3) := by decide +kernel
theorem dO_fits_346 : decode prog_3_method_2_code 346 = .ok (.ifCond .ne (52), 3) := by decide +kernel
theorem dO_fits_349 : decode prog_3_method_2_code 349 = .ok (.aload_n 0, 1) := by decide +kernel
theorem dO_fits_350 : decode prog_3_method_2_code 350 = .ok (.getfield 19, 3) := by decide +kernel
theorem dO_fits_353 : decode prog_3_method_2_code 353 = .ok (.aload_n 0, 1) := by decide +kernel
theorem dO_fits_354 : decode prog_3_method_2_code 354 = .ok (.getfield 15, 3) := by decide +kernel
theorem dO_fits_357 : decode prog_3_method_2_code 357 = .ok (.if_acmp .ne (41), 3) := by decide +kernel
theorem dO_fits_360 : decode prog_3_method_2_code 360 = .ok (.aload_n 0, 1) := by decide +kernel
theorem dO_fits_361 : decode prog_3_method_2_code 361 = .ok (.getfield 15, 3) := by decide +kernel
theorem dO_fits_364 : decode prog_3_method_2_code 364 = .ok (.getfield 31, 3) := by decide +kernel
theorem dO_fits_367 : decode prog_3_method_2_code 367 = .ok (.aload_n 0, 1) := by decide +kernel
theorem dO_fits_368 : decode prog_3_method_2_code 368 = .ok (.getfield 22, 3) := by decide +kernel
theorem dO_fits_371 : decode prog_3_method_2_code 371 = .ok (.getfield 31, 3) := by decide +kernel
theorem dO_fits_374 : decode prog_3_method_2_code 374 = .ok (.if_icmp .ne (24), 3) := by decide +kernel
theorem dO_fits_377 : decode prog_3_method_2_code 377 = .ok (.aload_n 0, 1) := by decide +kernel
theorem dO_fits_378 : decode prog_3_method_2_code 378 = .ok (.getfield 15, 3) := by decide +kernel
theorem dO_fits_381 : decode prog_3_method_2_code 381 = .ok (.getfield 38, 3) := by decide +kernel
theorem dO_fits_384 : decode prog_3_method_2_code 384 = .ok (.aload_n 0, 1) := by decide +kernel
theorem dO_fits_385 : decode prog_3_method_2_code 385 = .ok (.getfield 22, 3) := by decide +kernel
theorem dO_fits_388 : decode prog_3_method_2_code 388 = .ok (.getfield 38, 3) := by decide +kernel
theorem dO_fits_391 : decode prog_3_method_2_code 391 = .ok (.if_icmp .ne (7), 3) := by decide +kernel
theorem dO_fits_394 : decode prog_3_method_2_code 394 = .ok (.iconst (1), 1) := by decide +kernel
theorem dO_fits_395 : decode prog_3_method_2_code 395 = .ok (.goto (4), 3) := by decide +kernel
theorem dO_fits_398 : decode prog_3_method_2_code 398 = .ok (.iconst (0), 1) := by decide +kernel
theorem dO_fits_399 : decode prog_3_method_2_code 399 = .ok (.ireturn, 1) := by decide +kernel
theorem dO_fits_400 : decode prog_3_method_2_code 400 = .ok (.iconst (0), 1) := by decide +kernel
theorem dO_fits_401 : decode prog_3_method_2_code 401 = .ok (.ireturn, 1) := by decide +kernel
def fN_isWithin  (a0 : Int32) (a1 : Int32) (a2 : Int32) (w : cW) : Option (Int32 × cW) :=
  if a0 < a1 then (
    some ((0 : Int32), w)) else
  if a2 < a0 then (
    some ((0 : Int32), w)) else
  some ((1 : Int32), w)
def fN_isScale  (a0 : Int32) (w : cW) : Option (Int32 × cW) :=
  cbd (fN_isWithin a0 (0 : Int32) (7 : Int32) w) fun x1 w2 =>
  if x1 = 0 ∨ x1 = 1 then some (x1, w2) else none
def fN_isCellValue  (a0 : Int32) (w : cW) : Option (Int32 × cW) :=
  cbd (fN_isWithin a0 (-128 : Int32) (127 : Int32) w) fun x1 w2 =>
  if x1 = 0 ∨ x1 = 1 then some (x1, w2) else none
def fN_rounded  (a0 : Int64) (a2 : Int64) (w : cW) : Option (Int64 × cW) :=
  if a2 = 0 then none else
  bnd (((if 0 < a0 then a0 else -a0) + (a2 / (2 : Int64))) / a2) fun j1 =>
  if 0 ≤ (lg_cmp a0 (0 : Int64)) then (
    some (j1, w)) else
  some ((-j1), w)
def fT_init (b : Nat) (a1 : Int32) (a2 : Int32) (a3 : Int32) (a4 : Int32) (w : cW) : Option (Unit × cW) :=
  (pZ w (some b) 4 6 (0 : Int32)).bind fun w1 =>
  (pZ w1 (some b) 4 7 (0 : Int32)).bind fun w2 =>
  (pI w2 (some b) 4 8 (0 : Int32)).bind fun w3 =>
  (pI w3 (some b) 4 9 (0 : Int32)).bind fun w4 =>
  (pI w4 (some b) 4 10 (0 : Int32)).bind fun w5 =>
  (pI w5 (some b) 4 0 a1).bind fun w6 =>
  (pI w6 (some b) 4 1 a2).bind fun w7 =>
  (pI w7 (some b) 4 2 a3).bind fun w8 =>
  (pI w8 (some b) 4 3 a4).bind fun w9 =>
  (alI w9 0 a3 64).bind fun w10 =>
  (pQ w10 (some b) 4 4 (some w9.2.1)).bind fun w11 =>
  if a2 = (1 : Int32) then (
    (alI w11 0 a3 64).bind fun w14 =>
    (pQ w14 (some b) 4 5 (some w11.2.1)).bind fun w15 =>
    some ((), w15)) else
  (gQ w11 (some b) 4 4).bind fun r12 =>
  (pQ w11 (some b) 4 5 r12).bind fun w13 =>
  some ((), w13)
def fT_greatestLength  (a0 : Int32) (w : cW) : Option (Int32 × cW) :=
  if a0 = 0 then (
    some ((64 : Int32), w)) else
  some ((16 : Int32), w)
def fT_hasCell (b : Nat) (a1 : Int32) (w : cW) : Option (Int32 × cW) :=
  if a1 < 0 then (
    some ((0 : Int32), w)) else
  (gI w (some b) 4 2).bind fun x1 =>
  if x1 ≤ a1 then (
    some ((0 : Int32), w)) else
  some ((1 : Int32), w)
def fT_takeGiven (b : Nat)  (w : cW) : Option (Unit × cW) :=
  (gI w (some b) 4 1).bind fun x1 =>
  if x1 = (1 : Int32) then (
    (gQ w (some b) 4 4).bind fun r2 =>
    (gQ w (some b) 4 5).bind fun r3 =>
    (gI w (some b) 4 2).bind fun x4 =>
    (cpI w r2 (0 : Int32) r3 (0 : Int32) x4).bind fun w5 =>
    some ((), w5)) else
  some ((), w)
def fT_beginLife (b : Nat) (a1 : Int32) (w : cW) : Option (Unit × cW) :=
  (pZ w (some b) 4 7 (1 : Int32)).bind fun w1 =>
  (pI w1 (some b) 4 8 a1).bind fun w2 =>
  (pI w2 (some b) 4 9 a1).bind fun w3 =>
  some ((), w3)
def fT_resetLife (b : Nat)  (w : cW) : Option (Unit × cW) :=
  (pZ w (some b) 4 7 (0 : Int32)).bind fun w1 =>
  (gI w1 (some b) 4 1).bind fun x2 =>
  if x2 = (1 : Int32) then (
    (cRcv w1 (some b) 4).bind fun b5 => cbd (fT_beginLife b5 (-1 : Int32) w1) fun u3 w4 =>
    some ((), w4)) else
  some ((), w1)
def fT_livesAfter (b : Nat) (a1 : Int32) (w : cW) : Option (Int32 × cW) :=
  (gI w (some b) 4 7).bind fun x1 =>
  if x1 = 0 then (
    some ((0 : Int32), w)) else
  (gI w (some b) 4 8).bind fun x2 =>
  if a1 ≤ x2 then (
    some ((0 : Int32), w)) else
  (gI w (some b) 4 9).bind fun x3 =>
  if x3 < (a1 - (1 : Int32)) then (
    some ((0 : Int32), w)) else
  some ((1 : Int32), w)
def fT_meets (b : Nat) (a1 : Nat) (w : cW) : Option (Int32 × cW) :=
  (gI w (some b) 4 8).bind fun x1 =>
  (gI w (some a1) 4 9).bind fun x2 =>
  if x2 < x1 then (
    some ((0 : Int32), w)) else
  (gI w (some a1) 4 8).bind fun x3 =>
  (gI w (some b) 4 9).bind fun x4 =>
  if x4 < x3 then (
    some ((0 : Int32), w)) else
  some ((1 : Int32), w)
def fT_distance (b : Nat) (a1 : Int32) (w : cW) : Option (Int32 × cW) :=
  (gQ w (some b) 4 5).bind fun r1 =>
  (ldI w r1 .int a1).bind fun x2 =>
  (gI w (some b) 4 3).bind fun x3 =>
  some ((x2 - x3), w)
def fS_init (b : Nat)  (w : cW) : Option (Unit × cW) :=
  (pI w (some b) 3 0 (1073741824 : Int32)).bind fun w1 =>
  (pI w1 (some b) 3 1 (0 : Int32)).bind fun w2 =>
  some ((), w2)
def fS_applied (b : Nat) (a1 : Int64) (w : cW) : Option (Int32 × cW) :=
  (gI w (some b) 3 0).bind fun x1 =>
  cbd (fN_rounded (a1 * x1.toInt64) (2147483648 : Int64) w) fun j2 w3 =>
  (gI w3 (some b) 3 1).bind fun x4 =>
  cbd (fN_rounded j2 ((1 : Int64) <<< (x4.toInt64 &&& 63)) w3) fun j5 w6 =>
  some (j5.toInt32, w6)
def fO_init (b : Nat) (a1 : Int32) (a2 : Nat) (a3 : Nat) (a4 : Nat) (a5 : Int32) (w : cW) : Option (Unit × cW) :=
  (pI w (some b) 2 0 a1).bind fun w1 =>
  (pQ w1 (some b) 2 1 (some a2)).bind fun w2 =>
  (pQ w2 (some b) 2 2 (some a3)).bind fun w3 =>
  (pQ w3 (some b) 2 3 (some a4)).bind fun w4 =>
  (pI w4 (some b) 2 4 a5).bind fun w5 =>
  some ((), w5)
def fO_fits (b : Nat)  (w : cW) : Option (Int32 × cW) :=
  (gI w (some b) 2 0).bind fun x1 =>
  if x1 = (0 : Int32) then (
    (gQ w (some b) 2 2).bind fun r2 =>
    (gI w r2 4 1).bind fun x3 =>
    if x3 = 0 then (
      (gQ w (some b) 2 2).bind fun r4 =>
      (gI w r4 4 2).bind fun x5 =>
      (gQ w (some b) 2 1).bind fun r6 =>
      (gI w r6 4 2).bind fun x7 =>
      (gQ w (some b) 2 3).bind fun r8 =>
      (gI w r8 4 2).bind fun x9 =>
      if x5 = (x7 * x9) then (
        some ((1 : Int32), w)) else
      some ((0 : Int32), w)) else
    some ((0 : Int32), w)) else
  if x1 = (1 : Int32) then (
    (gQ w (some b) 2 1).bind fun r10 =>
    (gI w r10 4 2).bind fun x11 =>
    (gQ w (some b) 2 3).bind fun r12 =>
    (gI w r12 4 2).bind fun x13 =>
    if x11 = x13 then (
      (gQ w (some b) 2 2).bind fun r14 =>
      (gI w r14 4 2).bind fun x15 =>
      (gQ w (some b) 2 3).bind fun r16 =>
      (gI w r16 4 2).bind fun x17 =>
      if x15 = x17 then (
        some ((1 : Int32), w)) else
      some ((0 : Int32), w)) else
    some ((0 : Int32), w)) else
  if x1 = (2 : Int32) then (
    (gQ w (some b) 2 1).bind fun r18 =>
    (gI w r18 4 2).bind fun x19 =>
    (gQ w (some b) 2 3).bind fun r20 =>
    (gI w r20 4 2).bind fun x21 =>
    if x19 = x21 then (
      (gQ w (some b) 2 2).bind fun r22 =>
      (gI w r22 4 2).bind fun x23 =>
      (gQ w (some b) 2 3).bind fun r24 =>
      (gI w r24 4 2).bind fun x25 =>
      if x23 = x25 then (
        some ((1 : Int32), w)) else
      some ((0 : Int32), w)) else
    some ((0 : Int32), w)) else
  if x1 = (3 : Int32) then (
    (gQ w (some b) 2 2).bind fun r26 =>
    (gQ w (some b) 2 1).bind fun r27 =>
    if r26 = r27 then (
      (gI w (some b) 2 4).bind fun x28 =>
      cbd (fN_isWithin x28 (2 : Int32) (4 : Int32) w) fun x29 w30 =>
      if x29 = 0 then (
        some ((0 : Int32), w30)) else
      (gQ w30 (some b) 2 1).bind fun r31 =>
      (gI w30 r31 4 2).bind fun x32 =>
      (gQ w30 (some b) 2 3).bind fun r33 =>
      (gI w30 r33 4 2).bind fun x34 =>
      (gI w30 (some b) 2 4).bind fun x35 =>
      if x32 = (x34 * x35) then (
        (gQ w30 (some b) 2 1).bind fun r36 =>
        (gI w30 r36 4 3).bind fun x37 =>
        (gQ w30 (some b) 2 3).bind fun r38 =>
        (gI w30 r38 4 3).bind fun x39 =>
        if x37 = x39 then (
          some ((1 : Int32), w30)) else
        some ((0 : Int32), w30)) else
      some ((0 : Int32), w30)) else
    some ((0 : Int32), w)) else
  if x1 = (4 : Int32) then (
    (gQ w (some b) 2 2).bind fun r40 =>
    (gQ w (some b) 2 1).bind fun r41 =>
    if r40 = r41 then (
      (gI w (some b) 2 4).bind fun x42 =>
      cbd (fN_isWithin x42 (2 : Int32) (4 : Int32) w) fun x43 w44 =>
      if x43 = 0 then (
        some ((0 : Int32), w44)) else
      (gQ w44 (some b) 2 1).bind fun r45 =>
      (gI w44 r45 4 2).bind fun x46 =>
      (gQ w44 (some b) 2 3).bind fun r47 =>
      (gI w44 r47 4 2).bind fun x48 =>
      (gI w44 (some b) 2 4).bind fun x49 =>
      if x46 = (x48 * x49) then (
        (gQ w44 (some b) 2 1).bind fun r50 =>
        (gI w44 r50 4 3).bind fun x51 =>
        (gQ w44 (some b) 2 3).bind fun r52 =>
        (gI w44 r52 4 3).bind fun x53 =>
        if x51 = x53 then (
          some ((1 : Int32), w44)) else
        some ((0 : Int32), w44)) else
      some ((0 : Int32), w44)) else
    some ((0 : Int32), w)) else
  if x1 = (5 : Int32) then (
    (gI w (some b) 2 4).bind fun x54 =>
    if x54 = 0 then (
      (gQ w (some b) 2 2).bind fun r55 =>
      (gI w r55 4 1).bind fun x56 =>
      if x56 = 0 then (
        (gQ w (some b) 2 2).bind fun r57 =>
        (gI w r57 4 2).bind fun x58 =>
        if x58 = (16 : Int32) then (
          (gQ w (some b) 2 1).bind fun r59 =>
          (gI w r59 4 2).bind fun x60 =>
          (gQ w (some b) 2 3).bind fun r61 =>
          (gI w r61 4 2).bind fun x62 =>
          if x60 = x62 then (
            (gQ w (some b) 2 2).bind fun r63 =>
            (gI w r63 4 3).bind fun x64 =>
            (gQ w (some b) 2 3).bind fun r65 =>
            (gI w r65 4 3).bind fun x66 =>
            if x64 = x66 then (
              some ((1 : Int32), w)) else
            some ((0 : Int32), w)) else
          some ((0 : Int32), w)) else
        some ((0 : Int32), w)) else
      some ((0 : Int32), w)) else
    some ((0 : Int32), w)) else
  if x1 = (6 : Int32) then (
    (gI w (some b) 2 4).bind fun x67 =>
    if x67 = 0 then (
      (gQ w (some b) 2 3).bind fun r68 =>
      (gI w r68 4 2).bind fun x69 =>
      (gQ w (some b) 2 1).bind fun r70 =>
      (gI w r70 4 2).bind fun x71 =>
      (gQ w (some b) 2 2).bind fun r72 =>
      (gI w r72 4 2).bind fun x73 =>
      if x69 = (x71 + x73) then (
        (gQ w (some b) 2 1).bind fun r74 =>
        (gI w r74 4 3).bind fun x75 =>
        (gQ w (some b) 2 3).bind fun r76 =>
        (gI w r76 4 3).bind fun x77 =>
        if x75 = x77 then (
          (gQ w (some b) 2 2).bind fun r78 =>
          (gI w r78 4 3).bind fun x79 =>
          (gQ w (some b) 2 3).bind fun r80 =>
          (gI w r80 4 3).bind fun x81 =>
          if x79 = x81 then (
            some ((1 : Int32), w)) else
          some ((0 : Int32), w)) else
        some ((0 : Int32), w)) else
      some ((0 : Int32), w)) else
    some ((0 : Int32), w)) else
  if x1 = (7 : Int32) then (
    (gI w (some b) 2 4).bind fun x82 =>
    if x82 = 0 then (
      (gQ w (some b) 2 2).bind fun r83 =>
      (gQ w (some b) 2 1).bind fun r84 =>
      if r83 = r84 then (
        (gQ w (some b) 2 1).bind fun r85 =>
        (gI w r85 4 2).bind fun x86 =>
        (gQ w (some b) 2 3).bind fun r87 =>
        (gI w r87 4 2).bind fun x88 =>
        if x86 = x88 then (
          (gQ w (some b) 2 1).bind fun r89 =>
          (gI w r89 4 3).bind fun x90 =>
          (gQ w (some b) 2 3).bind fun r91 =>
          (gI w r91 4 3).bind fun x92 =>
          if x90 = x92 then (
            some ((1 : Int32), w)) else
          some ((0 : Int32), w)) else
        some ((0 : Int32), w)) else
      some ((0 : Int32), w)) else
    some ((0 : Int32), w)) else
  some ((0 : Int32), w)
set_option maxHeartbeats 4000000 in
set_option maxRecDepth 100000 in
theorem tN_isWithin {C : xC} {G : cG} {w0 w' : cW} {r : Int32}  (hC : okC C prog_1_method_27_code 3 "ArenaNetwork" lw_gd) (hE : xE C (some .boolean) mkI G w0 w' r) (hR : xR C = rmN_isWithin) (a0 : Int32) (a1 : Int32) (a2 : Int32) (w : cW) (hf : fN_isWithin a0 a1 a2 w = some (r, w')) : V C w 0 0 0 [(0, .int a0), (1, .int a1), (2, .int a2)] [] := by
  unfold fN_isWithin at hf
  refine v_iload_n (pc := 0) (i := 0) (x := a0) hC dN_isWithin_0 rfl 0 rfl ?_
  refine v_iload_n (pc := 1) (i := 1) (x := a1) hC dN_isWithin_1 rfl 1 rfl ?_
  refine v_icmp_lt (pc := 2) (tgt := 14) hC dN_isWithin_2 (by decide) hf (fun hf => ?_) (fun hf => ?_)
  · refine v_iconst (pc := 14) (v := (0 : Int32)) hC dN_isWithin_14 (by decide) ?_
    exact v_zret (pc := 15) hC hE dN_isWithin_15 (by rw [hR]; decide) (by rw [hR]; decide) (by rw [if_pos (by decide)]; exact hf)
  · refine v_iload_n (pc := 5) (i := 0) (x := a0) hC dN_isWithin_5 rfl 0 rfl ?_
    refine v_iload_n (pc := 6) (i := 2) (x := a2) hC dN_isWithin_6 rfl 2 rfl ?_
    refine v_icmp_gt (pc := 7) (tgt := 14) hC dN_isWithin_7 (by decide) hf (fun hf => ?_) (fun hf => ?_)
    · refine v_iconst (pc := 14) (v := (0 : Int32)) hC dN_isWithin_14 (by decide) ?_
      exact v_zret (pc := 15) hC hE dN_isWithin_15 (by rw [hR]; decide) (by rw [hR]; decide) (by rw [if_pos (by decide)]; exact hf)
    · refine v_iconst (pc := 10) (v := (1 : Int32)) hC dN_isWithin_10 (by decide) ?_
      refine v_goto (pc := 11) (tgt := 15) hC dN_isWithin_11 (by decide) ?_
      exact v_zret (pc := 15) hC hE dN_isWithin_15 (by rw [hR]; decide) (by rw [hR]; decide) (by rw [if_pos (by decide)]; exact hf)
theorem mN_isWithin (l : Launch) (G : cG)  (a0 : Int32) (a1 : Int32) (a2 : Int32) (w : cW) (r : Int32) (w' : cW) (hf : fN_isWithin a0 a1 a2 w = some (r, w')) : Met l yN_isWithin (wsM yN_isWithin prog_1_method_27_code 3 (some .boolean)) rmN_isWithin (mP G w [.int a0, .int a1, .int a2]) (mQ mkI G w w' r) (rmN_isWithin).cells (rmN_isWithin).slots (Aw w) :=
  met_of (by decide +kernel) rfl (Nat.le_of_ble_eq_true rfl) (fun C hC hR _ _ _ hts hE => tN_isWithin (okC.tbl hC) hE hR a0 a1 a2 w hf)
set_option maxHeartbeats 4000000 in
set_option maxRecDepth 100000 in
theorem tN_isScale {C : xC} {G : cG} {w0 w' : cW} {r : Int32}  (hC : okC C prog_1_method_25_code 1 "ArenaNetwork" lw_gd) (hE : xE C (some .boolean) mkI G w0 w' r) (hR : xR C = rmN_isScale) (a0 : Int32) (w : cW) (hf : fN_isScale a0 w = some (r, w')) : V C w 0 0 0 [(0, .int a0)] [] := by
  unfold fN_isScale at hf
  refine v_iload_n (pc := 0) (i := 0) (x := a0) hC dN_isScale_0 rfl 0 rfl ?_
  refine v_iconst (pc := 1) (v := (0 : Int32)) hC dN_isScale_1 (by decide) ?_
  refine v_bipush (pc := 2) (v := (7 : Int32)) hC dN_isScale_2 (by decide) ?_
  refine v_callS (pc := 4) (As := [.int a0, .int (0 : Int32), .int (7 : Int32)]) (rest := []) (k' := 0) (n' := 0) (st1 := (fun yq => [.int yq])) hC dN_isScale_4 q107 q108 q1 q109 ykN_isWithin rfl (fun rq wq hq => mN_isWithin _ _ a0 (0 : Int32) (7 : Int32) _ rq wq hq) (by rw [hR]; decide) (by simp only [List.map_cons, List.map_nil, va_cat]; exact Nat.le_of_ble_eq_true rfl) (by decide) (by rw [hR]; decide) hf rfl (fun _ => rfl) (fun x1 w2 hf => ?_)
  exact v_zret (pc := 7) hC hE dN_isScale_7 (by rw [hR]; decide) (by rw [hR]; decide) hf
theorem mN_isScale (l : Launch) (G : cG)  (a0 : Int32) (w : cW) (r : Int32) (w' : cW) (hf : fN_isScale a0 w = some (r, w')) : Met l yN_isScale (wsM yN_isScale prog_1_method_25_code 1 (some .boolean)) rmN_isScale (mP G w [.int a0]) (mQ mkI G w w' r) (rmN_isScale).cells (rmN_isScale).slots (Aw w) :=
  met_of (by decide +kernel) rfl (Nat.le_of_ble_eq_true rfl) (fun C hC hR _ _ _ hts hE => tN_isScale (okC.tbl hC) hE hR a0 w hf)
set_option maxHeartbeats 4000000 in
set_option maxRecDepth 100000 in
theorem tN_isCellValue {C : xC} {G : cG} {w0 w' : cW} {r : Int32}  (hC : okC C prog_1_method_26_code 1 "ArenaNetwork" lw_gd) (hE : xE C (some .boolean) mkI G w0 w' r) (hR : xR C = rmN_isCellValue) (a0 : Int32) (w : cW) (hf : fN_isCellValue a0 w = some (r, w')) : V C w 0 0 0 [(0, .int a0)] [] := by
  unfold fN_isCellValue at hf
  refine v_iload_n (pc := 0) (i := 0) (x := a0) hC dN_isCellValue_0 rfl 0 rfl ?_
  refine v_bipush (pc := 1) (v := (-128 : Int32)) hC dN_isCellValue_1 (by decide) ?_
  refine v_bipush (pc := 3) (v := (127 : Int32)) hC dN_isCellValue_3 (by decide) ?_
  refine v_callS (pc := 5) (As := [.int a0, .int (-128 : Int32), .int (127 : Int32)]) (rest := []) (k' := 0) (n' := 0) (st1 := (fun yq => [.int yq])) hC dN_isCellValue_5 q107 q108 q1 q109 ykN_isWithin rfl (fun rq wq hq => mN_isWithin _ _ a0 (-128 : Int32) (127 : Int32) _ rq wq hq) (by rw [hR]; decide) (by simp only [List.map_cons, List.map_nil, va_cat]; exact Nat.le_of_ble_eq_true rfl) (by decide) (by rw [hR]; decide) hf rfl (fun _ => rfl) (fun x1 w2 hf => ?_)
  exact v_zret (pc := 8) hC hE dN_isCellValue_8 (by rw [hR]; decide) (by rw [hR]; decide) hf
theorem mN_isCellValue (l : Launch) (G : cG)  (a0 : Int32) (w : cW) (r : Int32) (w' : cW) (hf : fN_isCellValue a0 w = some (r, w')) : Met l yN_isCellValue (wsM yN_isCellValue prog_1_method_26_code 1 (some .boolean)) rmN_isCellValue (mP G w [.int a0]) (mQ mkI G w w' r) (rmN_isCellValue).cells (rmN_isCellValue).slots (Aw w) :=
  met_of (by decide +kernel) rfl (Nat.le_of_ble_eq_true rfl) (fun C hC hR _ _ _ hts hE => tN_isCellValue (okC.tbl hC) hE hR a0 w hf)
set_option maxHeartbeats 4000000 in
set_option maxRecDepth 100000 in
theorem tN_rounded {C : xC} {G : cG} {w0 w' : cW} {r : Int64}  (hC : okC C prog_1_method_28_code 6 "ArenaNetwork" lw_gd) (hE : xE C (some .long) mkL G w0 w' r) (hR : xR C = rmN_rounded) (a0 : Int64) (a2 : Int64) (w : cW) (hf : fN_rounded a0 a2 w = some (r, w')) : V C w 0 0 0 [(0, .long a0), (2, .long a2)] [] := by
  unfold fN_rounded at hf
  refine v_lload_n (pc := 0) (i := 0) (x := a0) hC dN_rounded_0 rfl 0 rfl ?_
  refine v_mabsl (pc := 1) (x := a0) (st := []) hC dN_rounded_1 q406 q407 q10 q408 (by rw [hR]; decide) (by simp only [List.map_cons, List.map_nil, va_cat]; exact Nat.le_of_ble_eq_true rfl) (by rw [hR]; decide) ?_
  refine v_lload_n (pc := 4) (i := 2) (x := a2) hC dN_rounded_4 rfl 1 rfl ?_
  refine v_ldc2 (pc := 5) (v := (2 : Int64)) hC dN_rounded_5 q409 ?_
  refine v_ldiv (pc := 8) hC dN_rounded_8 (by decide) ?_
  refine v_ladd (pc := 9) hC dN_rounded_9 ?_
  refine v_lload_n (pc := 10) (i := 2) (x := a2) hC dN_rounded_10 rfl 1 rfl ?_
  by_cases e11 : a2 = 0
  · rw [if_pos e11] at hf; cases hf
  rw [if_neg e11] at hf
  refine v_ldiv (pc := 11) hC dN_rounded_11 e11 ?_
  refine v_bndl hf (fun j1 hf => ?_)
  refine v_lstore (pc := 12) (i := 4) (x := j1) hC dN_rounded_12 (by decide) [(4, .long j1), (0, .long a0), (2, .long a2)] rfl ?_
  refine v_lload_n (pc := 14) (i := 0) (x := a0) hC dN_rounded_14 rfl 1 rfl ?_
  refine v_lconst (pc := 15) (v := (0 : Int64)) hC dN_rounded_15 (by decide) ?_
  refine v_lcmp (pc := 16) hC dN_rounded_16 ?_
  refine v_if_ge (pc := 17) (tgt := 26) hC dN_rounded_17 (by decide) hf (fun hf => ?_) (fun hf => ?_)
  · refine v_lload (pc := 26) (i := 4) (x := j1) hC dN_rounded_26 0 rfl ?_
    exact v_lret (pc := 28) hC hE dN_rounded_28 (by rw [hR]; decide) (by rw [hR]; decide) hf
  · refine v_lload (pc := 20) (i := 4) (x := j1) hC dN_rounded_20 0 rfl ?_
    refine v_lneg (pc := 22) hC dN_rounded_22 ?_
    refine v_goto (pc := 23) (tgt := 28) hC dN_rounded_23 (by decide) ?_
    exact v_lret (pc := 28) hC hE dN_rounded_28 (by rw [hR]; decide) (by rw [hR]; decide) hf
theorem mN_rounded (l : Launch) (G : cG)  (a0 : Int64) (a2 : Int64) (w : cW) (r : Int64) (w' : cW) (hf : fN_rounded a0 a2 w = some (r, w')) : Met l yN_rounded (wsM yN_rounded prog_1_method_28_code 6 (some .long)) rmN_rounded (mP G w [.long a0, .long a2]) (mQ mkL G w w' r) (rmN_rounded).cells (rmN_rounded).slots (Aw w) :=
  met_of (by decide +kernel) rfl (Nat.le_of_ble_eq_true rfl) (fun C hC hR _ _ _ hts hE => tN_rounded (okC.tbl hC) hE hR a0 a2 w hf)
set_option maxHeartbeats 4000000 in
set_option maxRecDepth 100000 in
theorem tT_init {C : xC} {G : cG} {w0 w' : cW} {r : Unit} {b : Nat} (hC : okC C prog_5_method_1_code 5 "ArenaNetwork$Tensor" lw_gd) (hE : xE C none mkV G w0 w' r) (hR : xR C = rmT_init) (hN : (xmeth C).name = "<init>") (a1 : Int32) (a2 : Int32) (a3 : Int32) (a4 : Int32) (w : cW) (hf : fT_init b a1 a2 a3 a4 w = some (r, w')) : V C w 0 0 0 [(0, va_rf (some b)), (1, .int a1), (2, .int a2), (3, .int a3), (4, .int a4)] [] := by
  unfold fT_init at hf
  refine v_aload_n (pc := 0) (i := 0) (r := (some b)) hC dT_init_0 rfl 0 rfl ?_
  refine v_objInit (pc := 1) (b := b) (rest := []) hC dT_init_1 q125 q22 q23 (by simp only [List.map_cons, List.map_nil, va_cat]; exact Nat.le_of_ble_eq_true rfl) (by rw [hR]; decide) ?_
  refine v_aload_n (pc := 4) (i := 0) (r := (some b)) hC dT_init_4 rfl 0 rfl ?_
  refine v_iconst (pc := 5) (v := (0 : Int32)) hC dT_init_5 (by decide) ?_
  refine v_putZ (pc := 6) (r := (some b)) hC dT_init_6 inT rfl tyT tkT nmT 6 (by decide) q141 (Or.inl rfl) rfl (tkT 6 (by decide)) hf (fun w1 hf => ?_)
  refine v_aload_n (pc := 9) (i := 0) (r := (some b)) hC dT_init_9 rfl 0 rfl ?_
  refine v_iconst (pc := 10) (v := (0 : Int32)) hC dT_init_10 (by decide) ?_
  refine v_putZ (pc := 11) (r := (some b)) hC dT_init_11 inT rfl tyT tkT nmT 7 (by decide) q143 (Or.inl rfl) rfl (tkT 7 (by decide)) hf (fun w2 hf => ?_)
  refine v_aload_n (pc := 14) (i := 0) (r := (some b)) hC dT_init_14 rfl 0 rfl ?_
  refine v_iconst (pc := 15) (v := (0 : Int32)) hC dT_init_15 (by decide) ?_
  refine v_putI (pc := 16) (r := (some b)) hC dT_init_16 inT rfl tyT tkT nmT 8 (by decide) q146 (Or.inl rfl) rfl (tkT 8 (by decide)) hf (fun w3 hf => ?_)
  refine v_aload_n (pc := 19) (i := 0) (r := (some b)) hC dT_init_19 rfl 0 rfl ?_
  refine v_iconst (pc := 20) (v := (0 : Int32)) hC dT_init_20 (by decide) ?_
  refine v_putI (pc := 21) (r := (some b)) hC dT_init_21 inT rfl tyT tkT nmT 9 (by decide) q148 (Or.inl rfl) rfl (tkT 9 (by decide)) hf (fun w4 hf => ?_)
  refine v_aload_n (pc := 24) (i := 0) (r := (some b)) hC dT_init_24 rfl 0 rfl ?_
  refine v_iconst (pc := 25) (v := (0 : Int32)) hC dT_init_25 (by decide) ?_
  refine v_putI (pc := 26) (r := (some b)) hC dT_init_26 inT rfl tyT tkT nmT 10 (by decide) q150 (Or.inl rfl) rfl (tkT 10 (by decide)) hf (fun w5 hf => ?_)
  refine v_aload_n (pc := 29) (i := 0) (r := (some b)) hC dT_init_29 rfl 0 rfl ?_
  refine v_iload_n (pc := 30) (i := 1) (x := a1) hC dT_init_30 rfl 1 rfl ?_
  refine v_putCI (pc := 31) (r := (some b)) hC dT_init_31 inT rfl tyT tkT nmT 0 (by decide) q126 rfl hN rfl (tkT 0 (by decide)) hf (fun w6 hf => ?_)
  refine v_aload_n (pc := 34) (i := 0) (r := (some b)) hC dT_init_34 rfl 0 rfl ?_
  refine v_iload_n (pc := 35) (i := 2) (x := a2) hC dT_init_35 rfl 2 rfl ?_
  refine v_putCI (pc := 36) (r := (some b)) hC dT_init_36 inT rfl tyT tkT nmT 1 (by decide) q128 rfl hN rfl (tkT 1 (by decide)) hf (fun w7 hf => ?_)
  refine v_aload_n (pc := 39) (i := 0) (r := (some b)) hC dT_init_39 rfl 0 rfl ?_
  refine v_iload_n (pc := 40) (i := 3) (x := a3) hC dT_init_40 rfl 3 rfl ?_
  refine v_putCI (pc := 41) (r := (some b)) hC dT_init_41 inT rfl tyT tkT nmT 2 (by decide) q131 rfl hN rfl (tkT 2 (by decide)) hf (fun w8 hf => ?_)
  refine v_aload_n (pc := 44) (i := 0) (r := (some b)) hC dT_init_44 rfl 0 rfl ?_
  refine v_iload (pc := 45) (i := 4) (x := a4) hC dT_init_45 4 rfl ?_
  refine v_putCI (pc := 47) (r := (some b)) hC dT_init_47 inT rfl tyT tkT nmT 3 (by decide) q134 rfl hN rfl (tkT 3 (by decide)) hf (fun w9 hf => ?_)
  refine v_aload_n (pc := 50) (i := 0) (r := (some b)) hC dT_init_50 rfl 0 rfl ?_
  refine v_iload_n (pc := 51) (i := 3) (x := a3) hC dT_init_51 rfl 3 rfl ?_
  refine v_newa (pc := 52) (t := 0) (b := 64) hC dT_init_52 q176 rfl (by decide) (fun _ _ => rfl) (by decide) (fun _ _ h => h) (by rw [hR]; decide) (by rw [hR]; decide) hf (fun w10 hf => ?_)
  refine V.widen (k' := 1) (n' := 64) (by omega) (by omega) ?_
  refine v_putCQ (pc := 54) (r := (some b)) hC dT_init_54 inT rfl tyT tkT nmT 4 (by decide) q136 rfl hN rfl (tkT 4 (by decide)) (Or.inr ⟨_, rfl⟩) hf (fun w11 hf => ?_)
  refine v_aload_n (pc := 57) (i := 0) (r := (some b)) hC dT_init_57 rfl 0 rfl ?_
  refine v_iload_n (pc := 58) (i := 2) (x := a2) hC dT_init_58 rfl 2 rfl ?_
  refine v_iconst (pc := 59) (v := (1 : Int32)) hC dT_init_59 (by decide) ?_
  refine v_icmp_ne (pc := 60) (tgt := 69) hC dT_init_60 (by decide) hf (fun hf => ?_) (fun hf => ?_)
  · refine v_aload_n (pc := 69) (i := 0) (r := (some b)) hC dT_init_69 rfl 0 rfl ?_
    refine v_getQ (pc := 70) (r := (some b)) hC dT_init_70 inT rfl 4 (by decide) q136 (Or.inl rfl) hf (fun r12 hf => ?_)
    refine v_putCQ (pc := 73) (r := (some b)) hC dT_init_73 inT rfl tyT tkT nmT 5 (by decide) q138 rfl hN rfl (tkT 5 (by decide)) (Or.inr ⟨_, rfl⟩) hf (fun w13 hf => ?_)
    exact v_vret (pc := 76) hC hE dT_init_76 (by rw [hR]; decide) (by rw [hR]; decide) hf
  · refine v_iload_n (pc := 63) (i := 3) (x := a3) hC dT_init_63 rfl 3 rfl ?_
    refine v_newa (pc := 64) (t := 0) (b := 64) hC dT_init_64 q176 rfl (by decide) (fun _ _ => rfl) (by decide) (fun _ _ h => h) (by rw [hR]; decide) (by rw [hR]; decide) hf (fun w14 hf => ?_)
    refine V.widen (k' := 2) (n' := 128) (by omega) (by omega) ?_
    refine v_goto (pc := 66) (tgt := 73) hC dT_init_66 (by decide) ?_
    refine v_putCQ (pc := 73) (r := (some b)) hC dT_init_73 inT rfl tyT tkT nmT 5 (by decide) q138 rfl hN rfl (tkT 5 (by decide)) (Or.inr ⟨_, rfl⟩) hf (fun w15 hf => ?_)
    exact v_vret (pc := 76) hC hE dT_init_76 (by rw [hR]; decide) (by rw [hR]; decide) hf
theorem mT_init (l : Launch) (G : cG) (b : Nat) (a1 : Int32) (a2 : Int32) (a3 : Int32) (a4 : Int32) (w : cW) (r : Unit) (w' : cW) (hf : fT_init b a1 a2 a3 a4 w = some (r, w')) : Met l yT_init (wsM yT_init prog_5_method_1_code 5 none) rmT_init (mP G w [va_rf (some b), .int a1, .int a2, .int a3, .int a4]) (mQ mkV G w w' r) (rmT_init).cells (rmT_init).slots (Aw w) :=
  met_of (by decide +kernel) rfl (Nat.le_of_ble_eq_true rfl) (fun C hC hR _ _ hN hts hE => tT_init (okC.tbl hC) hE hR hN a1 a2 a3 a4 w hf)
set_option maxHeartbeats 4000000 in
set_option maxRecDepth 100000 in
theorem tT_greatestLength {C : xC} {G : cG} {w0 w' : cW} {r : Int32}  (hC : okC C prog_5_method_2_code 1 "ArenaNetwork$Tensor" lw_gd) (hE : xE C (some .int) mkI G w0 w' r) (hR : xR C = rmT_greatestLength) (a0 : Int32) (w : cW) (hf : fT_greatestLength a0 w = some (r, w')) : V C w 0 0 0 [(0, .int a0)] [] := by
  unfold fT_greatestLength at hf
  refine v_iload_n (pc := 0) (i := 0) (x := a0) hC dT_greatestLength_0 rfl 0 rfl ?_
  refine v_if_ne (pc := 1) (tgt := 9) hC dT_greatestLength_1 (by decide) hf (fun hf => ?_) (fun hf => ?_)
  · refine v_bipush (pc := 9) (v := (16 : Int32)) hC dT_greatestLength_9 (by decide) ?_
    exact v_iret (pc := 11) hC hE dT_greatestLength_11 (by rw [hR]; decide) (by rw [hR]; decide) hf
  · refine v_bipush (pc := 4) (v := (64 : Int32)) hC dT_greatestLength_4 (by decide) ?_
    refine v_goto (pc := 6) (tgt := 11) hC dT_greatestLength_6 (by decide) ?_
    exact v_iret (pc := 11) hC hE dT_greatestLength_11 (by rw [hR]; decide) (by rw [hR]; decide) hf
theorem mT_greatestLength (l : Launch) (G : cG)  (a0 : Int32) (w : cW) (r : Int32) (w' : cW) (hf : fT_greatestLength a0 w = some (r, w')) : Met l yT_greatestLength (wsM yT_greatestLength prog_5_method_2_code 1 (some .int)) rmT_greatestLength (mP G w [.int a0]) (mQ mkI G w w' r) (rmT_greatestLength).cells (rmT_greatestLength).slots (Aw w) :=
  met_of (by decide +kernel) rfl (Nat.le_of_ble_eq_true rfl) (fun C hC hR _ _ _ hts hE => tT_greatestLength (okC.tbl hC) hE hR a0 w hf)
set_option maxHeartbeats 4000000 in
set_option maxRecDepth 100000 in
theorem tT_hasCell {C : xC} {G : cG} {w0 w' : cW} {r : Int32} {b : Nat} (hC : okC C prog_5_method_3_code 2 "ArenaNetwork$Tensor" lw_gd) (hE : xE C (some .boolean) mkI G w0 w' r) (hR : xR C = rmT_hasCell) (a1 : Int32) (w : cW) (hf : fT_hasCell b a1 w = some (r, w')) : V C w 0 0 0 [(0, va_rf (some b)), (1, .int a1)] [] := by
  unfold fT_hasCell at hf
  refine v_iload_n (pc := 0) (i := 1) (x := a1) hC dT_hasCell_0 rfl 1 rfl ?_
  refine v_if_lt (pc := 1) (tgt := 16) hC dT_hasCell_1 (by decide) hf (fun hf => ?_) (fun hf => ?_)
  · refine v_iconst (pc := 16) (v := (0 : Int32)) hC dT_hasCell_16 (by decide) ?_
    exact v_zret (pc := 17) hC hE dT_hasCell_17 (by rw [hR]; decide) (by rw [hR]; decide) (by rw [if_pos (by decide)]; exact hf)
  · refine v_iload_n (pc := 4) (i := 1) (x := a1) hC dT_hasCell_4 rfl 1 rfl ?_
    refine v_aload_n (pc := 5) (i := 0) (r := (some b)) hC dT_hasCell_5 rfl 0 rfl ?_
    refine v_getI (pc := 6) (r := (some b)) hC dT_hasCell_6 inT rfl 2 (by decide) q131 (Or.inl rfl) hf (fun x1 hf => ?_)
    refine v_icmp_ge (pc := 9) (tgt := 16) hC dT_hasCell_9 (by decide) hf (fun hf => ?_) (fun hf => ?_)
    · refine v_iconst (pc := 16) (v := (0 : Int32)) hC dT_hasCell_16 (by decide) ?_
      exact v_zret (pc := 17) hC hE dT_hasCell_17 (by rw [hR]; decide) (by rw [hR]; decide) (by rw [if_pos (by decide)]; exact hf)
    · refine v_iconst (pc := 12) (v := (1 : Int32)) hC dT_hasCell_12 (by decide) ?_
      refine v_goto (pc := 13) (tgt := 17) hC dT_hasCell_13 (by decide) ?_
      exact v_zret (pc := 17) hC hE dT_hasCell_17 (by rw [hR]; decide) (by rw [hR]; decide) (by rw [if_pos (by decide)]; exact hf)
theorem mT_hasCell (l : Launch) (G : cG) (b : Nat) (a1 : Int32) (w : cW) (r : Int32) (w' : cW) (hf : fT_hasCell b a1 w = some (r, w')) : Met l yT_hasCell (wsM yT_hasCell prog_5_method_3_code 2 (some .boolean)) rmT_hasCell (mP G w [va_rf (some b), .int a1]) (mQ mkI G w w' r) (rmT_hasCell).cells (rmT_hasCell).slots (Aw w) :=
  met_of (by decide +kernel) rfl (Nat.le_of_ble_eq_true rfl) (fun C hC hR _ _ _ hts hE => tT_hasCell (okC.tbl hC) hE hR a1 w hf)
set_option maxHeartbeats 4000000 in
set_option maxRecDepth 100000 in
theorem tT_takeGiven {C : xC} {G : cG} {w0 w' : cW} {r : Unit} {b : Nat} (hC : okC C prog_5_method_4_code 1 "ArenaNetwork$Tensor" lw_gd) (hE : xE C none mkV G w0 w' r) (hR : xR C = rmT_takeGiven)  (w : cW) (hf : fT_takeGiven b w = some (r, w')) : V C w 0 0 0 [(0, va_rf (some b))] [] := by
  unfold fT_takeGiven at hf
  refine v_aload_n (pc := 0) (i := 0) (r := (some b)) hC dT_takeGiven_0 rfl 0 rfl ?_
  refine v_getI (pc := 1) (r := (some b)) hC dT_takeGiven_1 inT rfl 1 (by decide) q128 (Or.inl rfl) hf (fun x1 hf => ?_)
  refine v_iconst (pc := 4) (v := (1 : Int32)) hC dT_takeGiven_4 (by decide) ?_
  refine v_icmp_ne (pc := 5) (tgt := 25) hC dT_takeGiven_5 (by decide) hf (fun hf => ?_) (fun hf => ?_)
  · exact v_vret (pc := 25) hC hE dT_takeGiven_25 (by rw [hR]; decide) (by rw [hR]; decide) hf
  · refine v_aload_n (pc := 8) (i := 0) (r := (some b)) hC dT_takeGiven_8 rfl 0 rfl ?_
    refine v_getQ (pc := 9) (r := (some b)) hC dT_takeGiven_9 inT rfl 4 (by decide) q136 (Or.inl rfl) hf (fun r2 hf => ?_)
    refine v_iconst (pc := 12) (v := (0 : Int32)) hC dT_takeGiven_12 (by decide) ?_
    refine v_aload_n (pc := 13) (i := 0) (r := (some b)) hC dT_takeGiven_13 rfl 0 rfl ?_
    refine v_getQ (pc := 14) (r := (some b)) hC dT_takeGiven_14 inT rfl 5 (by decide) q138 (Or.inl rfl) hf (fun r3 hf => ?_)
    refine v_iconst (pc := 17) (v := (0 : Int32)) hC dT_takeGiven_17 (by decide) ?_
    refine v_aload_n (pc := 18) (i := 0) (r := (some b)) hC dT_takeGiven_18 rfl 0 rfl ?_
    refine v_getI (pc := 19) (r := (some b)) hC dT_takeGiven_19 inT rfl 2 (by decide) q131 (Or.inl rfl) hf (fun x4 hf => ?_)
    refine v_copyI (pc := 22) (st := []) hC dT_takeGiven_22 q373 q228 q227 q12 (by rw [hR]; decide) (by simp only [List.map_cons, List.map_nil, va_cat]; exact Nat.le_of_ble_eq_true rfl) hf (fun w5 hf => ?_)
    exact v_vret (pc := 25) hC hE dT_takeGiven_25 (by rw [hR]; decide) (by rw [hR]; decide) hf
theorem mT_takeGiven (l : Launch) (G : cG) (b : Nat)  (w : cW) (r : Unit) (w' : cW) (hf : fT_takeGiven b w = some (r, w')) : Met l yT_takeGiven (wsM yT_takeGiven prog_5_method_4_code 1 none) rmT_takeGiven (mP G w [va_rf (some b)]) (mQ mkV G w w' r) (rmT_takeGiven).cells (rmT_takeGiven).slots (Aw w) :=
  met_of (by decide +kernel) rfl (Nat.le_of_ble_eq_true rfl) (fun C hC hR _ _ _ hts hE => tT_takeGiven (okC.tbl hC) hE hR  w hf)
set_option maxHeartbeats 4000000 in
set_option maxRecDepth 100000 in
theorem tT_beginLife {C : xC} {G : cG} {w0 w' : cW} {r : Unit} {b : Nat} (hC : okC C prog_5_method_6_code 2 "ArenaNetwork$Tensor" lw_gd) (hE : xE C none mkV G w0 w' r) (hR : xR C = rmT_beginLife) (a1 : Int32) (w : cW) (hf : fT_beginLife b a1 w = some (r, w')) : V C w 0 0 0 [(0, va_rf (some b)), (1, .int a1)] [] := by
  unfold fT_beginLife at hf
  refine v_aload_n (pc := 0) (i := 0) (r := (some b)) hC dT_beginLife_0 rfl 0 rfl ?_
  refine v_iconst (pc := 1) (v := (1 : Int32)) hC dT_beginLife_1 (by decide) ?_
  refine v_putZ (pc := 2) (r := (some b)) hC dT_beginLife_2 inT rfl tyT tkT nmT 7 (by decide) q143 (Or.inl rfl) rfl (tkT 7 (by decide)) hf (fun w1 hf => ?_)
  refine v_aload_n (pc := 5) (i := 0) (r := (some b)) hC dT_beginLife_5 rfl 0 rfl ?_
  refine v_iload_n (pc := 6) (i := 1) (x := a1) hC dT_beginLife_6 rfl 1 rfl ?_
  refine v_putI (pc := 7) (r := (some b)) hC dT_beginLife_7 inT rfl tyT tkT nmT 8 (by decide) q146 (Or.inl rfl) rfl (tkT 8 (by decide)) hf (fun w2 hf => ?_)
  refine v_aload_n (pc := 10) (i := 0) (r := (some b)) hC dT_beginLife_10 rfl 0 rfl ?_
  refine v_iload_n (pc := 11) (i := 1) (x := a1) hC dT_beginLife_11 rfl 1 rfl ?_
  refine v_putI (pc := 12) (r := (some b)) hC dT_beginLife_12 inT rfl tyT tkT nmT 9 (by decide) q148 (Or.inl rfl) rfl (tkT 9 (by decide)) hf (fun w3 hf => ?_)
  exact v_vret (pc := 15) hC hE dT_beginLife_15 (by rw [hR]; decide) (by rw [hR]; decide) hf
theorem mT_beginLife (l : Launch) (G : cG) (b : Nat) (a1 : Int32) (w : cW) (r : Unit) (w' : cW) (hf : fT_beginLife b a1 w = some (r, w')) : Met l yT_beginLife (wsM yT_beginLife prog_5_method_6_code 2 none) rmT_beginLife (mP G w [va_rf (some b), .int a1]) (mQ mkV G w w' r) (rmT_beginLife).cells (rmT_beginLife).slots (Aw w) :=
  met_of (by decide +kernel) rfl (Nat.le_of_ble_eq_true rfl) (fun C hC hR _ _ _ hts hE => tT_beginLife (okC.tbl hC) hE hR a1 w hf)
set_option maxHeartbeats 4000000 in
set_option maxRecDepth 100000 in
theorem tT_resetLife {C : xC} {G : cG} {w0 w' : cW} {r : Unit} {b : Nat} (hC : okC C prog_5_method_5_code 1 "ArenaNetwork$Tensor" lw_gd) (hE : xE C none mkV G w0 w' r) (hR : xR C = rmT_resetLife)  (w : cW) (hf : fT_resetLife b w = some (r, w')) : V C w 0 0 0 [(0, va_rf (some b))] [] := by
  unfold fT_resetLife at hf
  refine v_aload_n (pc := 0) (i := 0) (r := (some b)) hC dT_resetLife_0 rfl 0 rfl ?_
  refine v_iconst (pc := 1) (v := (0 : Int32)) hC dT_resetLife_1 (by decide) ?_
  refine v_putZ (pc := 2) (r := (some b)) hC dT_resetLife_2 inT rfl tyT tkT nmT 7 (by decide) q143 (Or.inl rfl) rfl (tkT 7 (by decide)) hf (fun w1 hf => ?_)
  refine v_aload_n (pc := 5) (i := 0) (r := (some b)) hC dT_resetLife_5 rfl 0 rfl ?_
  refine v_getI (pc := 6) (r := (some b)) hC dT_resetLife_6 inT rfl 1 (by decide) q128 (Or.inl rfl) hf (fun x2 hf => ?_)
  refine v_iconst (pc := 9) (v := (1 : Int32)) hC dT_resetLife_9 (by decide) ?_
  refine v_icmp_ne (pc := 10) (tgt := 18) hC dT_resetLife_10 (by decide) hf (fun hf => ?_) (fun hf => ?_)
  · exact v_vret (pc := 18) hC hE dT_resetLife_18 (by rw [hR]; decide) (by rw [hR]; decide) hf
  · refine v_aload_n (pc := 13) (i := 0) (r := (some b)) hC dT_resetLife_13 rfl 0 rfl ?_
    refine v_iconst (pc := 14) (v := (-1 : Int32)) hC dT_resetLife_14 (by decide) ?_
    refine v_callV (pc := 15) (r := (some b)) (As := [.int (-1 : Int32)]) (rest := []) (k' := 0) (n' := 0) (st1 := (fun yq => [])) hC dT_resetLife_15 q327 q328 q329 q8 q330 ykT_beginLife rfl rfl (fun bq rq wq hq => mT_beginLife _ _ bq (-1 : Int32) _ rq wq hq) (by rw [hR]; decide) (by simp only [List.map_cons, List.map_nil, va_cat]; exact Nat.le_of_ble_eq_true rfl) (by decide) (by rw [hR]; decide) hf rfl (fun _ => rfl) (fun u3 w4 hf => ?_)
    exact v_vret (pc := 18) hC hE dT_resetLife_18 (by rw [hR]; decide) (by rw [hR]; decide) hf
theorem mT_resetLife (l : Launch) (G : cG) (b : Nat)  (w : cW) (r : Unit) (w' : cW) (hf : fT_resetLife b w = some (r, w')) : Met l yT_resetLife (wsM yT_resetLife prog_5_method_5_code 1 none) rmT_resetLife (mP G w [va_rf (some b)]) (mQ mkV G w w' r) (rmT_resetLife).cells (rmT_resetLife).slots (Aw w) :=
  met_of (by decide +kernel) rfl (Nat.le_of_ble_eq_true rfl) (fun C hC hR _ _ _ hts hE => tT_resetLife (okC.tbl hC) hE hR  w hf)
set_option maxHeartbeats 4000000 in
set_option maxRecDepth 100000 in
theorem tT_livesAfter {C : xC} {G : cG} {w0 w' : cW} {r : Int32} {b : Nat} (hC : okC C prog_5_method_7_code 2 "ArenaNetwork$Tensor" lw_gd) (hE : xE C (some .boolean) mkI G w0 w' r) (hR : xR C = rmT_livesAfter) (a1 : Int32) (w : cW) (hf : fT_livesAfter b a1 w = some (r, w')) : V C w 0 0 0 [(0, va_rf (some b)), (1, .int a1)] [] := by
  unfold fT_livesAfter at hf
  refine v_aload_n (pc := 0) (i := 0) (r := (some b)) hC dT_livesAfter_0 rfl 0 rfl ?_
  refine v_getI (pc := 1) (r := (some b)) hC dT_livesAfter_1 inT rfl 7 (by decide) q143 (Or.inl rfl) hf (fun x1 hf => ?_)
  refine v_if_eq (pc := 4) (tgt := 29) hC dT_livesAfter_4 (by decide) hf (fun hf => ?_) (fun hf => ?_)
  · refine v_iconst (pc := 29) (v := (0 : Int32)) hC dT_livesAfter_29 (by decide) ?_
    exact v_zret (pc := 30) hC hE dT_livesAfter_30 (by rw [hR]; decide) (by rw [hR]; decide) (by rw [if_pos (by decide)]; exact hf)
  · refine v_aload_n (pc := 7) (i := 0) (r := (some b)) hC dT_livesAfter_7 rfl 0 rfl ?_
    refine v_getI (pc := 8) (r := (some b)) hC dT_livesAfter_8 inT rfl 8 (by decide) q146 (Or.inl rfl) hf (fun x2 hf => ?_)
    refine v_iload_n (pc := 11) (i := 1) (x := a1) hC dT_livesAfter_11 rfl 1 rfl ?_
    refine v_icmp_ge (pc := 12) (tgt := 29) hC dT_livesAfter_12 (by decide) hf (fun hf => ?_) (fun hf => ?_)
    · refine v_iconst (pc := 29) (v := (0 : Int32)) hC dT_livesAfter_29 (by decide) ?_
      exact v_zret (pc := 30) hC hE dT_livesAfter_30 (by rw [hR]; decide) (by rw [hR]; decide) (by rw [if_pos (by decide)]; exact hf)
    · refine v_aload_n (pc := 15) (i := 0) (r := (some b)) hC dT_livesAfter_15 rfl 0 rfl ?_
      refine v_getI (pc := 16) (r := (some b)) hC dT_livesAfter_16 inT rfl 9 (by decide) q148 (Or.inl rfl) hf (fun x3 hf => ?_)
      refine v_iload_n (pc := 19) (i := 1) (x := a1) hC dT_livesAfter_19 rfl 1 rfl ?_
      refine v_iconst (pc := 20) (v := (1 : Int32)) hC dT_livesAfter_20 (by decide) ?_
      refine v_isub (pc := 21) hC dT_livesAfter_21 ?_
      refine v_icmp_lt (pc := 22) (tgt := 29) hC dT_livesAfter_22 (by decide) hf (fun hf => ?_) (fun hf => ?_)
      · refine v_iconst (pc := 29) (v := (0 : Int32)) hC dT_livesAfter_29 (by decide) ?_
        exact v_zret (pc := 30) hC hE dT_livesAfter_30 (by rw [hR]; decide) (by rw [hR]; decide) (by rw [if_pos (by decide)]; exact hf)
      · refine v_iconst (pc := 25) (v := (1 : Int32)) hC dT_livesAfter_25 (by decide) ?_
        refine v_goto (pc := 26) (tgt := 30) hC dT_livesAfter_26 (by decide) ?_
        exact v_zret (pc := 30) hC hE dT_livesAfter_30 (by rw [hR]; decide) (by rw [hR]; decide) (by rw [if_pos (by decide)]; exact hf)
theorem mT_livesAfter (l : Launch) (G : cG) (b : Nat) (a1 : Int32) (w : cW) (r : Int32) (w' : cW) (hf : fT_livesAfter b a1 w = some (r, w')) : Met l yT_livesAfter (wsM yT_livesAfter prog_5_method_7_code 2 (some .boolean)) rmT_livesAfter (mP G w [va_rf (some b), .int a1]) (mQ mkI G w w' r) (rmT_livesAfter).cells (rmT_livesAfter).slots (Aw w) :=
  met_of (by decide +kernel) rfl (Nat.le_of_ble_eq_true rfl) (fun C hC hR _ _ _ hts hE => tT_livesAfter (okC.tbl hC) hE hR a1 w hf)
set_option maxHeartbeats 4000000 in
set_option maxRecDepth 100000 in
theorem tT_meets {C : xC} {G : cG} {w0 w' : cW} {r : Int32} {b : Nat} (hC : okC C prog_5_method_8_code 2 "ArenaNetwork$Tensor" lw_gd) (hE : xE C (some .boolean) mkI G w0 w' r) (hR : xR C = rmT_meets) (a1 : Nat) (w : cW) (hf : fT_meets b a1 w = some (r, w')) : V C w 0 0 0 [(0, va_rf (some b)), (1, va_rf (some a1))] [] := by
  unfold fT_meets at hf
  refine v_aload_n (pc := 0) (i := 0) (r := (some b)) hC dT_meets_0 rfl 0 rfl ?_
  refine v_getI (pc := 1) (r := (some b)) hC dT_meets_1 inT rfl 8 (by decide) q146 (Or.inl rfl) hf (fun x1 hf => ?_)
  refine v_aload_n (pc := 4) (i := 1) (r := (some a1)) hC dT_meets_4 rfl 1 rfl ?_
  refine v_getI (pc := 5) (r := (some a1)) hC dT_meets_5 inT rfl 9 (by decide) q148 (Or.inl rfl) hf (fun x2 hf => ?_)
  refine v_icmp_gt (pc := 8) (tgt := 26) hC dT_meets_8 (by decide) hf (fun hf => ?_) (fun hf => ?_)
  · refine v_iconst (pc := 26) (v := (0 : Int32)) hC dT_meets_26 (by decide) ?_
    exact v_zret (pc := 27) hC hE dT_meets_27 (by rw [hR]; decide) (by rw [hR]; decide) (by rw [if_pos (by decide)]; exact hf)
  · refine v_aload_n (pc := 11) (i := 1) (r := (some a1)) hC dT_meets_11 rfl 1 rfl ?_
    refine v_getI (pc := 12) (r := (some a1)) hC dT_meets_12 inT rfl 8 (by decide) q146 (Or.inl rfl) hf (fun x3 hf => ?_)
    refine v_aload_n (pc := 15) (i := 0) (r := (some b)) hC dT_meets_15 rfl 0 rfl ?_
    refine v_getI (pc := 16) (r := (some b)) hC dT_meets_16 inT rfl 9 (by decide) q148 (Or.inl rfl) hf (fun x4 hf => ?_)
    refine v_icmp_gt (pc := 19) (tgt := 26) hC dT_meets_19 (by decide) hf (fun hf => ?_) (fun hf => ?_)
    · refine v_iconst (pc := 26) (v := (0 : Int32)) hC dT_meets_26 (by decide) ?_
      exact v_zret (pc := 27) hC hE dT_meets_27 (by rw [hR]; decide) (by rw [hR]; decide) (by rw [if_pos (by decide)]; exact hf)
    · refine v_iconst (pc := 22) (v := (1 : Int32)) hC dT_meets_22 (by decide) ?_
      refine v_goto (pc := 23) (tgt := 27) hC dT_meets_23 (by decide) ?_
      exact v_zret (pc := 27) hC hE dT_meets_27 (by rw [hR]; decide) (by rw [hR]; decide) (by rw [if_pos (by decide)]; exact hf)
theorem mT_meets (l : Launch) (G : cG) (b : Nat) (a1 : Nat) (w : cW) (r : Int32) (w' : cW) (hf : fT_meets b a1 w = some (r, w')) : Met l yT_meets (wsM yT_meets prog_5_method_8_code 2 (some .boolean)) rmT_meets (mP G w [va_rf (some b), va_rf (some a1)]) (mQ mkI G w w' r) (rmT_meets).cells (rmT_meets).slots (Aw w) :=
  met_of (by decide +kernel) rfl (Nat.le_of_ble_eq_true rfl) (fun C hC hR _ _ _ hts hE => tT_meets (okC.tbl hC) hE hR a1 w hf)
set_option maxHeartbeats 4000000 in
set_option maxRecDepth 100000 in
theorem tT_distance {C : xC} {G : cG} {w0 w' : cW} {r : Int32} {b : Nat} (hC : okC C prog_5_method_9_code 2 "ArenaNetwork$Tensor" lw_gd) (hE : xE C (some .int) mkI G w0 w' r) (hR : xR C = rmT_distance) (a1 : Int32) (w : cW) (hf : fT_distance b a1 w = some (r, w')) : V C w 0 0 0 [(0, va_rf (some b)), (1, .int a1)] [] := by
  unfold fT_distance at hf
  refine v_aload_n (pc := 0) (i := 0) (r := (some b)) hC dT_distance_0 rfl 0 rfl ?_
  refine v_getQ (pc := 1) (r := (some b)) hC dT_distance_1 inT rfl 5 (by decide) q138 (Or.inl rfl) hf (fun r1 hf => ?_)
  refine v_iload_n (pc := 4) (i := 1) (x := a1) hC dT_distance_4 rfl 1 rfl ?_
  refine v_iald (pc := 5) hC dT_distance_5 hf (fun x2 hf => ?_)
  refine v_aload_n (pc := 6) (i := 0) (r := (some b)) hC dT_distance_6 rfl 0 rfl ?_
  refine v_getI (pc := 7) (r := (some b)) hC dT_distance_7 inT rfl 3 (by decide) q134 (Or.inl rfl) hf (fun x3 hf => ?_)
  refine v_isub (pc := 10) hC dT_distance_10 ?_
  exact v_iret (pc := 11) hC hE dT_distance_11 (by rw [hR]; decide) (by rw [hR]; decide) hf
theorem mT_distance (l : Launch) (G : cG) (b : Nat) (a1 : Int32) (w : cW) (r : Int32) (w' : cW) (hf : fT_distance b a1 w = some (r, w')) : Met l yT_distance (wsM yT_distance prog_5_method_9_code 2 (some .int)) rmT_distance (mP G w [va_rf (some b), .int a1]) (mQ mkI G w w' r) (rmT_distance).cells (rmT_distance).slots (Aw w) :=
  met_of (by decide +kernel) rfl (Nat.le_of_ble_eq_true rfl) (fun C hC hR _ _ _ hts hE => tT_distance (okC.tbl hC) hE hR a1 w hf)
set_option maxHeartbeats 4000000 in
set_option maxRecDepth 100000 in
theorem tS_init {C : xC} {G : cG} {w0 w' : cW} {r : Unit} {b : Nat} (hC : okC C prog_4_method_1_code 1 "ArenaNetwork$Scale" lw_gd) (hE : xE C none mkV G w0 w' r) (hR : xR C = rmS_init) (hN : (xmeth C).name = "<init>")  (w : cW) (hf : fS_init b w = some (r, w')) : V C w 0 0 0 [(0, va_rf (some b))] [] := by
  unfold fS_init at hf
  refine v_aload_n (pc := 0) (i := 0) (r := (some b)) hC dS_init_0 rfl 0 rfl ?_
  refine v_objInit (pc := 1) (b := b) (rest := []) hC dS_init_1 q73 q22 q23 (by simp only [List.map_cons, List.map_nil, va_cat]; exact Nat.le_of_ble_eq_true rfl) (by rw [hR]; decide) ?_
  refine v_aload_n (pc := 4) (i := 0) (r := (some b)) hC dS_init_4 rfl 0 rfl ?_
  refine v_ldc (pc := 5) (v := (1073741824 : Int32)) hC dS_init_5 q74 ?_
  refine v_putI (pc := 7) (r := (some b)) hC dS_init_7 inS rfl tyS tkS nmS 0 (by decide) q75 (Or.inl rfl) rfl (tkS 0 (by decide)) hf (fun w1 hf => ?_)
  refine v_aload_n (pc := 10) (i := 0) (r := (some b)) hC dS_init_10 rfl 0 rfl ?_
  refine v_iconst (pc := 11) (v := (0 : Int32)) hC dS_init_11 (by decide) ?_
  refine v_putI (pc := 12) (r := (some b)) hC dS_init_12 inS rfl tyS tkS nmS 1 (by decide) q77 (Or.inl rfl) rfl (tkS 1 (by decide)) hf (fun w2 hf => ?_)
  exact v_vret (pc := 15) hC hE dS_init_15 (by rw [hR]; decide) (by rw [hR]; decide) hf
theorem mS_init (l : Launch) (G : cG) (b : Nat)  (w : cW) (r : Unit) (w' : cW) (hf : fS_init b w = some (r, w')) : Met l yS_init (wsM yS_init prog_4_method_1_code 1 none) rmS_init (mP G w [va_rf (some b)]) (mQ mkV G w w' r) (rmS_init).cells (rmS_init).slots (Aw w) :=
  met_of (by decide +kernel) rfl (Nat.le_of_ble_eq_true rfl) (fun C hC hR _ _ hN hts hE => tS_init (okC.tbl hC) hE hR hN  w hf)
set_option maxHeartbeats 4000000 in
set_option maxRecDepth 100000 in
theorem tS_applied {C : xC} {G : cG} {w0 w' : cW} {r : Int32} {b : Nat} (hC : okC C prog_4_method_2_code 5 "ArenaNetwork$Scale" lw_gd) (hE : xE C (some .int) mkI G w0 w' r) (hR : xR C = rmS_applied) (a1 : Int64) (w : cW) (hf : fS_applied b a1 w = some (r, w')) : V C w 0 0 0 [(0, va_rf (some b)), (1, .long a1)] [] := by
  unfold fS_applied at hf
  refine v_lload_n (pc := 0) (i := 1) (x := a1) hC dS_applied_0 rfl 1 rfl ?_
  refine v_aload_n (pc := 1) (i := 0) (r := (some b)) hC dS_applied_1 rfl 0 rfl ?_
  refine v_getI (pc := 2) (r := (some b)) hC dS_applied_2 inS rfl 0 (by decide) q75 (Or.inl rfl) hf (fun x1 hf => ?_)
  refine v_i2l (pc := 5) hC dS_applied_5 ?_
  refine v_lmul (pc := 6) hC dS_applied_6 ?_
  refine v_ldc2 (pc := 7) (v := (2147483648 : Int64)) hC dS_applied_7 q402 ?_
  refine v_callSN (pc := 10) (As := [.long (a1 * x1.toInt64), .long (2147483648 : Int64)]) (rest := []) (k' := 0) (n' := 0) (st1 := (fun yq => [.long yq])) hC dS_applied_10 x403 q404 q1 q405 ykN_rounded rfl (fun rq wq hq => mN_rounded _ _ (a1 * x1.toInt64) (2147483648 : Int64) _ rq wq hq) (by rw [hR]; decide) (by simp only [List.map_cons, List.map_nil, va_cat]; exact Nat.le_of_ble_eq_true rfl) (by decide) (by rw [hR]; decide) hf rfl (fun _ => rfl) (fun j2 w3 hf => ?_)
  refine v_lstore_n (pc := 13) (i := 3) (x := j2) hC dS_applied_13 rfl (by decide) [(3, .long j2), (0, va_rf (some b)), (1, .long a1)] rfl ?_
  refine v_lload_n (pc := 14) (i := 3) (x := j2) hC dS_applied_14 rfl 0 rfl ?_
  refine v_lconst (pc := 15) (v := (1 : Int64)) hC dS_applied_15 (by decide) ?_
  refine v_aload_n (pc := 16) (i := 0) (r := (some b)) hC dS_applied_16 rfl 1 rfl ?_
  refine v_getI (pc := 17) (r := (some b)) hC dS_applied_17 inS rfl 1 (by decide) q77 (Or.inl rfl) hf (fun x4 hf => ?_)
  refine v_lshl (pc := 20) hC dS_applied_20 ?_
  refine v_callSN (pc := 21) (As := [.long j2, .long ((1 : Int64) <<< (x4.toInt64 &&& 63))]) (rest := []) (k' := 0) (n' := 0) (st1 := (fun yq => [.long yq])) hC dS_applied_21 x403 q404 q1 q405 ykN_rounded rfl (fun rq wq hq => mN_rounded _ _ j2 ((1 : Int64) <<< (x4.toInt64 &&& 63)) _ rq wq hq) (by rw [hR]; decide) (by simp only [List.map_cons, List.map_nil, va_cat]; exact Nat.le_of_ble_eq_true rfl) (by decide) (by rw [hR]; decide) hf rfl (fun _ => rfl) (fun j5 w6 hf => ?_)
  refine v_l2i (pc := 24) hC dS_applied_24 ?_
  exact v_iret (pc := 25) hC hE dS_applied_25 (by rw [hR]; decide) (by rw [hR]; decide) hf
theorem mS_applied (l : Launch) (G : cG) (b : Nat) (a1 : Int64) (w : cW) (r : Int32) (w' : cW) (hf : fS_applied b a1 w = some (r, w')) : Met l yS_applied (wsM yS_applied prog_4_method_2_code 5 (some .int)) rmS_applied (mP G w [va_rf (some b), .long a1]) (mQ mkI G w w' r) (rmS_applied).cells (rmS_applied).slots (Aw w) :=
  met_of (by decide +kernel) rfl (Nat.le_of_ble_eq_true rfl) (fun C hC hR _ _ _ hts hE => tS_applied (okC.tbl hC) hE hR a1 w hf)
set_option maxHeartbeats 4000000 in
set_option maxRecDepth 100000 in
theorem tO_init {C : xC} {G : cG} {w0 w' : cW} {r : Unit} {b : Nat} (hC : okC C prog_3_method_1_code 6 "ArenaNetwork$Operator" lw_gd) (hE : xE C none mkV G w0 w' r) (hR : xR C = rmO_init) (hN : (xmeth C).name = "<init>") (a1 : Int32) (a2 : Nat) (a3 : Nat) (a4 : Nat) (a5 : Int32) (w : cW) (hf : fO_init b a1 a2 a3 a4 a5 w = some (r, w')) : V C w 0 0 0 [(0, va_rf (some b)), (1, .int a1), (2, va_rf (some a2)), (3, va_rf (some a3)), (4, va_rf (some a4)), (5, .int a5)] [] := by
  unfold fO_init at hf
  refine v_aload_n (pc := 0) (i := 0) (r := (some b)) hC dO_init_0 rfl 0 rfl ?_
  refine v_objInit (pc := 1) (b := b) (rest := []) hC dO_init_1 q273 q22 q23 (by simp only [List.map_cons, List.map_nil, va_cat]; exact Nat.le_of_ble_eq_true rfl) (by rw [hR]; decide) ?_
  refine v_aload_n (pc := 4) (i := 0) (r := (some b)) hC dO_init_4 rfl 0 rfl ?_
  refine v_iload_n (pc := 5) (i := 1) (x := a1) hC dO_init_5 rfl 1 rfl ?_
  refine v_putCI (pc := 6) (r := (some b)) hC dO_init_6 inO rfl tyO tkO nmO 0 (by decide) q274 rfl hN rfl (tkO 0 (by decide)) hf (fun w1 hf => ?_)
  refine v_aload_n (pc := 9) (i := 0) (r := (some b)) hC dO_init_9 rfl 0 rfl ?_
  refine v_aload_n (pc := 10) (i := 2) (r := (some a2)) hC dO_init_10 rfl 2 rfl ?_
  refine v_putCQ (pc := 11) (r := (some b)) hC dO_init_11 inO rfl tyO tkO nmO 1 (by decide) q275 rfl hN rfl (tkO 1 (by decide)) (Or.inl ⟨_, rfl⟩) hf (fun w2 hf => ?_)
  refine v_aload_n (pc := 14) (i := 0) (r := (some b)) hC dO_init_14 rfl 0 rfl ?_
  refine v_aload_n (pc := 15) (i := 3) (r := (some a3)) hC dO_init_15 rfl 3 rfl ?_
  refine v_putCQ (pc := 16) (r := (some b)) hC dO_init_16 inO rfl tyO tkO nmO 2 (by decide) q277 rfl hN rfl (tkO 2 (by decide)) (Or.inl ⟨_, rfl⟩) hf (fun w3 hf => ?_)
  refine v_aload_n (pc := 19) (i := 0) (r := (some b)) hC dO_init_19 rfl 0 rfl ?_
  refine v_aload (pc := 20) (i := 4) (r := (some a4)) hC dO_init_20 4 rfl ?_
  refine v_putCQ (pc := 22) (r := (some b)) hC dO_init_22 inO rfl tyO tkO nmO 3 (by decide) q279 rfl hN rfl (tkO 3 (by decide)) (Or.inl ⟨_, rfl⟩) hf (fun w4 hf => ?_)
  refine v_aload_n (pc := 25) (i := 0) (r := (some b)) hC dO_init_25 rfl 0 rfl ?_
  refine v_iload (pc := 26) (i := 5) (x := a5) hC dO_init_26 5 rfl ?_
  refine v_putCI (pc := 28) (r := (some b)) hC dO_init_28 inO rfl tyO tkO nmO 4 (by decide) q281 rfl hN rfl (tkO 4 (by decide)) hf (fun w5 hf => ?_)
  exact v_vret (pc := 31) hC hE dO_init_31 (by rw [hR]; decide) (by rw [hR]; decide) hf
theorem mO_init (l : Launch) (G : cG) (b : Nat) (a1 : Int32) (a2 : Nat) (a3 : Nat) (a4 : Nat) (a5 : Int32) (w : cW) (r : Unit) (w' : cW) (hf : fO_init b a1 a2 a3 a4 a5 w = some (r, w')) : Met l yO_init (wsM yO_init prog_3_method_1_code 6 none) rmO_init (mP G w [va_rf (some b), .int a1, va_rf (some a2), va_rf (some a3), va_rf (some a4), .int a5]) (mQ mkV G w w' r) (rmO_init).cells (rmO_init).slots (Aw w) :=
  met_of (by decide +kernel) rfl (Nat.le_of_ble_eq_true rfl) (fun C hC hR _ _ hN hts hE => tO_init (okC.tbl hC) hE hR hN a1 a2 a3 a4 a5 w hf)
set_option maxHeartbeats 4000000 in
set_option maxRecDepth 100000 in
theorem tO_fits {C : xC} {G : cG} {w0 w' : cW} {r : Int32} {b : Nat} (hC : okC C prog_3_method_2_code 1 "ArenaNetwork$Operator" lw_gd) (hE : xE C (some .boolean) mkI G w0 w' r) (hR : xR C = rmO_fits)  (w : cW) (hf : fO_fits b w = some (r, w')) : V C w 0 0 0 [(0, va_rf (some b))] [] := by
  unfold fO_fits at hf
  refine v_aload_n (pc := 0) (i := 0) (r := (some b)) hC dO_fits_0 rfl 0 rfl ?_
  refine v_getI (pc := 1) (r := (some b)) hC dO_fits_1 inO rfl 0 (by decide) q274 (Or.inl rfl) hf (fun x1 hf => ?_)
  by_cases e4_0 : x1 = (0 : Int32)
  · rw [if_pos e4_0] at hf
    refine v_tabIn (tgt := 52) (off := 48) hC dO_fits_4 (by rw [e4_0]; decide) (by rw [e4_0]; decide) (by rw [e4_0]; decide) (by decide) ?_
    refine v_aload_n (pc := 52) (i := 0) (r := (some b)) hC dO_fits_52 rfl 0 rfl ?_
    refine v_getQ (pc := 53) (r := (some b)) hC dO_fits_53 inO rfl 2 (by decide) q277 (Or.inl rfl) hf (fun r2 hf => ?_)
    refine v_getI (pc := 56) (r := r2) hC dO_fits_56 inT rfl 1 (by decide) q129 (Or.inl rfl) hf (fun x3 hf => ?_)
    refine v_if_ne (pc := 59) (tgt := 91) hC dO_fits_59 (by decide) hf (fun hf => ?_) (fun hf => ?_)
    · refine v_iconst (pc := 91) (v := (0 : Int32)) hC dO_fits_91 (by decide) ?_
      exact v_zret (pc := 92) hC hE dO_fits_92 (by rw [hR]; decide) (by rw [hR]; decide) (by rw [if_pos (by decide)]; exact hf)
    · refine v_aload_n (pc := 62) (i := 0) (r := (some b)) hC dO_fits_62 rfl 0 rfl ?_
      refine v_getQ (pc := 63) (r := (some b)) hC dO_fits_63 inO rfl 2 (by decide) q277 (Or.inl rfl) hf (fun r4 hf => ?_)
      refine v_getI (pc := 66) (r := r4) hC dO_fits_66 inT rfl 2 (by decide) q133 (Or.inl rfl) hf (fun x5 hf => ?_)
      refine v_aload_n (pc := 69) (i := 0) (r := (some b)) hC dO_fits_69 rfl 0 rfl ?_
      refine v_getQ (pc := 70) (r := (some b)) hC dO_fits_70 inO rfl 1 (by decide) q275 (Or.inl rfl) hf (fun r6 hf => ?_)
      refine v_getI (pc := 73) (r := r6) hC dO_fits_73 inT rfl 2 (by decide) q133 (Or.inl rfl) hf (fun x7 hf => ?_)
      refine v_aload_n (pc := 76) (i := 0) (r := (some b)) hC dO_fits_76 rfl 0 rfl ?_
      refine v_getQ (pc := 77) (r := (some b)) hC dO_fits_77 inO rfl 3 (by decide) q279 (Or.inl rfl) hf (fun r8 hf => ?_)
      refine v_getI (pc := 80) (r := r8) hC dO_fits_80 inT rfl 2 (by decide) q133 (Or.inl rfl) hf (fun x9 hf => ?_)
      refine v_imul (pc := 83) hC dO_fits_83 ?_
      refine v_icmp_ne (pc := 84) (tgt := 91) hC dO_fits_84 (by decide) hf (fun hf => ?_) (fun hf => ?_)
      · refine v_iconst (pc := 91) (v := (0 : Int32)) hC dO_fits_91 (by decide) ?_
        exact v_zret (pc := 92) hC hE dO_fits_92 (by rw [hR]; decide) (by rw [hR]; decide) (by rw [if_pos (by decide)]; exact hf)
      · refine v_iconst (pc := 87) (v := (1 : Int32)) hC dO_fits_87 (by decide) ?_
        refine v_goto (pc := 88) (tgt := 92) hC dO_fits_88 (by decide) ?_
        exact v_zret (pc := 92) hC hE dO_fits_92 (by rw [hR]; decide) (by rw [hR]; decide) (by rw [if_pos (by decide)]; exact hf)
  rw [if_neg e4_0] at hf
  by_cases e4_1 : x1 = (1 : Int32)
  · rw [if_pos e4_1] at hf
    refine v_tabIn (tgt := 93) (off := 89) hC dO_fits_4 (by rw [e4_1]; decide) (by rw [e4_1]; decide) (by rw [e4_1]; decide) (by decide) ?_
    refine v_aload_n (pc := 93) (i := 0) (r := (some b)) hC dO_fits_93 rfl 0 rfl ?_
    refine v_getQ (pc := 94) (r := (some b)) hC dO_fits_94 inO rfl 1 (by decide) q275 (Or.inl rfl) hf (fun r10 hf => ?_)
    refine v_getI (pc := 97) (r := r10) hC dO_fits_97 inT rfl 2 (by decide) q133 (Or.inl rfl) hf (fun x11 hf => ?_)
    refine v_aload_n (pc := 100) (i := 0) (r := (some b)) hC dO_fits_100 rfl 0 rfl ?_
    refine v_getQ (pc := 101) (r := (some b)) hC dO_fits_101 inO rfl 3 (by decide) q279 (Or.inl rfl) hf (fun r12 hf => ?_)
    refine v_getI (pc := 104) (r := r12) hC dO_fits_104 inT rfl 2 (by decide) q133 (Or.inl rfl) hf (fun x13 hf => ?_)
    refine v_icmp_ne (pc := 107) (tgt := 131) hC dO_fits_107 (by decide) hf (fun hf => ?_) (fun hf => ?_)
    · refine v_iconst (pc := 131) (v := (0 : Int32)) hC dO_fits_131 (by decide) ?_
      exact v_zret (pc := 132) hC hE dO_fits_132 (by rw [hR]; decide) (by rw [hR]; decide) (by rw [if_pos (by decide)]; exact hf)
    · refine v_aload_n (pc := 110) (i := 0) (r := (some b)) hC dO_fits_110 rfl 0 rfl ?_
      refine v_getQ (pc := 111) (r := (some b)) hC dO_fits_111 inO rfl 2 (by decide) q277 (Or.inl rfl) hf (fun r14 hf => ?_)
      refine v_getI (pc := 114) (r := r14) hC dO_fits_114 inT rfl 2 (by decide) q133 (Or.inl rfl) hf (fun x15 hf => ?_)
      refine v_aload_n (pc := 117) (i := 0) (r := (some b)) hC dO_fits_117 rfl 0 rfl ?_
      refine v_getQ (pc := 118) (r := (some b)) hC dO_fits_118 inO rfl 3 (by decide) q279 (Or.inl rfl) hf (fun r16 hf => ?_)
      refine v_getI (pc := 121) (r := r16) hC dO_fits_121 inT rfl 2 (by decide) q133 (Or.inl rfl) hf (fun x17 hf => ?_)
      refine v_icmp_ne (pc := 124) (tgt := 131) hC dO_fits_124 (by decide) hf (fun hf => ?_) (fun hf => ?_)
      · refine v_iconst (pc := 131) (v := (0 : Int32)) hC dO_fits_131 (by decide) ?_
        exact v_zret (pc := 132) hC hE dO_fits_132 (by rw [hR]; decide) (by rw [hR]; decide) (by rw [if_pos (by decide)]; exact hf)
      · refine v_iconst (pc := 127) (v := (1 : Int32)) hC dO_fits_127 (by decide) ?_
        refine v_goto (pc := 128) (tgt := 132) hC dO_fits_128 (by decide) ?_
        exact v_zret (pc := 132) hC hE dO_fits_132 (by rw [hR]; decide) (by rw [hR]; decide) (by rw [if_pos (by decide)]; exact hf)
  rw [if_neg e4_1] at hf
  by_cases e4_2 : x1 = (2 : Int32)
  · rw [if_pos e4_2] at hf
    refine v_tabIn (tgt := 93) (off := 89) hC dO_fits_4 (by rw [e4_2]; decide) (by rw [e4_2]; decide) (by rw [e4_2]; decide) (by decide) ?_
    refine v_aload_n (pc := 93) (i := 0) (r := (some b)) hC dO_fits_93 rfl 0 rfl ?_
    refine v_getQ (pc := 94) (r := (some b)) hC dO_fits_94 inO rfl 1 (by decide) q275 (Or.inl rfl) hf (fun r18 hf => ?_)
    refine v_getI (pc := 97) (r := r18) hC dO_fits_97 inT rfl 2 (by decide) q133 (Or.inl rfl) hf (fun x19 hf => ?_)
    refine v_aload_n (pc := 100) (i := 0) (r := (some b)) hC dO_fits_100 rfl 0 rfl ?_
    refine v_getQ (pc := 101) (r := (some b)) hC dO_fits_101 inO rfl 3 (by decide) q279 (Or.inl rfl) hf (fun r20 hf => ?_)
    refine v_getI (pc := 104) (r := r20) hC dO_fits_104 inT rfl 2 (by decide) q133 (Or.inl rfl) hf (fun x21 hf => ?_)
    refine v_icmp_ne (pc := 107) (tgt := 131) hC dO_fits_107 (by decide) hf (fun hf => ?_) (fun hf => ?_)
    · refine v_iconst (pc := 131) (v := (0 : Int32)) hC dO_fits_131 (by decide) ?_
      exact v_zret (pc := 132) hC hE dO_fits_132 (by rw [hR]; decide) (by rw [hR]; decide) (by rw [if_pos (by decide)]; exact hf)
    · refine v_aload_n (pc := 110) (i := 0) (r := (some b)) hC dO_fits_110 rfl 0 rfl ?_
      refine v_getQ (pc := 111) (r := (some b)) hC dO_fits_111 inO rfl 2 (by decide) q277 (Or.inl rfl) hf (fun r22 hf => ?_)
      refine v_getI (pc := 114) (r := r22) hC dO_fits_114 inT rfl 2 (by decide) q133 (Or.inl rfl) hf (fun x23 hf => ?_)
      refine v_aload_n (pc := 117) (i := 0) (r := (some b)) hC dO_fits_117 rfl 0 rfl ?_
      refine v_getQ (pc := 118) (r := (some b)) hC dO_fits_118 inO rfl 3 (by decide) q279 (Or.inl rfl) hf (fun r24 hf => ?_)
      refine v_getI (pc := 121) (r := r24) hC dO_fits_121 inT rfl 2 (by decide) q133 (Or.inl rfl) hf (fun x25 hf => ?_)
      refine v_icmp_ne (pc := 124) (tgt := 131) hC dO_fits_124 (by decide) hf (fun hf => ?_) (fun hf => ?_)
      · refine v_iconst (pc := 131) (v := (0 : Int32)) hC dO_fits_131 (by decide) ?_
        exact v_zret (pc := 132) hC hE dO_fits_132 (by rw [hR]; decide) (by rw [hR]; decide) (by rw [if_pos (by decide)]; exact hf)
      · refine v_iconst (pc := 127) (v := (1 : Int32)) hC dO_fits_127 (by decide) ?_
        refine v_goto (pc := 128) (tgt := 132) hC dO_fits_128 (by decide) ?_
        exact v_zret (pc := 132) hC hE dO_fits_132 (by rw [hR]; decide) (by rw [hR]; decide) (by rw [if_pos (by decide)]; exact hf)
  rw [if_neg e4_2] at hf
  by_cases e4_3 : x1 = (3 : Int32)
  · rw [if_pos e4_3] at hf
    refine v_tabIn (tgt := 133) (off := 129) hC dO_fits_4 (by rw [e4_3]; decide) (by rw [e4_3]; decide) (by rw [e4_3]; decide) (by decide) ?_
    refine v_aload_n (pc := 133) (i := 0) (r := (some b)) hC dO_fits_133 rfl 0 rfl ?_
    refine v_getQ (pc := 134) (r := (some b)) hC dO_fits_134 inO rfl 2 (by decide) q277 (Or.inl rfl) hf (fun r26 hf => ?_)
    refine v_aload_n (pc := 137) (i := 0) (r := (some b)) hC dO_fits_137 rfl 0 rfl ?_
    refine v_getQ (pc := 138) (r := (some b)) hC dO_fits_138 inO rfl 1 (by decide) q275 (Or.inl rfl) hf (fun r27 hf => ?_)
    refine v_acmp_ne (pc := 141) (tgt := 199) hC dO_fits_141 (by decide) hf (fun hf => ?_) (fun hf => ?_)
    · refine v_iconst (pc := 199) (v := (0 : Int32)) hC dO_fits_199 (by decide) ?_
      exact v_zret (pc := 200) hC hE dO_fits_200 (by rw [hR]; decide) (by rw [hR]; decide) (by rw [if_pos (by decide)]; exact hf)
    · refine v_aload_n (pc := 144) (i := 0) (r := (some b)) hC dO_fits_144 rfl 0 rfl ?_
      refine v_getI (pc := 145) (r := (some b)) hC dO_fits_145 inO rfl 4 (by decide) q281 (Or.inl rfl) hf (fun x28 hf => ?_)
      refine v_iconst (pc := 148) (v := (2 : Int32)) hC dO_fits_148 (by decide) ?_
      refine v_iconst (pc := 149) (v := (4 : Int32)) hC dO_fits_149 (by decide) ?_
      refine v_callSN (pc := 150) (As := [.int x28, .int (2 : Int32), .int (4 : Int32)]) (rest := []) (k' := 0) (n' := 0) (st1 := (fun yq => [.int yq])) hC dO_fits_150 x318 q108 q1 q109 ykN_isWithin rfl (fun rq wq hq => mN_isWithin _ _ x28 (2 : Int32) (4 : Int32) _ rq wq hq) (by rw [hR]; decide) (by simp only [List.map_cons, List.map_nil, va_cat]; exact Nat.le_of_ble_eq_true rfl) (by decide) (by rw [hR]; decide) hf rfl (fun _ => rfl) (fun x29 w30 hf => ?_)
      refine v_if_eq (pc := 153) (tgt := 199) hC dO_fits_153 (by decide) hf (fun hf => ?_) (fun hf => ?_)
      · refine v_iconst (pc := 199) (v := (0 : Int32)) hC dO_fits_199 (by decide) ?_
        exact v_zret (pc := 200) hC hE dO_fits_200 (by rw [hR]; decide) (by rw [hR]; decide) (by rw [if_pos (by decide)]; exact hf)
      · refine v_aload_n (pc := 156) (i := 0) (r := (some b)) hC dO_fits_156 rfl 0 rfl ?_
        refine v_getQ (pc := 157) (r := (some b)) hC dO_fits_157 inO rfl 1 (by decide) q275 (Or.inl rfl) hf (fun r31 hf => ?_)
        refine v_getI (pc := 160) (r := r31) hC dO_fits_160 inT rfl 2 (by decide) q133 (Or.inl rfl) hf (fun x32 hf => ?_)
        refine v_aload_n (pc := 163) (i := 0) (r := (some b)) hC dO_fits_163 rfl 0 rfl ?_
        refine v_getQ (pc := 164) (r := (some b)) hC dO_fits_164 inO rfl 3 (by decide) q279 (Or.inl rfl) hf (fun r33 hf => ?_)
        refine v_getI (pc := 167) (r := r33) hC dO_fits_167 inT rfl 2 (by decide) q133 (Or.inl rfl) hf (fun x34 hf => ?_)
        refine v_aload_n (pc := 170) (i := 0) (r := (some b)) hC dO_fits_170 rfl 0 rfl ?_
        refine v_getI (pc := 171) (r := (some b)) hC dO_fits_171 inO rfl 4 (by decide) q281 (Or.inl rfl) hf (fun x35 hf => ?_)
        refine v_imul (pc := 174) hC dO_fits_174 ?_
        refine v_icmp_ne (pc := 175) (tgt := 199) hC dO_fits_175 (by decide) hf (fun hf => ?_) (fun hf => ?_)
        · refine v_iconst (pc := 199) (v := (0 : Int32)) hC dO_fits_199 (by decide) ?_
          exact v_zret (pc := 200) hC hE dO_fits_200 (by rw [hR]; decide) (by rw [hR]; decide) (by rw [if_pos (by decide)]; exact hf)
        · refine v_aload_n (pc := 178) (i := 0) (r := (some b)) hC dO_fits_178 rfl 0 rfl ?_
          refine v_getQ (pc := 179) (r := (some b)) hC dO_fits_179 inO rfl 1 (by decide) q275 (Or.inl rfl) hf (fun r36 hf => ?_)
          refine v_getI (pc := 182) (r := r36) hC dO_fits_182 inT rfl 3 (by decide) q135 (Or.inl rfl) hf (fun x37 hf => ?_)
          refine v_aload_n (pc := 185) (i := 0) (r := (some b)) hC dO_fits_185 rfl 0 rfl ?_
          refine v_getQ (pc := 186) (r := (some b)) hC dO_fits_186 inO rfl 3 (by decide) q279 (Or.inl rfl) hf (fun r38 hf => ?_)
          refine v_getI (pc := 189) (r := r38) hC dO_fits_189 inT rfl 3 (by decide) q135 (Or.inl rfl) hf (fun x39 hf => ?_)
          refine v_icmp_ne (pc := 192) (tgt := 199) hC dO_fits_192 (by decide) hf (fun hf => ?_) (fun hf => ?_)
          · refine v_iconst (pc := 199) (v := (0 : Int32)) hC dO_fits_199 (by decide) ?_
            exact v_zret (pc := 200) hC hE dO_fits_200 (by rw [hR]; decide) (by rw [hR]; decide) (by rw [if_pos (by decide)]; exact hf)
          · refine v_iconst (pc := 195) (v := (1 : Int32)) hC dO_fits_195 (by decide) ?_
            refine v_goto (pc := 196) (tgt := 200) hC dO_fits_196 (by decide) ?_
            exact v_zret (pc := 200) hC hE dO_fits_200 (by rw [hR]; decide) (by rw [hR]; decide) (by rw [if_pos (by decide)]; exact hf)
  rw [if_neg e4_3] at hf
  by_cases e4_4 : x1 = (4 : Int32)
  · rw [if_pos e4_4] at hf
    refine v_tabIn (tgt := 133) (off := 129) hC dO_fits_4 (by rw [e4_4]; decide) (by rw [e4_4]; decide) (by rw [e4_4]; decide) (by decide) ?_
    refine v_aload_n (pc := 133) (i := 0) (r := (some b)) hC dO_fits_133 rfl 0 rfl ?_
    refine v_getQ (pc := 134) (r := (some b)) hC dO_fits_134 inO rfl 2 (by decide) q277 (Or.inl rfl) hf (fun r40 hf => ?_)
    refine v_aload_n (pc := 137) (i := 0) (r := (some b)) hC dO_fits_137 rfl 0 rfl ?_
    refine v_getQ (pc := 138) (r := (some b)) hC dO_fits_138 inO rfl 1 (by decide) q275 (Or.inl rfl) hf (fun r41 hf => ?_)
    refine v_acmp_ne (pc := 141) (tgt := 199) hC dO_fits_141 (by decide) hf (fun hf => ?_) (fun hf => ?_)
    · refine v_iconst (pc := 199) (v := (0 : Int32)) hC dO_fits_199 (by decide) ?_
      exact v_zret (pc := 200) hC hE dO_fits_200 (by rw [hR]; decide) (by rw [hR]; decide) (by rw [if_pos (by decide)]; exact hf)
    · refine v_aload_n (pc := 144) (i := 0) (r := (some b)) hC dO_fits_144 rfl 0 rfl ?_
      refine v_getI (pc := 145) (r := (some b)) hC dO_fits_145 inO rfl 4 (by decide) q281 (Or.inl rfl) hf (fun x42 hf => ?_)
      refine v_iconst (pc := 148) (v := (2 : Int32)) hC dO_fits_148 (by decide) ?_
      refine v_iconst (pc := 149) (v := (4 : Int32)) hC dO_fits_149 (by decide) ?_
      refine v_callSN (pc := 150) (As := [.int x42, .int (2 : Int32), .int (4 : Int32)]) (rest := []) (k' := 0) (n' := 0) (st1 := (fun yq => [.int yq])) hC dO_fits_150 x318 q108 q1 q109 ykN_isWithin rfl (fun rq wq hq => mN_isWithin _ _ x42 (2 : Int32) (4 : Int32) _ rq wq hq) (by rw [hR]; decide) (by simp only [List.map_cons, List.map_nil, va_cat]; exact Nat.le_of_ble_eq_true rfl) (by decide) (by rw [hR]; decide) hf rfl (fun _ => rfl) (fun x43 w44 hf => ?_)
      refine v_if_eq (pc := 153) (tgt := 199) hC dO_fits_153 (by decide) hf (fun hf => ?_) (fun hf => ?_)
      · refine v_iconst (pc := 199) (v := (0 : Int32)) hC dO_fits_199 (by decide) ?_
        exact v_zret (pc := 200) hC hE dO_fits_200 (by rw [hR]; decide) (by rw [hR]; decide) (by rw [if_pos (by decide)]; exact hf)
      · refine v_aload_n (pc := 156) (i := 0) (r := (some b)) hC dO_fits_156 rfl 0 rfl ?_
        refine v_getQ (pc := 157) (r := (some b)) hC dO_fits_157 inO rfl 1 (by decide) q275 (Or.inl rfl) hf (fun r45 hf => ?_)
        refine v_getI (pc := 160) (r := r45) hC dO_fits_160 inT rfl 2 (by decide) q133 (Or.inl rfl) hf (fun x46 hf => ?_)
        refine v_aload_n (pc := 163) (i := 0) (r := (some b)) hC dO_fits_163 rfl 0 rfl ?_
        refine v_getQ (pc := 164) (r := (some b)) hC dO_fits_164 inO rfl 3 (by decide) q279 (Or.inl rfl) hf (fun r47 hf => ?_)
        refine v_getI (pc := 167) (r := r47) hC dO_fits_167 inT rfl 2 (by decide) q133 (Or.inl rfl) hf (fun x48 hf => ?_)
        refine v_aload_n (pc := 170) (i := 0) (r := (some b)) hC dO_fits_170 rfl 0 rfl ?_
        refine v_getI (pc := 171) (r := (some b)) hC dO_fits_171 inO rfl 4 (by decide) q281 (Or.inl rfl) hf (fun x49 hf => ?_)
        refine v_imul (pc := 174) hC dO_fits_174 ?_
        refine v_icmp_ne (pc := 175) (tgt := 199) hC dO_fits_175 (by decide) hf (fun hf => ?_) (fun hf => ?_)
        · refine v_iconst (pc := 199) (v := (0 : Int32)) hC dO_fits_199 (by decide) ?_
          exact v_zret (pc := 200) hC hE dO_fits_200 (by rw [hR]; decide) (by rw [hR]; decide) (by rw [if_pos (by decide)]; exact hf)
        · refine v_aload_n (pc := 178) (i := 0) (r := (some b)) hC dO_fits_178 rfl 0 rfl ?_
          refine v_getQ (pc := 179) (r := (some b)) hC dO_fits_179 inO rfl 1 (by decide) q275 (Or.inl rfl) hf (fun r50 hf => ?_)
          refine v_getI (pc := 182) (r := r50) hC dO_fits_182 inT rfl 3 (by decide) q135 (Or.inl rfl) hf (fun x51 hf => ?_)
          refine v_aload_n (pc := 185) (i := 0) (r := (some b)) hC dO_fits_185 rfl 0 rfl ?_
          refine v_getQ (pc := 186) (r := (some b)) hC dO_fits_186 inO rfl 3 (by decide) q279 (Or.inl rfl) hf (fun r52 hf => ?_)
          refine v_getI (pc := 189) (r := r52) hC dO_fits_189 inT rfl 3 (by decide) q135 (Or.inl rfl) hf (fun x53 hf => ?_)
          refine v_icmp_ne (pc := 192) (tgt := 199) hC dO_fits_192 (by decide) hf (fun hf => ?_) (fun hf => ?_)
          · refine v_iconst (pc := 199) (v := (0 : Int32)) hC dO_fits_199 (by decide) ?_
            exact v_zret (pc := 200) hC hE dO_fits_200 (by rw [hR]; decide) (by rw [hR]; decide) (by rw [if_pos (by decide)]; exact hf)
          · refine v_iconst (pc := 195) (v := (1 : Int32)) hC dO_fits_195 (by decide) ?_
            refine v_goto (pc := 196) (tgt := 200) hC dO_fits_196 (by decide) ?_
            exact v_zret (pc := 200) hC hE dO_fits_200 (by rw [hR]; decide) (by rw [hR]; decide) (by rw [if_pos (by decide)]; exact hf)
  rw [if_neg e4_4] at hf
  by_cases e4_5 : x1 = (5 : Int32)
  · rw [if_pos e4_5] at hf
    refine v_tabIn (tgt := 201) (off := 197) hC dO_fits_4 (by rw [e4_5]; decide) (by rw [e4_5]; decide) (by rw [e4_5]; decide) (by decide) ?_
    refine v_aload_n (pc := 201) (i := 0) (r := (some b)) hC dO_fits_201 rfl 0 rfl ?_
    refine v_getI (pc := 202) (r := (some b)) hC dO_fits_202 inO rfl 4 (by decide) q281 (Or.inl rfl) hf (fun x54 hf => ?_)
    refine v_if_ne (pc := 205) (tgt := 268) hC dO_fits_205 (by decide) hf (fun hf => ?_) (fun hf => ?_)
    · refine v_iconst (pc := 268) (v := (0 : Int32)) hC dO_fits_268 (by decide) ?_
      exact v_zret (pc := 269) hC hE dO_fits_269 (by rw [hR]; decide) (by rw [hR]; decide) (by rw [if_pos (by decide)]; exact hf)
    · refine v_aload_n (pc := 208) (i := 0) (r := (some b)) hC dO_fits_208 rfl 0 rfl ?_
      refine v_getQ (pc := 209) (r := (some b)) hC dO_fits_209 inO rfl 2 (by decide) q277 (Or.inl rfl) hf (fun r55 hf => ?_)
      refine v_getI (pc := 212) (r := r55) hC dO_fits_212 inT rfl 1 (by decide) q129 (Or.inl rfl) hf (fun x56 hf => ?_)
      refine v_if_ne (pc := 215) (tgt := 268) hC dO_fits_215 (by decide) hf (fun hf => ?_) (fun hf => ?_)
      · refine v_iconst (pc := 268) (v := (0 : Int32)) hC dO_fits_268 (by decide) ?_
        exact v_zret (pc := 269) hC hE dO_fits_269 (by rw [hR]; decide) (by rw [hR]; decide) (by rw [if_pos (by decide)]; exact hf)
      · refine v_aload_n (pc := 218) (i := 0) (r := (some b)) hC dO_fits_218 rfl 0 rfl ?_
        refine v_getQ (pc := 219) (r := (some b)) hC dO_fits_219 inO rfl 2 (by decide) q277 (Or.inl rfl) hf (fun r57 hf => ?_)
        refine v_getI (pc := 222) (r := r57) hC dO_fits_222 inT rfl 2 (by decide) q133 (Or.inl rfl) hf (fun x58 hf => ?_)
        refine v_bipush (pc := 225) (v := (16 : Int32)) hC dO_fits_225 (by decide) ?_
        refine v_icmp_ne (pc := 227) (tgt := 268) hC dO_fits_227 (by decide) hf (fun hf => ?_) (fun hf => ?_)
        · refine v_iconst (pc := 268) (v := (0 : Int32)) hC dO_fits_268 (by decide) ?_
          exact v_zret (pc := 269) hC hE dO_fits_269 (by rw [hR]; decide) (by rw [hR]; decide) (by rw [if_pos (by decide)]; exact hf)
        · refine v_aload_n (pc := 230) (i := 0) (r := (some b)) hC dO_fits_230 rfl 0 rfl ?_
          refine v_getQ (pc := 231) (r := (some b)) hC dO_fits_231 inO rfl 1 (by decide) q275 (Or.inl rfl) hf (fun r59 hf => ?_)
          refine v_getI (pc := 234) (r := r59) hC dO_fits_234 inT rfl 2 (by decide) q133 (Or.inl rfl) hf (fun x60 hf => ?_)
          refine v_aload_n (pc := 237) (i := 0) (r := (some b)) hC dO_fits_237 rfl 0 rfl ?_
          refine v_getQ (pc := 238) (r := (some b)) hC dO_fits_238 inO rfl 3 (by decide) q279 (Or.inl rfl) hf (fun r61 hf => ?_)
          refine v_getI (pc := 241) (r := r61) hC dO_fits_241 inT rfl 2 (by decide) q133 (Or.inl rfl) hf (fun x62 hf => ?_)
          refine v_icmp_ne (pc := 244) (tgt := 268) hC dO_fits_244 (by decide) hf (fun hf => ?_) (fun hf => ?_)
          · refine v_iconst (pc := 268) (v := (0 : Int32)) hC dO_fits_268 (by decide) ?_
            exact v_zret (pc := 269) hC hE dO_fits_269 (by rw [hR]; decide) (by rw [hR]; decide) (by rw [if_pos (by decide)]; exact hf)
          · refine v_aload_n (pc := 247) (i := 0) (r := (some b)) hC dO_fits_247 rfl 0 rfl ?_
            refine v_getQ (pc := 248) (r := (some b)) hC dO_fits_248 inO rfl 2 (by decide) q277 (Or.inl rfl) hf (fun r63 hf => ?_)
            refine v_getI (pc := 251) (r := r63) hC dO_fits_251 inT rfl 3 (by decide) q135 (Or.inl rfl) hf (fun x64 hf => ?_)
            refine v_aload_n (pc := 254) (i := 0) (r := (some b)) hC dO_fits_254 rfl 0 rfl ?_
            refine v_getQ (pc := 255) (r := (some b)) hC dO_fits_255 inO rfl 3 (by decide) q279 (Or.inl rfl) hf (fun r65 hf => ?_)
            refine v_getI (pc := 258) (r := r65) hC dO_fits_258 inT rfl 3 (by decide) q135 (Or.inl rfl) hf (fun x66 hf => ?_)
            refine v_icmp_ne (pc := 261) (tgt := 268) hC dO_fits_261 (by decide) hf (fun hf => ?_) (fun hf => ?_)
            · refine v_iconst (pc := 268) (v := (0 : Int32)) hC dO_fits_268 (by decide) ?_
              exact v_zret (pc := 269) hC hE dO_fits_269 (by rw [hR]; decide) (by rw [hR]; decide) (by rw [if_pos (by decide)]; exact hf)
            · refine v_iconst (pc := 264) (v := (1 : Int32)) hC dO_fits_264 (by decide) ?_
              refine v_goto (pc := 265) (tgt := 269) hC dO_fits_265 (by decide) ?_
              exact v_zret (pc := 269) hC hE dO_fits_269 (by rw [hR]; decide) (by rw [hR]; decide) (by rw [if_pos (by decide)]; exact hf)
  rw [if_neg e4_5] at hf
  by_cases e4_6 : x1 = (6 : Int32)
  · rw [if_pos e4_6] at hf
    refine v_tabIn (tgt := 270) (off := 266) hC dO_fits_4 (by rw [e4_6]; decide) (by rw [e4_6]; decide) (by rw [e4_6]; decide) (by decide) ?_
    refine v_aload_n (pc := 270) (i := 0) (r := (some b)) hC dO_fits_270 rfl 0 rfl ?_
    refine v_getI (pc := 271) (r := (some b)) hC dO_fits_271 inO rfl 4 (by decide) q281 (Or.inl rfl) hf (fun x67 hf => ?_)
    refine v_if_ne (pc := 274) (tgt := 340) hC dO_fits_274 (by decide) hf (fun hf => ?_) (fun hf => ?_)
    · refine v_iconst (pc := 340) (v := (0 : Int32)) hC dO_fits_340 (by decide) ?_
      exact v_zret (pc := 341) hC hE dO_fits_341 (by rw [hR]; decide) (by rw [hR]; decide) (by rw [if_pos (by decide)]; exact hf)
    · refine v_aload_n (pc := 277) (i := 0) (r := (some b)) hC dO_fits_277 rfl 0 rfl ?_
      refine v_getQ (pc := 278) (r := (some b)) hC dO_fits_278 inO rfl 3 (by decide) q279 (Or.inl rfl) hf (fun r68 hf => ?_)
      refine v_getI (pc := 281) (r := r68) hC dO_fits_281 inT rfl 2 (by decide) q133 (Or.inl rfl) hf (fun x69 hf => ?_)
      refine v_aload_n (pc := 284) (i := 0) (r := (some b)) hC dO_fits_284 rfl 0 rfl ?_
      refine v_getQ (pc := 285) (r := (some b)) hC dO_fits_285 inO rfl 1 (by decide) q275 (Or.inl rfl) hf (fun r70 hf => ?_)
      refine v_getI (pc := 288) (r := r70) hC dO_fits_288 inT rfl 2 (by decide) q133 (Or.inl rfl) hf (fun x71 hf => ?_)
      refine v_aload_n (pc := 291) (i := 0) (r := (some b)) hC dO_fits_291 rfl 0 rfl ?_
      refine v_getQ (pc := 292) (r := (some b)) hC dO_fits_292 inO rfl 2 (by decide) q277 (Or.inl rfl) hf (fun r72 hf => ?_)
      refine v_getI (pc := 295) (r := r72) hC dO_fits_295 inT rfl 2 (by decide) q133 (Or.inl rfl) hf (fun x73 hf => ?_)
      refine v_iadd (pc := 298) hC dO_fits_298 ?_
      refine v_icmp_ne (pc := 299) (tgt := 340) hC dO_fits_299 (by decide) hf (fun hf => ?_) (fun hf => ?_)
      · refine v_iconst (pc := 340) (v := (0 : Int32)) hC dO_fits_340 (by decide) ?_
        exact v_zret (pc := 341) hC hE dO_fits_341 (by rw [hR]; decide) (by rw [hR]; decide) (by rw [if_pos (by decide)]; exact hf)
      · refine v_aload_n (pc := 302) (i := 0) (r := (some b)) hC dO_fits_302 rfl 0 rfl ?_
        refine v_getQ (pc := 303) (r := (some b)) hC dO_fits_303 inO rfl 1 (by decide) q275 (Or.inl rfl) hf (fun r74 hf => ?_)
        refine v_getI (pc := 306) (r := r74) hC dO_fits_306 inT rfl 3 (by decide) q135 (Or.inl rfl) hf (fun x75 hf => ?_)
        refine v_aload_n (pc := 309) (i := 0) (r := (some b)) hC dO_fits_309 rfl 0 rfl ?_
        refine v_getQ (pc := 310) (r := (some b)) hC dO_fits_310 inO rfl 3 (by decide) q279 (Or.inl rfl) hf (fun r76 hf => ?_)
        refine v_getI (pc := 313) (r := r76) hC dO_fits_313 inT rfl 3 (by decide) q135 (Or.inl rfl) hf (fun x77 hf => ?_)
        refine v_icmp_ne (pc := 316) (tgt := 340) hC dO_fits_316 (by decide) hf (fun hf => ?_) (fun hf => ?_)
        · refine v_iconst (pc := 340) (v := (0 : Int32)) hC dO_fits_340 (by decide) ?_
          exact v_zret (pc := 341) hC hE dO_fits_341 (by rw [hR]; decide) (by rw [hR]; decide) (by rw [if_pos (by decide)]; exact hf)
        · refine v_aload_n (pc := 319) (i := 0) (r := (some b)) hC dO_fits_319 rfl 0 rfl ?_
          refine v_getQ (pc := 320) (r := (some b)) hC dO_fits_320 inO rfl 2 (by decide) q277 (Or.inl rfl) hf (fun r78 hf => ?_)
          refine v_getI (pc := 323) (r := r78) hC dO_fits_323 inT rfl 3 (by decide) q135 (Or.inl rfl) hf (fun x79 hf => ?_)
          refine v_aload_n (pc := 326) (i := 0) (r := (some b)) hC dO_fits_326 rfl 0 rfl ?_
          refine v_getQ (pc := 327) (r := (some b)) hC dO_fits_327 inO rfl 3 (by decide) q279 (Or.inl rfl) hf (fun r80 hf => ?_)
          refine v_getI (pc := 330) (r := r80) hC dO_fits_330 inT rfl 3 (by decide) q135 (Or.inl rfl) hf (fun x81 hf => ?_)
          refine v_icmp_ne (pc := 333) (tgt := 340) hC dO_fits_333 (by decide) hf (fun hf => ?_) (fun hf => ?_)
          · refine v_iconst (pc := 340) (v := (0 : Int32)) hC dO_fits_340 (by decide) ?_
            exact v_zret (pc := 341) hC hE dO_fits_341 (by rw [hR]; decide) (by rw [hR]; decide) (by rw [if_pos (by decide)]; exact hf)
          · refine v_iconst (pc := 336) (v := (1 : Int32)) hC dO_fits_336 (by decide) ?_
            refine v_goto (pc := 337) (tgt := 341) hC dO_fits_337 (by decide) ?_
            exact v_zret (pc := 341) hC hE dO_fits_341 (by rw [hR]; decide) (by rw [hR]; decide) (by rw [if_pos (by decide)]; exact hf)
  rw [if_neg e4_6] at hf
  by_cases e4_7 : x1 = (7 : Int32)
  · rw [if_pos e4_7] at hf
    refine v_tabIn (tgt := 342) (off := 338) hC dO_fits_4 (by rw [e4_7]; decide) (by rw [e4_7]; decide) (by rw [e4_7]; decide) (by decide) ?_
    refine v_aload_n (pc := 342) (i := 0) (r := (some b)) hC dO_fits_342 rfl 0 rfl ?_
    refine v_getI (pc := 343) (r := (some b)) hC dO_fits_343 inO rfl 4 (by decide) q281 (Or.inl rfl) hf (fun x82 hf => ?_)
    refine v_if_ne (pc := 346) (tgt := 398) hC dO_fits_346 (by decide) hf (fun hf => ?_) (fun hf => ?_)
    · refine v_iconst (pc := 398) (v := (0 : Int32)) hC dO_fits_398 (by decide) ?_
      exact v_zret (pc := 399) hC hE dO_fits_399 (by rw [hR]; decide) (by rw [hR]; decide) (by rw [if_pos (by decide)]; exact hf)
    · refine v_aload_n (pc := 349) (i := 0) (r := (some b)) hC dO_fits_349 rfl 0 rfl ?_
      refine v_getQ (pc := 350) (r := (some b)) hC dO_fits_350 inO rfl 2 (by decide) q277 (Or.inl rfl) hf (fun r83 hf => ?_)
      refine v_aload_n (pc := 353) (i := 0) (r := (some b)) hC dO_fits_353 rfl 0 rfl ?_
      refine v_getQ (pc := 354) (r := (some b)) hC dO_fits_354 inO rfl 1 (by decide) q275 (Or.inl rfl) hf (fun r84 hf => ?_)
      refine v_acmp_ne (pc := 357) (tgt := 398) hC dO_fits_357 (by decide) hf (fun hf => ?_) (fun hf => ?_)
      · refine v_iconst (pc := 398) (v := (0 : Int32)) hC dO_fits_398 (by decide) ?_
        exact v_zret (pc := 399) hC hE dO_fits_399 (by rw [hR]; decide) (by rw [hR]; decide) (by rw [if_pos (by decide)]; exact hf)
      · refine v_aload_n (pc := 360) (i := 0) (r := (some b)) hC dO_fits_360 rfl 0 rfl ?_
        refine v_getQ (pc := 361) (r := (some b)) hC dO_fits_361 inO rfl 1 (by decide) q275 (Or.inl rfl) hf (fun r85 hf => ?_)
        refine v_getI (pc := 364) (r := r85) hC dO_fits_364 inT rfl 2 (by decide) q133 (Or.inl rfl) hf (fun x86 hf => ?_)
        refine v_aload_n (pc := 367) (i := 0) (r := (some b)) hC dO_fits_367 rfl 0 rfl ?_
        refine v_getQ (pc := 368) (r := (some b)) hC dO_fits_368 inO rfl 3 (by decide) q279 (Or.inl rfl) hf (fun r87 hf => ?_)
        refine v_getI (pc := 371) (r := r87) hC dO_fits_371 inT rfl 2 (by decide) q133 (Or.inl rfl) hf (fun x88 hf => ?_)
        refine v_icmp_ne (pc := 374) (tgt := 398) hC dO_fits_374 (by decide) hf (fun hf => ?_) (fun hf => ?_)
        · refine v_iconst (pc := 398) (v := (0 : Int32)) hC dO_fits_398 (by decide) ?_
          exact v_zret (pc := 399) hC hE dO_fits_399 (by rw [hR]; decide) (by rw [hR]; decide) (by rw [if_pos (by decide)]; exact hf)
        · refine v_aload_n (pc := 377) (i := 0) (r := (some b)) hC dO_fits_377 rfl 0 rfl ?_
          refine v_getQ (pc := 378) (r := (some b)) hC dO_fits_378 inO rfl 1 (by decide) q275 (Or.inl rfl) hf (fun r89 hf => ?_)
          refine v_getI (pc := 381) (r := r89) hC dO_fits_381 inT rfl 3 (by decide) q135 (Or.inl rfl) hf (fun x90 hf => ?_)
          refine v_aload_n (pc := 384) (i := 0) (r := (some b)) hC dO_fits_384 rfl 0 rfl ?_
          refine v_getQ (pc := 385) (r := (some b)) hC dO_fits_385 inO rfl 3 (by decide) q279 (Or.inl rfl) hf (fun r91 hf => ?_)
          refine v_getI (pc := 388) (r := r91) hC dO_fits_388 inT rfl 3 (by decide) q135 (Or.inl rfl) hf (fun x92 hf => ?_)
          refine v_icmp_ne (pc := 391) (tgt := 398) hC dO_fits_391 (by decide) hf (fun hf => ?_) (fun hf => ?_)
          · refine v_iconst (pc := 398) (v := (0 : Int32)) hC dO_fits_398 (by decide) ?_
            exact v_zret (pc := 399) hC hE dO_fits_399 (by rw [hR]; decide) (by rw [hR]; decide) (by rw [if_pos (by decide)]; exact hf)
          · refine v_iconst (pc := 394) (v := (1 : Int32)) hC dO_fits_394 (by decide) ?_
            refine v_goto (pc := 395) (tgt := 399) hC dO_fits_395 (by decide) ?_
            exact v_zret (pc := 399) hC hE dO_fits_399 (by rw [hR]; decide) (by rw [hR]; decide) (by rw [if_pos (by decide)]; exact hf)
  rw [if_neg e4_7] at hf
  refine v_tabOut (pc := 4) (tgt := 400) hC dO_fits_4 (by have n0 := lv_neT (a := 0) e4_0 (by decide); have n1 := lv_neT (a := 1) e4_1 (by decide); have n2 := lv_neT (a := 2) e4_2 (by decide); have n3 := lv_neT (a := 3) e4_3 (by decide); have n4 := lv_neT (a := 4) e4_4 (by decide); have n5 := lv_neT (a := 5) e4_5 (by decide); have n6 := lv_neT (a := 6) e4_6 (by decide); have n7 := lv_neT (a := 7) e4_7 (by decide); omega) (by decide) ?_
  refine v_iconst (pc := 400) (v := (0 : Int32)) hC dO_fits_400 (by decide) ?_
  exact v_zret (pc := 401) hC hE dO_fits_401 (by rw [hR]; decide) (by rw [hR]; decide) (by rw [if_pos (by decide)]; exact hf)
theorem mO_fits (l : Launch) (G : cG) (b : Nat)  (w : cW) (r : Int32) (w' : cW) (hf : fO_fits b w = some (r, w')) : Met l yO_fits (wsM yO_fits prog_3_method_2_code 1 (some .boolean)) rmO_fits (mP G w [va_rf (some b)]) (mQ mkI G w w' r) (rmO_fits).cells (rmO_fits).slots (Aw w) :=
  met_of (by decide +kernel) rfl (Nat.le_of_ble_eq_true rfl) (fun C hC hR _ _ _ hts hE => tO_fits (okC.tbl hC) hE hR  w hf)
