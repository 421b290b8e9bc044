abbrev yN_finish : MethodName := ⟨"ArenaNetwork", "finish", "()I"⟩
abbrev rmN_finish : Room := { frames := 6, cells := 0, slots := 0, locals := 135 }
theorem ykN_finish : yOk yN_finish 0 := by decide +kernel
theorem dN_finish_0 : decode prog_1_method_11_code 0 = .ok (.aload_n 0, 1) := by decide +kernel
theorem dN_finish_1 : decode prog_1_method_11_code 1 = .ok (.getfield 36, 3) := by decide +kernel
theorem dN_finish_4 : decode prog_1_method_11_code 4 = .ok (.iconst (-1), 1) := by decide +kernel
theorem dN_finish_5 : decode prog_1_method_11_code 5 = .ok (.if_icmp .ne (6), 3) := by decide +kernel
theorem dN_finish_8 : decode prog_1_method_11_code 8 = .ok (.bipush (-3), 2) := by decide +kernel
theorem dN_finish_10 : decode prog_1_method_11_code 10 = .ok (.ireturn, 1) := by decide +kernel
theorem dN_finish_11 : decode prog_1_method_11_code 11 = .ok (.aload_n 0, 1) := by decide +kernel
theorem dN_finish_12 : decode prog_1_method_11_code 12 = .ok (.getfield 16, 3) := by decide +kernel
theorem dN_finish_15 : decode prog_1_method_11_code 15 = .ok (.invokevirtual 55, 3) := by decide +kernel
theorem dN_finish_18 : decode prog_1_method_11_code 18 = .ok (.aload_n 0, 1) := by decide +kernel
theorem dN_finish_19 : decode prog_1_method_11_code 19 = .ok (.getfield 36, 3) := by decide +kernel
theorem dN_finish_22 : decode prog_1_method_11_code 22 = .ok (.isub, 1) := by decide +kernel
theorem dN_finish_23 : decode prog_1_method_11_code 23 = .ok (.istore_n 1, 1) := by decide +kernel
theorem dN_finish_24 : decode prog_1_method_11_code 24 = .ok (.iconst (0), 1) := by decide +kernel
theorem dN_finish_25 : decode prog_1_method_11_code 25 = .ok (.istore_n 2, 1) := by decide +kernel
theorem dN_finish_26 : decode prog_1_method_11_code 26 = .ok (.iload_n 2, 1) := by decide +kernel
theorem dN_finish_27 : decode prog_1_method_11_code 27 = .ok (.iload_n 1, 1) := by decide +kernel
theorem dN_finish_28 : decode prog_1_method_11_code 28 = .ok (.if_icmp .ge (13), 3) := by decide +kernel
theorem dN_finish_31 : decode prog_1_method_11_code 31 = .ok (.aload_n 0, 1) := by decide +kernel
theorem dN_finish_32 : decode prog_1_method_11_code 32 = .ok (.invokevirtual 117, 3) := by decide +kernel
theorem dN_finish_35 : decode prog_1_method_11_code 35 = .ok (.iinc 2 (1), 3) := by decide +kernel
theorem dN_finish_38 : decode prog_1_method_11_code 38 = .ok (.goto (-12), 3) := by decide +kernel
theorem dN_finish_41 : decode prog_1_method_11_code 41 = .ok (.iload_n 1, 1) := by decide +kernel
theorem dN_finish_42 : decode prog_1_method_11_code 42 = .ok (.ireturn, 1) := by decide +kernel
abbrev yN_cell : MethodName := ⟨"ArenaNetwork", "cell", "(II)I"⟩
abbrev rmN_cell : Room := { frames := 4, cells := 0, slots := 0, locals := 85 }
theorem ykN_cell : yOk yN_cell 2 := by decide +kernel
theorem dN_cell_0 : decode prog_1_method_12_code 0 = .ok (.aload_n 0, 1) := by decide +kernel
theorem dN_cell_1 : decode prog_1_method_12_code 1 = .ok (.iload_n 1, 1) := by decide +kernel
theorem dN_cell_2 : decode prog_1_method_12_code 2 = .ok (.invokevirtual 66, 3) := by decide +kernel
theorem dN_cell_5 : decode prog_1_method_12_code 5 = .ok (.astore_n 3, 1) := by decide +kernel
theorem dN_cell_6 : decode prog_1_method_12_code 6 = .ok (.aload_n 3, 1) := by decide +kernel
theorem dN_cell_7 : decode prog_1_method_12_code 7 = .ok (.ifnull (11), 3) := by decide +kernel
theorem dN_cell_10 : decode prog_1_method_12_code 10 = .ok (.aload_n 3, 1) := by decide +kernel
theorem dN_cell_11 : decode prog_1_method_12_code 11 = .ok (.iload_n 2, 1) := by decide +kernel
theorem dN_cell_12 : decode prog_1_method_12_code 12 = .ok (.invokevirtual 73, 3) := by decide +kernel
theorem dN_cell_15 : decode prog_1_method_12_code 15 = .ok (.ifCond .ne (7), 3) := by decide +kernel
theorem dN_cell_18 : decode prog_1_method_12_code 18 = .ok (.sipush (-1000), 3) := by decide +kernel
theorem dN_cell_21 : decode prog_1_method_12_code 21 = .ok (.ireturn, 1) := by decide +kernel
theorem dN_cell_22 : decode prog_1_method_12_code 22 = .ok (.aload_n 3, 1) := by decide +kernel
theorem dN_cell_23 : decode prog_1_method_12_code 23 = .ok (.getfield 70, 3) := by decide +kernel
theorem dN_cell_26 : decode prog_1_method_12_code 26 = .ok (.ifCond .eq (22), 3) := by decide +kernel
theorem dN_cell_29 : decode prog_1_method_12_code 29 = .ok (.aload_n 0, 1) := by decide +kernel
theorem dN_cell_30 : decode prog_1_method_12_code 30 = .ok (.getfield 36, 3) := by decide +kernel
theorem dN_cell_33 : decode prog_1_method_12_code 33 = .ok (.iconst (-1), 1) := by decide +kernel
theorem dN_cell_34 : decode prog_1_method_12_code 34 = .ok (.if_icmp .eq (21), 3) := by decide +kernel
theorem dN_cell_37 : decode prog_1_method_12_code 37 = .ok (.aload_n 3, 1) := by decide +kernel
theorem dN_cell_38 : decode prog_1_method_12_code 38 = .ok (.aload_n 0, 1) := by decide +kernel
theorem dN_cell_39 : decode prog_1_method_12_code 39 = .ok (.getfield 36, 3) := by decide +kernel
theorem dN_cell_42 : decode prog_1_method_12_code 42 = .ok (.invokevirtual 120, 3) := by decide +kernel
theorem dN_cell_45 : decode prog_1_method_12_code 45 = .ok (.ifCond .eq (10), 3) := by decide +kernel
theorem dN_cell_48 : decode prog_1_method_12_code 48 = .ok (.aload_n 3, 1) := by decide +kernel
theorem dN_cell_49 : decode prog_1_method_12_code 49 = .ok (.getfield 123, 3) := by decide +kernel
theorem dN_cell_52 : decode prog_1_method_12_code 52 = .ok (.iload_n 2, 1) := by decide +kernel
theorem dN_cell_53 : decode prog_1_method_12_code 53 = .ok (.iaload, 1) := by decide +kernel
theorem dN_cell_54 : decode prog_1_method_12_code 54 = .ok (.ireturn, 1) := by decide +kernel
theorem dN_cell_55 : decode prog_1_method_12_code 55 = .ok (.sipush (-1000), 3) := by decide +kernel
theorem dN_cell_58 : decode prog_1_method_12_code 58 = .ok (.ireturn, 1) := by decide +kernel
abbrev yN_offset : MethodName := ⟨"ArenaNetwork", "offset", "(I)I"⟩
abbrev rmN_offset : Room := { frames := 5, cells := 0, slots := 0, locals := 107 }
theorem ykN_offset : yOk yN_offset 1 := by decide +kernel
theorem dN_offset_0 : decode prog_1_method_13_code 0 = .ok (.aload_n 0, 1) := by decide +kernel
theorem dN_offset_1 : decode prog_1_method_13_code 1 = .ok (.iload_n 1, 1) := by decide +kernel
theorem dN_offset_2 : decode prog_1_method_13_code 2 = .ok (.invokevirtual 126, 3) := by decide +kernel
theorem dN_offset_5 : decode prog_1_method_13_code 5 = .ok (.astore_n 2, 1) := by decide +kernel
theorem dN_offset_6 : decode prog_1_method_13_code 6 = .ok (.aload_n 2, 1) := by decide +kernel
theorem dN_offset_7 : decode prog_1_method_13_code 7 = .ok (.ifnonnull (7), 3) := by decide +kernel
theorem dN_offset_10 : decode prog_1_method_13_code 10 = .ok (.iconst (-1), 1) := by decide +kernel
theorem dN_offset_11 : decode prog_1_method_13_code 11 = .ok (.goto (7), 3) := by decide +kernel
theorem dN_offset_14 : decode prog_1_method_13_code 14 = .ok (.aload_n 2, 1) := by decide +kernel
theorem dN_offset_15 : decode prog_1_method_13_code 15 = .ok (.getfield 129, 3) := by decide +kernel
theorem dN_offset_18 : decode prog_1_method_13_code 18 = .ok (.ireturn, 1) := by decide +kernel
abbrev yN_life : MethodName := ⟨"ArenaNetwork", "life", "(IZ)I"⟩
abbrev rmN_life : Room := { frames := 5, cells := 0, slots := 0, locals := 107 }
theorem ykN_life : yOk yN_life 2 := by decide +kernel
theorem dN_life_0 : decode prog_1_method_14_code 0 = .ok (.aload_n 0, 1) := by decide +kernel
theorem dN_life_1 : decode prog_1_method_14_code 1 = .ok (.iload_n 1, 1) := by decide +kernel
theorem dN_life_2 : decode prog_1_method_14_code 2 = .ok (.invokevirtual 126, 3) := by decide +kernel
theorem dN_life_5 : decode prog_1_method_14_code 5 = .ok (.astore_n 3, 1) := by decide +kernel
theorem dN_life_6 : decode prog_1_method_14_code 6 = .ok (.aload_n 3, 1) := by decide +kernel
theorem dN_life_7 : decode prog_1_method_14_code 7 = .ok (.ifnonnull (7), 3) := by decide +kernel
theorem dN_life_10 : decode prog_1_method_14_code 10 = .ok (.sipush (-1000), 3) := by decide +kernel
theorem dN_life_13 : decode prog_1_method_14_code 13 = .ok (.ireturn, 1) := by decide +kernel
theorem dN_life_14 : decode prog_1_method_14_code 14 = .ok (.iload_n 2, 1) := by decide +kernel
theorem dN_life_15 : decode prog_1_method_14_code 15 = .ok (.ifCond .eq (10), 3) := by decide +kernel
theorem dN_life_18 : decode prog_1_method_14_code 18 = .ok (.aload_n 3, 1) := by decide +kernel
theorem dN_life_19 : decode prog_1_method_14_code 19 = .ok (.getfield 132, 3) := by decide +kernel
theorem dN_life_22 : decode prog_1_method_14_code 22 = .ok (.goto (7), 3) := by decide +kernel
theorem dN_life_25 : decode prog_1_method_14_code 25 = .ok (.aload_n 3, 1) := by decide +kernel
theorem dN_life_26 : decode prog_1_method_14_code 26 = .ok (.getfield 135, 3) := by decide +kernel
theorem dN_life_29 : decode prog_1_method_14_code 29 = .ok (.ireturn, 1) := by decide +kernel
abbrev yN_placed : MethodName := ⟨"ArenaNetwork", "placed", "(I)I"⟩
abbrev rmN_placed : Room := { frames := 3, cells := 0, slots := 0, locals := 64 }
theorem ykN_placed : yOk yN_placed 1 := by decide +kernel
theorem dN_placed_0 : decode prog_1_method_15_code 0 = .ok (.aload_n 0, 1) := by decide +kernel
theorem dN_placed_1 : decode prog_1_method_15_code 1 = .ok (.getfield 32, 3) := by decide +kernel
theorem dN_placed_4 : decode prog_1_method_15_code 4 = .ok (.ifCond .eq (21), 3) := by decide +kernel
theorem dN_placed_7 : decode prog_1_method_15_code 7 = .ok (.iload_n 1, 1) := by decide +kernel
theorem dN_placed_8 : decode prog_1_method_15_code 8 = .ok (.ifCond .lt (17), 3) := by decide +kernel
theorem dN_placed_11 : decode prog_1_method_15_code 11 = .ok (.iload_n 1, 1) := by decide +kernel
theorem dN_placed_12 : decode prog_1_method_15_code 12 = .ok (.aload_n 0, 1) := by decide +kernel
theorem dN_placed_13 : decode prog_1_method_15_code 13 = .ok (.getfield 28, 3) := by decide +kernel
theorem dN_placed_16 : decode prog_1_method_15_code 16 = .ok (.getfield 138, 3) := by decide +kernel
theorem dN_placed_19 : decode prog_1_method_15_code 19 = .ok (.invokevirtual 55, 3) := by decide +kernel
theorem dN_placed_22 : decode prog_1_method_15_code 22 = .ok (.if_icmp .lt (5), 3) := by decide +kernel
theorem dN_placed_25 : decode prog_1_method_15_code 25 = .ok (.iconst (-1), 1) := by decide +kernel
theorem dN_placed_26 : decode prog_1_method_15_code 26 = .ok (.ireturn, 1) := by decide +kernel
theorem dN_placed_27 : decode prog_1_method_15_code 27 = .ok (.aload_n 0, 1) := by decide +kernel
theorem dN_placed_28 : decode prog_1_method_15_code 28 = .ok (.getfield 28, 3) := by decide +kernel
theorem dN_placed_31 : decode prog_1_method_15_code 31 = .ok (.getfield 138, 3) := by decide +kernel
theorem dN_placed_34 : decode prog_1_method_15_code 34 = .ok (.iload_n 1, 1) := by decide +kernel
theorem dN_placed_35 : decode prog_1_method_15_code 35 = .ok (.invokevirtual 110, 3) := by decide +kernel
theorem dN_placed_38 : decode prog_1_method_15_code 38 = .ok (.checkcast 41, 3) := by decide +kernel
theorem dN_placed_41 : decode prog_1_method_15_code 41 = .ok (.getfield 141, 3) := by decide +kernel
theorem dN_placed_44 : decode prog_1_method_15_code 44 = .ok (.ireturn, 1) := by decide +kernel
abbrev yN_scaled : MethodName := ⟨"ArenaNetwork", "scaled", "(II)I"⟩
abbrev rmN_scaled : Room := { frames := 3, cells := 0, slots := 0, locals := 70 }
theorem ykN_scaled : yOk yN_scaled 2 := by decide +kernel
theorem dN_scaled_0 : decode prog_1_method_16_code 0 = .ok (.iload_n 1, 1) := by decide +kernel
theorem dN_scaled_1 : decode prog_1_method_16_code 1 = .ok (.invokestatic 80, 3) := by decide +kernel
theorem dN_scaled_4 : decode prog_1_method_16_code 4 = .ok (.ifCond .eq (14), 3) := by decide +kernel
theorem dN_scaled_7 : decode prog_1_method_16_code 7 = .ok (.iload_n 2, 1) := by decide +kernel
theorem dN_scaled_8 : decode prog_1_method_16_code 8 = .ok (.ldc 144, 2) := by decide +kernel
theorem dN_scaled_10 : decode prog_1_method_16_code 10 = .ok (.ldc 145, 2) := by decide +kernel
theorem dN_scaled_12 : decode prog_1_method_16_code 12 = .ok (.invokestatic 43, 3) := by decide +kernel
theorem dN_scaled_15 : decode prog_1_method_16_code 15 = .ok (.ifCond .ne (5), 3) := by decide +kernel
theorem dN_scaled_18 : decode prog_1_method_16_code 18 = .ok (.iconst (0), 1) := by decide +kernel
theorem dN_scaled_19 : decode prog_1_method_16_code 19 = .ok (.ireturn, 1) := by decide +kernel
theorem dN_scaled_20 : decode prog_1_method_16_code 20 = .ok (.aload_n 0, 1) := by decide +kernel
theorem dN_scaled_21 : decode prog_1_method_16_code 21 = .ok (.getfield 21, 3) := by decide +kernel
theorem dN_scaled_24 : decode prog_1_method_16_code 24 = .ok (.iload_n 1, 1) := by decide +kernel
theorem dN_scaled_25 : decode prog_1_method_16_code 25 = .ok (.aaload, 1) := by decide +kernel
theorem dN_scaled_26 : decode prog_1_method_16_code 26 = .ok (.iload_n 2, 1) := by decide +kernel
theorem dN_scaled_27 : decode prog_1_method_16_code 27 = .ok (.i2l, 1) := by decide +kernel
theorem dN_scaled_28 : decode prog_1_method_16_code 28 = .ok (.invokevirtual 146, 3) := by decide +kernel
theorem dN_scaled_31 : decode prog_1_method_16_code 31 = .ok (.ireturn, 1) := by decide +kernel
abbrev yN_count : MethodName := ⟨"ArenaNetwork", "count", "(I)I"⟩
abbrev rmN_count : Room := { frames := 4, cells := 0, slots := 0, locals := 86 }
theorem ykN_count : yOk yN_count 1 := by decide +kernel
theorem dN_count_0 : decode prog_1_method_17_code 0 = .ok (.iload_n 1, 1) := by decide +kernel
theorem dN_count_1 : decode prog_1_method_17_code 1 = .ok (.tableswitch (111) (0) (5) #[39, 47, 55, 68, 73, 92], 39) := by decide +kernel
theorem dN_count_40 : decode prog_1_method_17_code 40 = .ok (.aload_n 0, 1) := by decide +kernel
theorem dN_count_41 : decode prog_1_method_17_code 41 = .ok (.getfield 10, 3) := by decide +kernel
theorem dN_count_44 : decode prog_1_method_17_code 44 = .ok (.invokevirtual 55, 3) := by decide +kernel
theorem dN_count_47 : decode prog_1_method_17_code 47 = .ok (.ireturn, 1) := by decide +kernel
theorem dN_count_48 : decode prog_1_method_17_code 48 = .ok (.aload_n 0, 1) := by decide +kernel
theorem dN_count_49 : decode prog_1_method_17_code 49 = .ok (.getfield 16, 3) := by decide +kernel
theorem dN_count_52 : decode prog_1_method_17_code 52 = .ok (.invokevirtual 55, 3) := by decide +kernel
theorem dN_count_55 : decode prog_1_method_17_code 55 = .ok (.ireturn, 1) := by decide +kernel
theorem dN_count_56 : decode prog_1_method_17_code 56 = .ok (.aload_n 0, 1) := by decide +kernel
theorem dN_count_57 : decode prog_1_method_17_code 57 = .ok (.getfield 32, 3) := by decide +kernel
theorem dN_count_60 : decode prog_1_method_17_code 60 = .ok (.ifCond .eq (7), 3) := by decide +kernel
theorem dN_count_63 : decode prog_1_method_17_code 63 = .ok (.iconst (1), 1) := by decide +kernel
theorem dN_count_64 : decode prog_1_method_17_code 64 = .ok (.goto (4), 3) := by decide +kernel
theorem dN_count_67 : decode prog_1_method_17_code 67 = .ok (.iconst (0), 1) := by decide +kernel
theorem dN_count_68 : decode prog_1_method_17_code 68 = .ok (.ireturn, 1) := by decide +kernel
theorem dN_count_69 : decode prog_1_method_17_code 69 = .ok (.aload_n 0, 1) := by decide +kernel
theorem dN_count_70 : decode prog_1_method_17_code 70 = .ok (.getfield 36, 3) := by decide +kernel
theorem dN_count_73 : decode prog_1_method_17_code 73 = .ok (.ireturn, 1) := by decide +kernel
theorem dN_count_74 : decode prog_1_method_17_code 74 = .ok (.aload_n 0, 1) := by decide +kernel
theorem dN_count_75 : decode prog_1_method_17_code 75 = .ok (.getfield 32, 3) := by decide +kernel
theorem dN_count_78 : decode prog_1_method_17_code 78 = .ok (.ifCond .eq (13), 3) := by decide +kernel
theorem dN_count_81 : decode prog_1_method_17_code 81 = .ok (.aload_n 0, 1) := by decide +kernel
theorem dN_count_82 : decode prog_1_method_17_code 82 = .ok (.getfield 28, 3) := by decide +kernel
theorem dN_count_85 : decode prog_1_method_17_code 85 = .ok (.getfield 107, 3) := by decide +kernel
theorem dN_count_88 : decode prog_1_method_17_code 88 = .ok (.goto (4), 3) := by decide +kernel
theorem dN_count_91 : decode prog_1_method_17_code 91 = .ok (.iconst (0), 1) := by decide +kernel
theorem dN_count_92 : decode prog_1_method_17_code 92 = .ok (.ireturn, 1) := by decide +kernel
theorem dN_count_93 : decode prog_1_method_17_code 93 = .ok (.aload_n 0, 1) := by decide +kernel
theorem dN_count_94 : decode prog_1_method_17_code 94 = .ok (.getfield 32, 3) := by decide +kernel
theorem dN_count_97 : decode prog_1_method_17_code 97 = .ok (.ifCond .eq (13), 3) := by decide +kernel
theorem dN_count_100 : decode prog_1_method_17_code 100 = .ok (.aload_n 0, 1) := by decide +kernel
theorem dN_count_101 : decode prog_1_method_17_code 101 = .ok (.getfield 28, 3) := by decide +kernel
theorem dN_count_104 : decode prog_1_method_17_code 104 = .ok (.invokevirtual 150, 3) := by decide +kernel
theorem dN_count_107 : decode prog_1_method_17_code 107 = .ok (.goto (4), 3) := by decide +kernel
theorem dN_count_110 : decode prog_1_method_17_code 110 = .ok (.iconst (0), 1) := by decide +kernel
theorem dN_count_111 : decode prog_1_method_17_code 111 = .ok (.ireturn, 1) := by decide +kernel
theorem dN_count_112 : decode prog_1_method_17_code 112 = .ok (.iconst (-1), 1) := by decide +kernel
theorem dN_count_113 : decode prog_1_method_17_code 113 = .ok (.ireturn, 1) := by decide +kernel
def fN_finish_b26 (b : Nat)  (rec26 : Int32 → Int32 → cW → Option (Int32 × cW)) (a1 : Int32) (a2 : Int32) (w : cW) : Option (Int32 × cW) :=
  if a1 ≤ a2 then (
    some (a1, w)) else
  (cRcv w (some b) 0).bind fun b3 => cbd (fN_doNext b3 w) fun u1 w2 =>
  bnd (a2 + (1 : Int32)) fun x4 =>
  rec26 a1 x4 w2
def fN_finish_l26 (b : Nat)  (n : Nat) : Int32 → Int32 → cW → Option (Int32 × cW) := lp (fun _ _ _ => none) (fN_finish_b26 b ) n
def fN_finish (b : Nat)  (w : cW) : Option (Int32 × cW) :=
  (gI w (some b) 0 5).bind fun x1 =>
  if x1 = (-1 : Int32) then (
    some ((-3 : Int32), w)) else
  (gQ w (some b) 0 1).bind fun r2 =>
  (cRcv w r2 6).bind fun b5 => cbd (fL_size b5 w) fun x3 w4 =>
  (gI w4 (some b) 0 5).bind fun x6 =>
  bnd (x3 - x6) fun x7 =>
  fN_finish_l26 b FU x7 (0 : Int32) w4
def fN_cell (b : Nat) (a1 : Int32) (a2 : Int32) (w : cW) : Option (Int32 × cW) :=
  (cRcv w (some b) 0).bind fun b3 => cbd (fN_tensorAt b3 a1 w) fun r1 w2 =>
  if r1 = none then (
    some ((-1000 : Int32), w2)) else
  (cRcv w2 r1 4).bind fun b6 => cbd (fT_hasCell b6 a2 w2) fun x4 w5 =>
  if x4 = 0 then (
    some ((-1000 : Int32), w5)) else
  (gI w5 r1 4 1).bind fun x7 =>
  if x7 = 0 then (
    (gQ w5 r1 4 5).bind fun r8 =>
    (ldI w5 r8 .int a2).bind fun x9 =>
    some (x9, w5)) else
  (gI w5 (some b) 0 5).bind fun x10 =>
  if x10 = (-1 : Int32) then (
    some ((-1000 : Int32), w5)) else
  (gI w5 (some b) 0 5).bind fun x11 =>
  (cRcv w5 r1 4).bind fun b14 => cbd (fT_livesAfter b14 x11 w5) fun x12 w13 =>
  if x12 = 0 then (
    some ((-1000 : Int32), w13)) else
  (gQ w13 r1 4 5).bind fun r15 =>
  (ldI w13 r15 .int a2).bind fun x16 =>
  some (x16, w13)
def fN_offset (b : Nat) (a1 : Int32) (w : cW) : Option (Int32 × cW) :=
  (cRcv w (some b) 0).bind fun b3 => cbd (fN_livingTensorAt b3 a1 w) fun r1 w2 =>
  if r1 = none then (
    some ((-1 : Int32), w2)) else
  (gI w2 r1 4 10).bind fun x4 =>
  some (x4, w2)
def fN_life (b : Nat) (a1 : Int32) (a2 : Int32) (w : cW) : Option (Int32 × cW) :=
  (cRcv w (some b) 0).bind fun b3 => cbd (fN_livingTensorAt b3 a1 w) fun r1 w2 =>
  if r1 = none then (
    some ((-1000 : Int32), w2)) else
  if a2 = 0 then (
    (gI w2 r1 4 8).bind fun x4 =>
    some (x4, w2)) else
  (gI w2 r1 4 9).bind fun x5 =>
  some (x5, w2)
def fN_placed (b : Nat) (a1 : Int32) (w : cW) : Option (Int32 × cW) :=
  (gI w (some b) 0 4).bind fun x1 =>
  if x1 = 0 then (
    some ((-1 : Int32), w)) else
  if a1 < 0 then (
    some ((-1 : Int32), w)) else
  (gQ w (some b) 0 3).bind fun r2 =>
  (gQ w r2 1 0).bind fun r3 =>
  (cRcv w r3 6).bind fun b6 => cbd (fL_size b6 w) fun x4 w5 =>
  if a1 < x4 then (
    (gQ w5 (some b) 0 3).bind fun r7 =>
    (gQ w5 r7 1 0).bind fun r8 =>
    (cRcv w5 r8 6).bind fun b11 => cbd (fL_get b11 a1 w5) fun r9 w10 =>
    (cCast w10 r9 4).bind fun _ =>
    (gI w10 r9 4 0).bind fun x12 =>
    some (x12, w10)) else
  some ((-1 : Int32), w5)
def fN_scaled (b : Nat) (a1 : Int32) (a2 : Int32) (w : cW) : Option (Int32 × cW) :=
  cbd (fN_isScale a1 w) fun x1 w2 =>
  if x1 = 0 then (
    some ((0 : Int32), w2)) else
  cbd (fN_isWithin a2 (-16777216 : Int32) (16777216 : Int32) w2) fun x3 w4 =>
  if x3 = 0 then (
    some ((0 : Int32), w4)) else
  (gQ w4 (some b) 0 2).bind fun r5 =>
  (ldQ w4 r5 a1).bind fun r6 =>
  (cRcv w4 r6 3).bind fun b9 => cbd (fS_applied b9 a2.toInt64 w4) fun x7 w8 =>
  some (x7, w8)
def fN_count (b : Nat) (a1 : Int32) (w : cW) : Option (Int32 × cW) :=
  if a1 = (0 : Int32) then (
    (gQ w (some b) 0 0).bind fun r1 =>
    (cRcv w r1 6).bind fun b4 => cbd (fL_size b4 w) fun x2 w3 =>
    some (x2, w3)) else
  if a1 = (1 : Int32) then (
    (gQ w (some b) 0 1).bind fun r5 =>
    (cRcv w r5 6).bind fun b8 => cbd (fL_size b8 w) fun x6 w7 =>
    some (x6, w7)) else
  if a1 = (2 : Int32) then (
    (gI w (some b) 0 4).bind fun x9 =>
    if x9 = 0 then (
      some ((0 : Int32), w)) else
    some ((1 : Int32), w)) else
  if a1 = (3 : Int32) then (
    (gI w (some b) 0 5).bind fun x10 =>
    some (x10, w)) else
  if a1 = (4 : Int32) then (
    (gI w (some b) 0 4).bind fun x11 =>
    if x11 = 0 then (
      some ((0 : Int32), w)) else
    (gQ w (some b) 0 3).bind fun r12 =>
    (gI w r12 1 1).bind fun x13 =>
    some (x13, w)) else
  if a1 = (5 : Int32) then (
    (gI w (some b) 0 4).bind fun x14 =>
    if x14 = 0 then (
      some ((0 : Int32), w)) else
    (gQ w (some b) 0 3).bind fun r15 =>
    (cRcv w r15 1).bind fun b18 => cbd (fA_sumOfLengths b18 w) fun x16 w17 =>
    some (x16, w17)) else
  some ((-1 : Int32), w)
set_option maxHeartbeats 4000000 in
set_option maxRecDepth 100000 in
theorem tN_finish_l26 {C : xC} {G : cG} {w0 w' : cW} {r : Int32} {b : Nat} (hC : okC C prog_1_method_11_code 3 "ArenaNetwork" lw_gd) (hE : xE C (some .int) mkI G w0 w' r) (hR : xR C = rmN_finish)  : ∀ n : Nat, ∀ (a1 : Int32) (a2 : Int32) (w : cW), fN_finish_l26 b n a1 a2 w = some (r, w') → V C w 0 0 26 [(0, va_rf (some b)), (1, .int a1), (2, .int a2)] [] := by
  refine lp_P (P := fun (f : Int32 → Int32 → cW → Option (Int32 × cW)) => ∀ (a1 : Int32) (a2 : Int32) (w : cW), f a1 a2 w = some (r, w') → V C w 0 0 26 [(0, va_rf (some b)), (1, .int a1), (2, .int a2)] []) ?_ ?_
  · intro a1 a2 w hf
    cases hf
  · intro rec26 hrec26 a1 a2 w hf
    unfold fN_finish_b26 at hf
    refine v_iload_n (pc := 26) (i := 2) (x := a2) hC dN_finish_26 rfl 2 rfl ?_
    refine v_iload_n (pc := 27) (i := 1) (x := a1) hC dN_finish_27 rfl 1 rfl ?_
    refine v_icmp_ge (pc := 28) (tgt := 41) hC dN_finish_28 (by decide) hf (fun hf => ?_) (fun hf => ?_)
    · refine v_iload_n (pc := 41) (i := 1) (x := a1) hC dN_finish_41 rfl 1 rfl ?_
      exact v_iret (pc := 42) hC hE dN_finish_42 (by rw [hR]; decide) (by rw [hR]; decide) hf
    · refine v_aload_n (pc := 31) (i := 0) (r := (some b)) hC dN_finish_31 rfl 0 rfl ?_
      refine v_callV (pc := 32) (r := (some b)) (As := []) (rest := []) (k' := 0) (n' := 0) (st1 := (fun yq => [])) hC dN_finish_32 q378 q380 p11 q1 q381 ykN_doNext rfl rfl (fun bq rq wq hq => mN_doNext _ _ bq  _ rq wq hq) (by rw [hR]; decide) (by simp only [List.map_cons, List.map_nil, va_cat]; exact Nat.le_of_ble_eq_true rfl) (by decide) (by rw [hR]; decide) hf rfl (fun _ => rfl) (fun u1 w2 hf => ?_)
      refine v_iincB (pc := 35) (i := 2) (x := a2) (v := (1 : Int32)) hC dN_finish_35 2 rfl (by decide) (by decide) (fun x4 => [(2, .int x4), (0, va_rf (some b)), (1, .int a1)]) (fun _ => rfl) hf (fun x4 hf => ?_)
      refine v_goto (pc := 38) (tgt := 26) hC dN_finish_38 (by decide) ?_
      exact V.sub [1, 2, 0] rfl (hrec26 _ _ _ hf)
set_option maxHeartbeats 4000000 in
set_option maxRecDepth 100000 in
theorem tN_finish {C : xC} {G : cG} {w0 w' : cW} {r : Int32} {b : Nat} (hC : okC C prog_1_method_11_code 3 "ArenaNetwork" lw_gd) (hE : xE C (some .int) mkI G w0 w' r) (hR : xR C = rmN_finish)  (w : cW) (hf : fN_finish b w = some (r, w')) : V C w 0 0 0 [(0, va_rf (some b))] [] := by
  unfold fN_finish at hf
  refine v_aload_n (pc := 0) (i := 0) (r := (some b)) hC dN_finish_0 rfl 0 rfl ?_
  refine v_getI (pc := 1) (r := (some b)) hC dN_finish_1 inN rfl 5 (by decide) q89 (Or.inl rfl) hf (fun x1 hf => ?_)
  refine v_iconst (pc := 4) (v := (-1 : Int32)) hC dN_finish_4 (by decide) ?_
  refine v_icmp_ne (pc := 5) (tgt := 11) hC dN_finish_5 (by decide) hf (fun hf => ?_) (fun hf => ?_)
  · refine v_aload_n (pc := 11) (i := 0) (r := (some b)) hC dN_finish_11 rfl 0 rfl ?_
    refine v_getQ (pc := 12) (r := (some b)) hC dN_finish_12 inN rfl 1 (by decide) q85 (Or.inl rfl) hf (fun r2 hf => ?_)
    refine v_callV (pc := 15) (r := r2) (As := []) (rest := []) (k' := 0) (n' := 0) (st1 := (fun yq => [.int yq])) hC dN_finish_15 q116 q117 q118 q4 q119 ykL_size rfl rfl (fun bq rq wq hq => mL_size _ _ bq  _ rq wq hq) (by rw [hR]; decide) (by simp only [List.map_cons, List.map_nil, va_cat]; exact Nat.le_of_ble_eq_true rfl) (by decide) (by rw [hR]; decide) hf rfl (fun _ => rfl) (fun x3 w4 hf => ?_)
    refine v_aload_n (pc := 18) (i := 0) (r := (some b)) hC dN_finish_18 rfl 0 rfl ?_
    refine v_getI (pc := 19) (r := (some b)) hC dN_finish_19 inN rfl 5 (by decide) q89 (Or.inl rfl) hf (fun x6 hf => ?_)
    refine v_isub (pc := 22) hC dN_finish_22 ?_
    refine v_bndi hf (fun x7 hf => ?_)
    refine v_istore_n (pc := 23) (i := 1) (x := x7) hC dN_finish_23 rfl (by decide) [(1, .int x7), (0, va_rf (some b))] rfl ?_
    refine v_iconst (pc := 24) (v := (0 : Int32)) hC dN_finish_24 (by decide) ?_
    refine v_istore_n (pc := 25) (i := 2) (x := (0 : Int32)) hC dN_finish_25 rfl (by decide) [(2, .int (0 : Int32)), (1, .int x7), (0, va_rf (some b))] rfl ?_
    exact V.sub [2, 1, 0] rfl (tN_finish_l26 hC hE hR  FU _ _ _ hf)
  · refine v_bipush (pc := 8) (v := (-3 : Int32)) hC dN_finish_8 (by decide) ?_
    exact v_iret (pc := 10) hC hE dN_finish_10 (by rw [hR]; decide) (by rw [hR]; decide) hf
theorem mN_finish (l : Launch) (G : cG) (b : Nat)  (w : cW) (r : Int32) (w' : cW) (hf : fN_finish b w = some (r, w')) : Met l yN_finish (wsM yN_finish prog_1_method_11_code 3 (some .int)) rmN_finish (mP G w [va_rf (some b)]) (mQ mkI G w w' r) (rmN_finish).cells (rmN_finish).slots (Aw w) :=
  met_of (by decide +kernel) rfl (Nat.le_of_ble_eq_true rfl) (fun C hC hR _ _ _ hts hE => tN_finish (okC.tbl hC) hE hR  w hf)
set_option maxHeartbeats 4000000 in
set_option maxRecDepth 100000 in
theorem tN_cell {C : xC} {G : cG} {w0 w' : cW} {r : Int32} {b : Nat} (hC : okC C prog_1_method_12_code 4 "ArenaNetwork" lw_gd) (hE : xE C (some .int) mkI G w0 w' r) (hR : xR C = rmN_cell) (a1 : Int32) (a2 : Int32) (w : cW) (hf : fN_cell b a1 a2 w = some (r, w')) : V C w 0 0 0 [(0, va_rf (some b)), (1, .int a1), (2, .int a2)] [] := by
  unfold fN_cell at hf
  refine v_aload_n (pc := 0) (i := 0) (r := (some b)) hC dN_cell_0 rfl 0 rfl ?_
  refine v_iload_n (pc := 1) (i := 1) (x := a1) hC dN_cell_1 rfl 1 rfl ?_
  refine v_callV (pc := 2) (r := (some b)) (As := [.int a1]) (rest := []) (k' := 0) (n' := 0) (st1 := (fun yq => [va_rf yq])) hC dN_cell_2 q235 q237 p3 q1 q238 ykN_tensorAt rfl rfl (fun bq rq wq hq => mN_tensorAt _ _ bq a1 _ rq wq hq) (by rw [hR]; decide) (by simp only [List.map_cons, List.map_nil, va_cat]; exact Nat.le_of_ble_eq_true rfl) (by decide) (by rw [hR]; decide) hf rfl (fun _ => rfl) (fun r1 w2 hf => ?_)
  refine v_astore_n (pc := 5) (i := 3) (r := r1) hC dN_cell_5 rfl (by decide) [(3, va_rf r1), (0, va_rf (some b)), (1, .int a1), (2, .int a2)] rfl ?_
  refine v_aload_n (pc := 6) (i := 3) (r := r1) hC dN_cell_6 rfl 0 rfl ?_
  refine v_ifnull (pc := 7) (tgt := 18) hC dN_cell_7 (by decide) hf (fun hf => ?_) (fun hf => ?_)
  · refine v_sipush (pc := 18) (v := (-1000 : Int32)) hC dN_cell_18 (by decide) ?_
    exact v_iret (pc := 21) hC hE dN_cell_21 (by rw [hR]; decide) (by rw [hR]; decide) hf
  · refine v_aload_n (pc := 10) (i := 3) (r := r1) hC dN_cell_10 rfl 0 rfl ?_
    refine v_iload_n (pc := 11) (i := 2) (x := a2) hC dN_cell_11 rfl 3 rfl ?_
    refine v_callV (pc := 12) (r := r1) (As := [.int a2]) (rest := []) (k' := 0) (n' := 0) (st1 := (fun yq => [.int yq])) hC dN_cell_12 q253 q254 q255 q8 q256 ykT_hasCell rfl rfl (fun bq rq wq hq => mT_hasCell _ _ bq a2 _ rq wq hq) (by rw [hR]; decide) (by simp only [List.map_cons, List.map_nil, va_cat]; exact Nat.le_of_ble_eq_true rfl) (by decide) (by rw [hR]; decide) hf rfl (fun _ => rfl) (fun x4 w5 hf => ?_)
    refine v_if_ne (pc := 15) (tgt := 22) hC dN_cell_15 (by decide) hf (fun hf => ?_) (fun hf => ?_)
    · refine v_aload_n (pc := 22) (i := 3) (r := r1) hC dN_cell_22 rfl 0 rfl ?_
      refine v_getI (pc := 23) (r := r1) hC dN_cell_23 inT rfl 1 (by decide) q130 (Or.inl rfl) hf (fun x7 hf => ?_)
      refine v_if_eq (pc := 26) (tgt := 48) hC dN_cell_26 (by decide) hf (fun hf => ?_) (fun hf => ?_)
      · refine v_aload_n (pc := 48) (i := 3) (r := r1) hC dN_cell_48 rfl 0 rfl ?_
        refine v_getQ (pc := 49) (r := r1) hC dN_cell_49 inT rfl 5 (by decide) q140 (Or.inl rfl) hf (fun r8 hf => ?_)
        refine v_iload_n (pc := 52) (i := 2) (x := a2) hC dN_cell_52 rfl 3 rfl ?_
        refine v_iald (pc := 53) hC dN_cell_53 hf (fun x9 hf => ?_)
        exact v_iret (pc := 54) hC hE dN_cell_54 (by rw [hR]; decide) (by rw [hR]; decide) hf
      · refine v_aload_n (pc := 29) (i := 0) (r := (some b)) hC dN_cell_29 rfl 1 rfl ?_
        refine v_getI (pc := 30) (r := (some b)) hC dN_cell_30 inN rfl 5 (by decide) q89 (Or.inl rfl) hf (fun x10 hf => ?_)
        refine v_iconst (pc := 33) (v := (-1 : Int32)) hC dN_cell_33 (by decide) ?_
        refine v_icmp_eq (pc := 34) (tgt := 55) hC dN_cell_34 (by decide) hf (fun hf => ?_) (fun hf => ?_)
        · refine v_sipush (pc := 55) (v := (-1000 : Int32)) hC dN_cell_55 (by decide) ?_
          exact v_iret (pc := 58) hC hE dN_cell_58 (by rw [hR]; decide) (by rw [hR]; decide) hf
        · refine v_aload_n (pc := 37) (i := 3) (r := r1) hC dN_cell_37 rfl 0 rfl ?_
          refine v_aload_n (pc := 38) (i := 0) (r := (some b)) hC dN_cell_38 rfl 1 rfl ?_
          refine v_getI (pc := 39) (r := (some b)) hC dN_cell_39 inN rfl 5 (by decide) q89 (Or.inl rfl) hf (fun x11 hf => ?_)
          refine v_callV (pc := 42) (r := r1) (As := [.int x11]) (rest := []) (k' := 0) (n' := 0) (st1 := (fun yq => [.int yq])) hC dN_cell_42 q433 q434 q435 q8 q436 ykT_livesAfter rfl rfl (fun bq rq wq hq => mT_livesAfter _ _ bq x11 _ rq wq hq) (by rw [hR]; decide) (by simp only [List.map_cons, List.map_nil, va_cat]; exact Nat.le_of_ble_eq_true rfl) (by decide) (by rw [hR]; decide) hf rfl (fun _ => rfl) (fun x12 w13 hf => ?_)
          refine v_if_eq (pc := 45) (tgt := 55) hC dN_cell_45 (by decide) hf (fun hf => ?_) (fun hf => ?_)
          · refine v_sipush (pc := 55) (v := (-1000 : Int32)) hC dN_cell_55 (by decide) ?_
            exact v_iret (pc := 58) hC hE dN_cell_58 (by rw [hR]; decide) (by rw [hR]; decide) hf
          · refine v_aload_n (pc := 48) (i := 3) (r := r1) hC dN_cell_48 rfl 0 rfl ?_
            refine v_getQ (pc := 49) (r := r1) hC dN_cell_49 inT rfl 5 (by decide) q140 (Or.inl rfl) hf (fun r15 hf => ?_)
            refine v_iload_n (pc := 52) (i := 2) (x := a2) hC dN_cell_52 rfl 3 rfl ?_
            refine v_iald (pc := 53) hC dN_cell_53 hf (fun x16 hf => ?_)
            exact v_iret (pc := 54) hC hE dN_cell_54 (by rw [hR]; decide) (by rw [hR]; decide) hf
    · refine v_sipush (pc := 18) (v := (-1000 : Int32)) hC dN_cell_18 (by decide) ?_
      exact v_iret (pc := 21) hC hE dN_cell_21 (by rw [hR]; decide) (by rw [hR]; decide) hf
theorem mN_cell (l : Launch) (G : cG) (b : Nat) (a1 : Int32) (a2 : Int32) (w : cW) (r : Int32) (w' : cW) (hf : fN_cell b a1 a2 w = some (r, w')) : Met l yN_cell (wsM yN_cell prog_1_method_12_code 4 (some .int)) rmN_cell (mP G w [va_rf (some b), .int a1, .int a2]) (mQ mkI G w w' r) (rmN_cell).cells (rmN_cell).slots (Aw w) :=
  met_of (by decide +kernel) rfl (Nat.le_of_ble_eq_true rfl) (fun C hC hR _ _ _ hts hE => tN_cell (okC.tbl hC) hE hR a1 a2 w hf)
set_option maxHeartbeats 4000000 in
set_option maxRecDepth 100000 in
theorem tN_offset {C : xC} {G : cG} {w0 w' : cW} {r : Int32} {b : Nat} (hC : okC C prog_1_method_13_code 3 "ArenaNetwork" lw_gd) (hE : xE C (some .int) mkI G w0 w' r) (hR : xR C = rmN_offset) (a1 : Int32) (w : cW) (hf : fN_offset b a1 w = some (r, w')) : V C w 0 0 0 [(0, va_rf (some b)), (1, .int a1)] [] := by
  unfold fN_offset at hf
  refine v_aload_n (pc := 0) (i := 0) (r := (some b)) hC dN_offset_0 rfl 0 rfl ?_
  refine v_iload_n (pc := 1) (i := 1) (x := a1) hC dN_offset_1 rfl 1 rfl ?_
  refine v_callV (pc := 2) (r := (some b)) (As := [.int a1]) (rest := []) (k' := 0) (n' := 0) (st1 := (fun yq => [va_rf yq])) hC dN_offset_2 q441 q443 p17 q1 q444 ykN_livingTensorAt rfl rfl (fun bq rq wq hq => mN_livingTensorAt _ _ bq a1 _ rq wq hq) (by rw [hR]; decide) (by simp only [List.map_cons, List.map_nil, va_cat]; exact Nat.le_of_ble_eq_true rfl) (by decide) (by rw [hR]; decide) hf rfl (fun _ => rfl) (fun r1 w2 hf => ?_)
  refine v_astore_n (pc := 5) (i := 2) (r := r1) hC dN_offset_5 rfl (by decide) [(2, va_rf r1), (0, va_rf (some b)), (1, .int a1)] rfl ?_
  refine v_aload_n (pc := 6) (i := 2) (r := r1) hC dN_offset_6 rfl 0 rfl ?_
  refine v_ifnonnull (pc := 7) (tgt := 14) hC dN_offset_7 (by decide) hf (fun hf => ?_) (fun hf => ?_)
  · refine v_aload_n (pc := 14) (i := 2) (r := r1) hC dN_offset_14 rfl 0 rfl ?_
    refine v_getI (pc := 15) (r := r1) hC dN_offset_15 inT rfl 10 (by decide) q152 (Or.inl rfl) hf (fun x4 hf => ?_)
    exact v_iret (pc := 18) hC hE dN_offset_18 (by rw [hR]; decide) (by rw [hR]; decide) hf
  · refine v_iconst (pc := 10) (v := (-1 : Int32)) hC dN_offset_10 (by decide) ?_
    refine v_goto (pc := 11) (tgt := 18) hC dN_offset_11 (by decide) ?_
    exact v_iret (pc := 18) hC hE dN_offset_18 (by rw [hR]; decide) (by rw [hR]; decide) hf
theorem mN_offset (l : Launch) (G : cG) (b : Nat) (a1 : Int32) (w : cW) (r : Int32) (w' : cW) (hf : fN_offset b a1 w = some (r, w')) : Met l yN_offset (wsM yN_offset prog_1_method_13_code 3 (some .int)) rmN_offset (mP G w [va_rf (some b), .int a1]) (mQ mkI G w w' r) (rmN_offset).cells (rmN_offset).slots (Aw w) :=
  met_of (by decide +kernel) rfl (Nat.le_of_ble_eq_true rfl) (fun C hC hR _ _ _ hts hE => tN_offset (okC.tbl hC) hE hR a1 w hf)
set_option maxHeartbeats 4000000 in
set_option maxRecDepth 100000 in
theorem tN_life {C : xC} {G : cG} {w0 w' : cW} {r : Int32} {b : Nat} (hC : okC C prog_1_method_14_code 4 "ArenaNetwork" lw_gd) (hE : xE C (some .int) mkI G w0 w' r) (hR : xR C = rmN_life) (a1 : Int32) (a2 : Int32) (w : cW) (hf : fN_life b a1 a2 w = some (r, w')) : V C w 0 0 0 [(0, va_rf (some b)), (1, .int a1), (2, .int a2)] [] := by
  unfold fN_life at hf
  refine v_aload_n (pc := 0) (i := 0) (r := (some b)) hC dN_life_0 rfl 0 rfl ?_
  refine v_iload_n (pc := 1) (i := 1) (x := a1) hC dN_life_1 rfl 1 rfl ?_
  refine v_callV (pc := 2) (r := (some b)) (As := [.int a1]) (rest := []) (k' := 0) (n' := 0) (st1 := (fun yq => [va_rf yq])) hC dN_life_2 q441 q443 p17 q1 q444 ykN_livingTensorAt rfl rfl (fun bq rq wq hq => mN_livingTensorAt _ _ bq a1 _ rq wq hq) (by rw [hR]; decide) (by simp only [List.map_cons, List.map_nil, va_cat]; exact Nat.le_of_ble_eq_true rfl) (by decide) (by rw [hR]; decide) hf rfl (fun _ => rfl) (fun r1 w2 hf => ?_)
  refine v_astore_n (pc := 5) (i := 3) (r := r1) hC dN_life_5 rfl (by decide) [(3, va_rf r1), (0, va_rf (some b)), (1, .int a1), (2, .int a2)] rfl ?_
  refine v_aload_n (pc := 6) (i := 3) (r := r1) hC dN_life_6 rfl 0 rfl ?_
  refine v_ifnonnull (pc := 7) (tgt := 14) hC dN_life_7 (by decide) hf (fun hf => ?_) (fun hf => ?_)
  · refine v_iload_n (pc := 14) (i := 2) (x := a2) hC dN_life_14 rfl 3 rfl ?_
    refine v_if_eq (pc := 15) (tgt := 25) hC dN_life_15 (by decide) hf (fun hf => ?_) (fun hf => ?_)
    · refine v_aload_n (pc := 25) (i := 3) (r := r1) hC dN_life_25 rfl 0 rfl ?_
      refine v_getI (pc := 26) (r := r1) hC dN_life_26 inT rfl 8 (by decide) q147 (Or.inl rfl) hf (fun x4 hf => ?_)
      exact v_iret (pc := 29) hC hE dN_life_29 (by rw [hR]; decide) (by rw [hR]; decide) hf
    · refine v_aload_n (pc := 18) (i := 3) (r := r1) hC dN_life_18 rfl 0 rfl ?_
      refine v_getI (pc := 19) (r := r1) hC dN_life_19 inT rfl 9 (by decide) q149 (Or.inl rfl) hf (fun x5 hf => ?_)
      refine v_goto (pc := 22) (tgt := 29) hC dN_life_22 (by decide) ?_
      exact v_iret (pc := 29) hC hE dN_life_29 (by rw [hR]; decide) (by rw [hR]; decide) hf
  · refine v_sipush (pc := 10) (v := (-1000 : Int32)) hC dN_life_10 (by decide) ?_
    exact v_iret (pc := 13) hC hE dN_life_13 (by rw [hR]; decide) (by rw [hR]; decide) hf
theorem mN_life (l : Launch) (G : cG) (b : Nat) (a1 : Int32) (a2 : Int32) (w : cW) (r : Int32) (w' : cW) (hf : fN_life b a1 a2 w = some (r, w')) : Met l yN_life (wsM yN_life prog_1_method_14_code 4 (some .int)) rmN_life (mP G w [va_rf (some b), .int a1, .int a2]) (mQ mkI G w w' r) (rmN_life).cells (rmN_life).slots (Aw w) :=
  met_of (by decide +kernel) rfl (Nat.le_of_ble_eq_true rfl) (fun C hC hR _ _ _ hts hE => tN_life (okC.tbl hC) hE hR a1 a2 w hf)
set_option maxHeartbeats 4000000 in
set_option maxRecDepth 100000 in
theorem tN_placed {C : xC} {G : cG} {w0 w' : cW} {r : Int32} {b : Nat} (hC : okC C prog_1_method_15_code 2 "ArenaNetwork" lw_gd) (hE : xE C (some .int) mkI G w0 w' r) (hR : xR C = rmN_placed) (a1 : Int32) (w : cW) (hf : fN_placed b a1 w = some (r, w')) : V C w 0 0 0 [(0, va_rf (some b)), (1, .int a1)] [] := by
  unfold fN_placed at hf
  refine v_aload_n (pc := 0) (i := 0) (r := (some b)) hC dN_placed_0 rfl 0 rfl ?_
  refine v_getI (pc := 1) (r := (some b)) hC dN_placed_1 inN rfl 4 (by decide) q88 (Or.inl rfl) hf (fun x1 hf => ?_)
  refine v_if_eq (pc := 4) (tgt := 25) hC dN_placed_4 (by decide) hf (fun hf => ?_) (fun hf => ?_)
  · refine v_iconst (pc := 25) (v := (-1 : Int32)) hC dN_placed_25 (by decide) ?_
    exact v_iret (pc := 26) hC hE dN_placed_26 (by rw [hR]; decide) (by rw [hR]; decide) hf
  · refine v_iload_n (pc := 7) (i := 1) (x := a1) hC dN_placed_7 rfl 1 rfl ?_
    refine v_if_lt (pc := 8) (tgt := 25) hC dN_placed_8 (by decide) hf (fun hf => ?_) (fun hf => ?_)
    · refine v_iconst (pc := 25) (v := (-1 : Int32)) hC dN_placed_25 (by decide) ?_
      exact v_iret (pc := 26) hC hE dN_placed_26 (by rw [hR]; decide) (by rw [hR]; decide) hf
    · refine v_iload_n (pc := 11) (i := 1) (x := a1) hC dN_placed_11 rfl 1 rfl ?_
      refine v_aload_n (pc := 12) (i := 0) (r := (some b)) hC dN_placed_12 rfl 0 rfl ?_
      refine v_getQ (pc := 13) (r := (some b)) hC dN_placed_13 inN rfl 3 (by decide) q87 (Or.inl rfl) hf (fun r2 hf => ?_)
      refine v_getQ (pc := 16) (r := r2) hC dN_placed_16 inA rfl 0 (by decide) q61 (Or.inl rfl) hf (fun r3 hf => ?_)
      refine v_callV (pc := 19) (r := r3) (As := []) (rest := [.int a1]) (k' := 0) (n' := 0) (st1 := (fun yq => [.int yq, .int a1])) hC dN_placed_19 q116 q117 q118 q4 q119 ykL_size rfl rfl (fun bq rq wq hq => mL_size _ _ bq  _ rq wq hq) (by rw [hR]; decide) (by simp only [List.map_cons, List.map_nil, va_cat]; exact Nat.le_of_ble_eq_true rfl) (by decide) (by rw [hR]; decide) hf rfl (fun _ => rfl) (fun x4 w5 hf => ?_)
      refine v_icmp_lt (pc := 22) (tgt := 27) hC dN_placed_22 (by decide) hf (fun hf => ?_) (fun hf => ?_)
      · refine v_aload_n (pc := 27) (i := 0) (r := (some b)) hC dN_placed_27 rfl 0 rfl ?_
        refine v_getQ (pc := 28) (r := (some b)) hC dN_placed_28 inN rfl 3 (by decide) q87 (Or.inl rfl) hf (fun r7 hf => ?_)
        refine v_getQ (pc := 31) (r := r7) hC dN_placed_31 inA rfl 0 (by decide) q61 (Or.inl rfl) hf (fun r8 hf => ?_)
        refine v_iload_n (pc := 34) (i := 1) (x := a1) hC dN_placed_34 rfl 1 rfl ?_
        refine v_callV (pc := 35) (r := r8) (As := [.int a1]) (rest := []) (k' := 0) (n' := 0) (st1 := (fun yq => [va_rf yq])) hC dN_placed_35 q239 q240 q241 q4 q242 ykL_get rfl rfl (fun bq rq wq hq => mL_get _ _ bq a1 _ rq wq hq) (by rw [hR]; decide) (by simp only [List.map_cons, List.map_nil, va_cat]; exact Nat.le_of_ble_eq_true rfl) (by decide) (by rw [hR]; decide) hf rfl (fun _ => rfl) (fun r9 w10 hf => ?_)
        refine v_cast (pc := 38) (r := r9) hC dN_placed_38 rfl q120 hf (fun hf => ?_)
        refine v_getI (pc := 41) (r := r9) hC dN_placed_41 inT rfl 0 (by decide) q127 (Or.inl rfl) hf (fun x12 hf => ?_)
        exact v_iret (pc := 44) hC hE dN_placed_44 (by rw [hR]; decide) (by rw [hR]; decide) hf
      · refine v_iconst (pc := 25) (v := (-1 : Int32)) hC dN_placed_25 (by decide) ?_
        exact v_iret (pc := 26) hC hE dN_placed_26 (by rw [hR]; decide) (by rw [hR]; decide) hf
theorem mN_placed (l : Launch) (G : cG) (b : Nat) (a1 : Int32) (w : cW) (r : Int32) (w' : cW) (hf : fN_placed b a1 w = some (r, w')) : Met l yN_placed (wsM yN_placed prog_1_method_15_code 2 (some .int)) rmN_placed (mP G w [va_rf (some b), .int a1]) (mQ mkI G w w' r) (rmN_placed).cells (rmN_placed).slots (Aw w) :=
  met_of (by decide +kernel) rfl (Nat.le_of_ble_eq_true rfl) (fun C hC hR _ _ _ hts hE => tN_placed (okC.tbl hC) hE hR a1 w hf)
set_option maxHeartbeats 4000000 in
set_option maxRecDepth 100000 in
theorem tN_scaled {C : xC} {G : cG} {w0 w' : cW} {r : Int32} {b : Nat} (hC : okC C prog_1_method_16_code 3 "ArenaNetwork" lw_gd) (hE : xE C (some .int) mkI G w0 w' r) (hR : xR C = rmN_scaled) (a1 : Int32) (a2 : Int32) (w : cW) (hf : fN_scaled b a1 a2 w = some (r, w')) : V C w 0 0 0 [(0, va_rf (some b)), (1, .int a1), (2, .int a2)] [] := by
  unfold fN_scaled at hf
  refine v_iload_n (pc := 0) (i := 1) (x := a1) hC dN_scaled_0 rfl 1 rfl ?_
  refine v_callS (pc := 1) (As := [.int a1]) (rest := []) (k' := 0) (n' := 0) (st1 := (fun yq => [.int yq])) hC dN_scaled_1 q261 q262 q1 q263 ykN_isScale rfl (fun rq wq hq => mN_isScale _ _ a1 _ rq wq hq) (by rw [hR]; decide) (by simp only [List.map_cons, List.map_nil, va_cat]; exact Nat.le_of_ble_eq_true rfl) (by decide) (by rw [hR]; decide) hf rfl (fun _ => rfl) (fun x1 w2 hf => ?_)
  refine v_if_eq (pc := 4) (tgt := 18) hC dN_scaled_4 (by decide) hf (fun hf => ?_) (fun hf => ?_)
  · refine v_iconst (pc := 18) (v := (0 : Int32)) hC dN_scaled_18 (by decide) ?_
    exact v_iret (pc := 19) hC hE dN_scaled_19 (by rw [hR]; decide) (by rw [hR]; decide) hf
  · refine v_iload_n (pc := 7) (i := 2) (x := a2) hC dN_scaled_7 rfl 2 rfl ?_
    refine v_ldc (pc := 8) (v := (-16777216 : Int32)) hC dN_scaled_8 q457 ?_
    refine v_ldc (pc := 10) (v := (16777216 : Int32)) hC dN_scaled_10 q458 ?_
    refine v_callS (pc := 12) (As := [.int a2, .int (-16777216 : Int32), .int (16777216 : Int32)]) (rest := []) (k' := 0) (n' := 0) (st1 := (fun yq => [.int yq])) hC dN_scaled_12 q107 q108 q1 q109 ykN_isWithin rfl (fun rq wq hq => mN_isWithin _ _ a2 (-16777216 : Int32) (16777216 : Int32) _ rq wq hq) (by rw [hR]; decide) (by simp only [List.map_cons, List.map_nil, va_cat]; exact Nat.le_of_ble_eq_true rfl) (by decide) (by rw [hR]; decide) hf rfl (fun _ => rfl) (fun x3 w4 hf => ?_)
    refine v_if_ne (pc := 15) (tgt := 20) hC dN_scaled_15 (by decide) hf (fun hf => ?_) (fun hf => ?_)
    · refine v_aload_n (pc := 20) (i := 0) (r := (some b)) hC dN_scaled_20 rfl 0 rfl ?_
      refine v_getQ (pc := 21) (r := (some b)) hC dN_scaled_21 inN rfl 2 (by decide) q86 (Or.inl rfl) hf (fun r5 hf => ?_)
      refine v_iload_n (pc := 24) (i := 1) (x := a1) hC dN_scaled_24 rfl 1 rfl ?_
      refine v_aald (pc := 25) hC dN_scaled_25 hf (fun r6 hf => ?_)
      refine v_iload_n (pc := 26) (i := 2) (x := a2) hC dN_scaled_26 rfl 2 rfl ?_
      refine v_i2l (pc := 27) hC dN_scaled_27 ?_
      refine v_callV (pc := 28) (r := r6) (As := [.long a2.toInt64]) (rest := []) (k' := 0) (n' := 0) (st1 := (fun yq => [.int yq])) hC dN_scaled_28 q459 q399 q400 q6 q401 ykS_applied rfl rfl (fun bq rq wq hq => mS_applied _ _ bq a2.toInt64 _ rq wq hq) (by rw [hR]; decide) (by simp only [List.map_cons, List.map_nil, va_cat]; exact Nat.le_of_ble_eq_true rfl) (by decide) (by rw [hR]; decide) hf rfl (fun _ => rfl) (fun x7 w8 hf => ?_)
      exact v_iret (pc := 31) hC hE dN_scaled_31 (by rw [hR]; decide) (by rw [hR]; decide) hf
    · refine v_iconst (pc := 18) (v := (0 : Int32)) hC dN_scaled_18 (by decide) ?_
      exact v_iret (pc := 19) hC hE dN_scaled_19 (by rw [hR]; decide) (by rw [hR]; decide) hf
theorem mN_scaled (l : Launch) (G : cG) (b : Nat) (a1 : Int32) (a2 : Int32) (w : cW) (r : Int32) (w' : cW) (hf : fN_scaled b a1 a2 w = some (r, w')) : Met l yN_scaled (wsM yN_scaled prog_1_method_16_code 3 (some .int)) rmN_scaled (mP G w [va_rf (some b), .int a1, .int a2]) (mQ mkI G w w' r) (rmN_scaled).cells (rmN_scaled).slots (Aw w) :=
  met_of (by decide +kernel) rfl (Nat.le_of_ble_eq_true rfl) (fun C hC hR _ _ _ hts hE => tN_scaled (okC.tbl hC) hE hR a1 a2 w hf)
set_option maxHeartbeats 4000000 in
set_option maxRecDepth 100000 in
theorem tN_count {C : xC} {G : cG} {w0 w' : cW} {r : Int32} {b : Nat} (hC : okC C prog_1_method_17_code 2 "ArenaNetwork" lw_gd) (hE : xE C (some .int) mkI G w0 w' r) (hR : xR C = rmN_count) (a1 : Int32) (w : cW) (hf : fN_count b a1 w = some (r, w')) : V C w 0 0 0 [(0, va_rf (some b)), (1, .int a1)] [] := by
  unfold fN_count at hf
  refine v_iload_n (pc := 0) (i := 1) (x := a1) hC dN_count_0 rfl 1 rfl ?_
  by_cases e1_0 : a1 = (0 : Int32)
  · rw [if_pos e1_0] at hf
    refine v_tabIn (tgt := 40) (off := 39) hC dN_count_1 (by rw [e1_0]; decide) (by rw [e1_0]; decide) (by rw [e1_0]; decide) (by decide) ?_
    refine v_aload_n (pc := 40) (i := 0) (r := (some b)) hC dN_count_40 rfl 0 rfl ?_
    refine v_getQ (pc := 41) (r := (some b)) hC dN_count_41 inN rfl 0 (by decide) q84 (Or.inl rfl) hf (fun r1 hf => ?_)
    refine v_callV (pc := 44) (r := r1) (As := []) (rest := []) (k' := 0) (n' := 0) (st1 := (fun yq => [.int yq])) hC dN_count_44 q116 q117 q118 q4 q119 ykL_size rfl rfl (fun bq rq wq hq => mL_size _ _ bq  _ rq wq hq) (by rw [hR]; decide) (by simp only [List.map_cons, List.map_nil, va_cat]; exact Nat.le_of_ble_eq_true rfl) (by decide) (by rw [hR]; decide) hf rfl (fun _ => rfl) (fun x2 w3 hf => ?_)
    exact v_iret (pc := 47) hC hE dN_count_47 (by rw [hR]; decide) (by rw [hR]; decide) hf
  rw [if_neg e1_0] at hf
  by_cases e1_1 : a1 = (1 : Int32)
  · rw [if_pos e1_1] at hf
    refine v_tabIn (tgt := 48) (off := 47) hC dN_count_1 (by rw [e1_1]; decide) (by rw [e1_1]; decide) (by rw [e1_1]; decide) (by decide) ?_
    refine v_aload_n (pc := 48) (i := 0) (r := (some b)) hC dN_count_48 rfl 0 rfl ?_
    refine v_getQ (pc := 49) (r := (some b)) hC dN_count_49 inN rfl 1 (by decide) q85 (Or.inl rfl) hf (fun r5 hf => ?_)
    refine v_callV (pc := 52) (r := r5) (As := []) (rest := []) (k' := 0) (n' := 0) (st1 := (fun yq => [.int yq])) hC dN_count_52 q116 q117 q118 q4 q119 ykL_size rfl rfl (fun bq rq wq hq => mL_size _ _ bq  _ rq wq hq) (by rw [hR]; decide) (by simp only [List.map_cons, List.map_nil, va_cat]; exact Nat.le_of_ble_eq_true rfl) (by decide) (by rw [hR]; decide) hf rfl (fun _ => rfl) (fun x6 w7 hf => ?_)
    exact v_iret (pc := 55) hC hE dN_count_55 (by rw [hR]; decide) (by rw [hR]; decide) hf
  rw [if_neg e1_1] at hf
  by_cases e1_2 : a1 = (2 : Int32)
  · rw [if_pos e1_2] at hf
    refine v_tabIn (tgt := 56) (off := 55) hC dN_count_1 (by rw [e1_2]; decide) (by rw [e1_2]; decide) (by rw [e1_2]; decide) (by decide) ?_
    refine v_aload_n (pc := 56) (i := 0) (r := (some b)) hC dN_count_56 rfl 0 rfl ?_
    refine v_getI (pc := 57) (r := (some b)) hC dN_count_57 inN rfl 4 (by decide) q88 (Or.inl rfl) hf (fun x9 hf => ?_)
    refine v_if_eq (pc := 60) (tgt := 67) hC dN_count_60 (by decide) hf (fun hf => ?_) (fun hf => ?_)
    · refine v_iconst (pc := 67) (v := (0 : Int32)) hC dN_count_67 (by decide) ?_
      exact v_iret (pc := 68) hC hE dN_count_68 (by rw [hR]; decide) (by rw [hR]; decide) hf
    · refine v_iconst (pc := 63) (v := (1 : Int32)) hC dN_count_63 (by decide) ?_
      refine v_goto (pc := 64) (tgt := 68) hC dN_count_64 (by decide) ?_
      exact v_iret (pc := 68) hC hE dN_count_68 (by rw [hR]; decide) (by rw [hR]; decide) hf
  rw [if_neg e1_2] at hf
  by_cases e1_3 : a1 = (3 : Int32)
  · rw [if_pos e1_3] at hf
    refine v_tabIn (tgt := 69) (off := 68) hC dN_count_1 (by rw [e1_3]; decide) (by rw [e1_3]; decide) (by rw [e1_3]; decide) (by decide) ?_
    refine v_aload_n (pc := 69) (i := 0) (r := (some b)) hC dN_count_69 rfl 0 rfl ?_
    refine v_getI (pc := 70) (r := (some b)) hC dN_count_70 inN rfl 5 (by decide) q89 (Or.inl rfl) hf (fun x10 hf => ?_)
    exact v_iret (pc := 73) hC hE dN_count_73 (by rw [hR]; decide) (by rw [hR]; decide) hf
  rw [if_neg e1_3] at hf
  by_cases e1_4 : a1 = (4 : Int32)
  · rw [if_pos e1_4] at hf
    refine v_tabIn (tgt := 74) (off := 73) hC dN_count_1 (by rw [e1_4]; decide) (by rw [e1_4]; decide) (by rw [e1_4]; decide) (by decide) ?_
    refine v_aload_n (pc := 74) (i := 0) (r := (some b)) hC dN_count_74 rfl 0 rfl ?_
    refine v_getI (pc := 75) (r := (some b)) hC dN_count_75 inN rfl 4 (by decide) q88 (Or.inl rfl) hf (fun x11 hf => ?_)
    refine v_if_eq (pc := 78) (tgt := 91) hC dN_count_78 (by decide) hf (fun hf => ?_) (fun hf => ?_)
    · refine v_iconst (pc := 91) (v := (0 : Int32)) hC dN_count_91 (by decide) ?_
      exact v_iret (pc := 92) hC hE dN_count_92 (by rw [hR]; decide) (by rw [hR]; decide) hf
    · refine v_aload_n (pc := 81) (i := 0) (r := (some b)) hC dN_count_81 rfl 0 rfl ?_
      refine v_getQ (pc := 82) (r := (some b)) hC dN_count_82 inN rfl 3 (by decide) q87 (Or.inl rfl) hf (fun r12 hf => ?_)
      refine v_getI (pc := 85) (r := r12) hC dN_count_85 inA rfl 1 (by decide) q63 (Or.inl rfl) hf (fun x13 hf => ?_)
      refine v_goto (pc := 88) (tgt := 92) hC dN_count_88 (by decide) ?_
      exact v_iret (pc := 92) hC hE dN_count_92 (by rw [hR]; decide) (by rw [hR]; decide) hf
  rw [if_neg e1_4] at hf
  by_cases e1_5 : a1 = (5 : Int32)
  · rw [if_pos e1_5] at hf
    refine v_tabIn (tgt := 93) (off := 92) hC dN_count_1 (by rw [e1_5]; decide) (by rw [e1_5]; decide) (by rw [e1_5]; decide) (by decide) ?_
    refine v_aload_n (pc := 93) (i := 0) (r := (some b)) hC dN_count_93 rfl 0 rfl ?_
    refine v_getI (pc := 94) (r := (some b)) hC dN_count_94 inN rfl 4 (by decide) q88 (Or.inl rfl) hf (fun x14 hf => ?_)
    refine v_if_eq (pc := 97) (tgt := 110) hC dN_count_97 (by decide) hf (fun hf => ?_) (fun hf => ?_)
    · refine v_iconst (pc := 110) (v := (0 : Int32)) hC dN_count_110 (by decide) ?_
      exact v_iret (pc := 111) hC hE dN_count_111 (by rw [hR]; decide) (by rw [hR]; decide) hf
    · refine v_aload_n (pc := 100) (i := 0) (r := (some b)) hC dN_count_100 rfl 0 rfl ?_
      refine v_getQ (pc := 101) (r := (some b)) hC dN_count_101 inN rfl 3 (by decide) q87 (Or.inl rfl) hf (fun r15 hf => ?_)
      refine v_callV (pc := 104) (r := r15) (As := []) (rest := []) (k' := 0) (n' := 0) (st1 := (fun yq => [.int yq])) hC dN_count_104 q464 q465 q466 q5 q467 ykA_sumOfLengths rfl rfl (fun bq rq wq hq => mA_sumOfLengths _ _ bq  _ rq wq hq) (by rw [hR]; decide) (by simp only [List.map_cons, List.map_nil, va_cat]; exact Nat.le_of_ble_eq_true rfl) (by decide) (by rw [hR]; decide) hf rfl (fun _ => rfl) (fun x16 w17 hf => ?_)
      refine v_goto (pc := 107) (tgt := 111) hC dN_count_107 (by decide) ?_
      exact v_iret (pc := 111) hC hE dN_count_111 (by rw [hR]; decide) (by rw [hR]; decide) hf
  rw [if_neg e1_5] at hf
  refine v_tabOut (pc := 1) (tgt := 112) hC dN_count_1 (by have n0 := lv_neT (a := 0) e1_0 (by decide); have n1 := lv_neT (a := 1) e1_1 (by decide); have n2 := lv_neT (a := 2) e1_2 (by decide); have n3 := lv_neT (a := 3) e1_3 (by decide); have n4 := lv_neT (a := 4) e1_4 (by decide); have n5 := lv_neT (a := 5) e1_5 (by decide); omega) (by decide) ?_
  refine v_iconst (pc := 112) (v := (-1 : Int32)) hC dN_count_112 (by decide) ?_
  exact v_iret (pc := 113) hC hE dN_count_113 (by rw [hR]; decide) (by rw [hR]; decide) hf
theorem mN_count (l : Launch) (G : cG) (b : Nat) (a1 : Int32) (w : cW) (r : Int32) (w' : cW) (hf : fN_count b a1 w = some (r, w')) : Met l yN_count (wsM yN_count prog_1_method_17_code 2 (some .int)) rmN_count (mP G w [va_rf (some b), .int a1]) (mQ mkI G w w' r) (rmN_count).cells (rmN_count).slots (Aw w) :=
  met_of (by decide +kernel) rfl (Nat.le_of_ble_eq_true rfl) (fun C hC hR _ _ _ hts hE => tN_count (okC.tbl hC) hE hR a1 w hf)
