abbrev yA_leastPlace : MethodName := ⟨"ArenaNetwork$Arena", "leastPlace", "(LArenaNetwork$Tensor;)I"⟩
abbrev rmA_leastPlace : Room := { frames := 4, cells := 0, slots := 0, locals := 89 }
theorem ykA_leastPlace : yOk yA_leastPlace 1 := by decide +kernel
theorem dA_leastPlace_0 : decode prog_2_method_5_code 0 = .ok (.iconst (0), 1) := by decide +kernel
theorem dA_leastPlace_1 : decode prog_2_method_5_code 1 = .ok (.istore_n 2, 1) := by decide +kernel
theorem dA_leastPlace_2 : decode prog_2_method_5_code 2 = .ok (.iload_n 2, 1) := by decide +kernel
theorem dA_leastPlace_3 : decode prog_2_method_5_code 3 = .ok (.sipush (320), 3) := by decide +kernel
theorem dA_leastPlace_6 : decode prog_2_method_5_code 6 = .ok (.if_icmp .ge (18), 3) := by decide +kernel
theorem dA_leastPlace_9 : decode prog_2_method_5_code 9 = .ok (.aload_n 0, 1) := by decide +kernel
theorem dA_leastPlace_10 : decode prog_2_method_5_code 10 = .ok (.aload_n 1, 1) := by decide +kernel
theorem dA_leastPlace_11 : decode prog_2_method_5_code 11 = .ok (.iload_n 2, 1) := by decide +kernel
theorem dA_leastPlace_12 : decode prog_2_method_5_code 12 = .ok (.invokevirtual 61, 3) := by decide +kernel
theorem dA_leastPlace_15 : decode prog_2_method_5_code 15 = .ok (.ifCond .ne (9), 3) := by decide +kernel
theorem dA_leastPlace_18 : decode prog_2_method_5_code 18 = .ok (.iinc 2 (4), 3) := by decide +kernel
theorem dA_leastPlace_21 : decode prog_2_method_5_code 21 = .ok (.goto (-19), 3) := by decide +kernel
theorem dA_leastPlace_24 : decode prog_2_method_5_code 24 = .ok (.iload_n 2, 1) := by decide +kernel
theorem dA_leastPlace_25 : decode prog_2_method_5_code 25 = .ok (.ireturn, 1) := by decide +kernel
abbrev yA_put : MethodName := ⟨"ArenaNetwork$Arena", "put", "(LArenaNetwork$Tensor;)V"⟩
abbrev rmA_put : Room := { frames := 7, cells := 1, slots := 33, locals := 171 }
theorem ykA_put : yOk yA_put 1 := by decide +kernel
theorem dA_put_0 : decode prog_2_method_4_code 0 = .ok (.aload_n 1, 1) := by decide +kernel
theorem dA_put_1 : decode prog_2_method_4_code 1 = .ok (.aload_n 0, 1) := by decide +kernel
theorem dA_put_2 : decode prog_2_method_4_code 2 = .ok (.aload_n 1, 1) := by decide +kernel
theorem dA_put_3 : decode prog_2_method_4_code 3 = .ok (.invokevirtual 44, 3) := by decide +kernel
theorem dA_put_6 : decode prog_2_method_4_code 6 = .ok (.putfield 48, 3) := by decide +kernel
theorem dA_put_9 : decode prog_2_method_4_code 9 = .ok (.aload_n 0, 1) := by decide +kernel
theorem dA_put_10 : decode prog_2_method_4_code 10 = .ok (.aload_n 0, 1) := by decide +kernel
theorem dA_put_11 : decode prog_2_method_4_code 11 = .ok (.getfield 20, 3) := by decide +kernel
theorem dA_put_14 : decode prog_2_method_4_code 14 = .ok (.aload_n 1, 1) := by decide +kernel
theorem dA_put_15 : decode prog_2_method_4_code 15 = .ok (.getfield 48, 3) := by decide +kernel
theorem dA_put_18 : decode prog_2_method_4_code 18 = .ok (.aload_n 1, 1) := by decide +kernel
theorem dA_put_19 : decode prog_2_method_4_code 19 = .ok (.getfield 39, 3) := by decide +kernel
theorem dA_put_22 : decode prog_2_method_4_code 22 = .ok (.iadd, 1) := by decide +kernel
theorem dA_put_23 : decode prog_2_method_4_code 23 = .ok (.invokestatic 51, 3) := by decide +kernel
theorem dA_put_26 : decode prog_2_method_4_code 26 = .ok (.putfield 20, 3) := by decide +kernel
theorem dA_put_29 : decode prog_2_method_4_code 29 = .ok (.aload_n 0, 1) := by decide +kernel
theorem dA_put_30 : decode prog_2_method_4_code 30 = .ok (.getfield 14, 3) := by decide +kernel
theorem dA_put_33 : decode prog_2_method_4_code 33 = .ok (.aload_n 1, 1) := by decide +kernel
theorem dA_put_34 : decode prog_2_method_4_code 34 = .ok (.invokevirtual 57, 3) := by decide +kernel
theorem dA_put_37 : decode prog_2_method_4_code 37 = .ok (.pop, 1) := by decide +kernel
theorem dA_put_38 : decode prog_2_method_4_code 38 = .ok (.return_, 1) := by decide +kernel
abbrev yA_layOut : MethodName := ⟨"ArenaNetwork$Arena", "layOut", "(Ljava/util/ArrayList;)V"⟩
abbrev rmA_layOut : Room := { frames := 8, cells := 20, slots := 660, locals := 192 }
theorem ykA_layOut : yOk yA_layOut 1 := by decide +kernel
theorem dA_layOut_0 : decode prog_2_method_2_code 0 = .ok (.aload_n 0, 1) := by decide +kernel
theorem dA_layOut_1 : decode prog_2_method_2_code 1 = .ok (.getfield 14, 3) := by decide +kernel
theorem dA_layOut_4 : decode prog_2_method_2_code 4 = .ok (.invokevirtual 24, 3) := by decide +kernel
theorem dA_layOut_7 : decode prog_2_method_2_code 7 = .ok (.aload_n 0, 1) := by decide +kernel
theorem dA_layOut_8 : decode prog_2_method_2_code 8 = .ok (.iconst (0), 1) := by decide +kernel
theorem dA_layOut_9 : decode prog_2_method_2_code 9 = .ok (.putfield 20, 3) := by decide +kernel
theorem dA_layOut_12 : decode prog_2_method_2_code 12 = .ok (.bipush (16), 2) := by decide +kernel
theorem dA_layOut_14 : decode prog_2_method_2_code 14 = .ok (.istore_n 2, 1) := by decide +kernel
theorem dA_layOut_15 : decode prog_2_method_2_code 15 = .ok (.iload_n 2, 1) := by decide +kernel
theorem dA_layOut_16 : decode prog_2_method_2_code 16 = .ok (.iconst (1), 1) := by decide +kernel
theorem dA_layOut_17 : decode prog_2_method_2_code 17 = .ok (.if_icmp .lt (58), 3) := by decide +kernel
theorem dA_layOut_20 : decode prog_2_method_2_code 20 = .ok (.iconst (0), 1) := by decide +kernel
theorem dA_layOut_21 : decode prog_2_method_2_code 21 = .ok (.istore_n 3, 1) := by decide +kernel
theorem dA_layOut_22 : decode prog_2_method_2_code 22 = .ok (.iload_n 3, 1) := by decide +kernel
theorem dA_layOut_23 : decode prog_2_method_2_code 23 = .ok (.aload_n 1, 1) := by decide +kernel
theorem dA_layOut_24 : decode prog_2_method_2_code 24 = .ok (.invokevirtual 27, 3) := by decide +kernel
theorem dA_layOut_27 : decode prog_2_method_2_code 27 = .ok (.if_icmp .ge (42), 3) := by decide +kernel
theorem dA_layOut_30 : decode prog_2_method_2_code 30 = .ok (.aload_n 1, 1) := by decide +kernel
theorem dA_layOut_31 : decode prog_2_method_2_code 31 = .ok (.iload_n 3, 1) := by decide +kernel
theorem dA_layOut_32 : decode prog_2_method_2_code 32 = .ok (.invokevirtual 31, 3) := by decide +kernel
theorem dA_layOut_35 : decode prog_2_method_2_code 35 = .ok (.checkcast 1, 3) := by decide +kernel
theorem dA_layOut_38 : decode prog_2_method_2_code 38 = .ok (.astore 4, 2) := by decide +kernel
theorem dA_layOut_40 : decode prog_2_method_2_code 40 = .ok (.aload 4, 2) := by decide +kernel
theorem dA_layOut_42 : decode prog_2_method_2_code 42 = .ok (.getfield 35, 3) := by decide +kernel
theorem dA_layOut_45 : decode prog_2_method_2_code 45 = .ok (.ifCond .eq (18), 3) := by decide +kernel
theorem dA_layOut_48 : decode prog_2_method_2_code 48 = .ok (.aload 4, 2) := by decide +kernel
theorem dA_layOut_50 : decode prog_2_method_2_code 50 = .ok (.getfield 39, 3) := by decide +kernel
theorem dA_layOut_53 : decode prog_2_method_2_code 53 = .ok (.iload_n 2, 1) := by decide +kernel
theorem dA_layOut_54 : decode prog_2_method_2_code 54 = .ok (.if_icmp .ne (9), 3) := by decide +kernel
theorem dA_layOut_57 : decode prog_2_method_2_code 57 = .ok (.aload_n 0, 1) := by decide +kernel
theorem dA_layOut_58 : decode prog_2_method_2_code 58 = .ok (.aload 4, 2) := by decide +kernel
theorem dA_layOut_60 : decode prog_2_method_2_code 60 = .ok (.invokevirtual 40, 3) := by decide +kernel
theorem dA_layOut_63 : decode prog_2_method_2_code 63 = .ok (.iinc 3 (1), 3) := by decide +kernel
theorem dA_layOut_66 : decode prog_2_method_2_code 66 = .ok (.goto (-44), 3) := by decide +kernel
theorem dA_layOut_69 : decode prog_2_method_2_code 69 = .ok (.iinc 2 (-1), 3) := by decide +kernel
theorem dA_layOut_72 : decode prog_2_method_2_code 72 = .ok (.goto (-57), 3) := by decide +kernel
theorem dA_layOut_75 : decode prog_2_method_2_code 75 = .ok (.return_, 1) := by decide +kernel
abbrev yA_sumOfLengths : MethodName := ⟨"ArenaNetwork$Arena", "sumOfLengths", "()I"⟩
abbrev rmA_sumOfLengths : Room := { frames := 3, cells := 0, slots := 0, locals := 64 }
theorem ykA_sumOfLengths : yOk yA_sumOfLengths 0 := by decide +kernel
theorem dA_sumOfLengths_0 : decode prog_2_method_3_code 0 = .ok (.iconst (0), 1) := by decide +kernel
theorem dA_sumOfLengths_1 : decode prog_2_method_3_code 1 = .ok (.istore_n 1, 1) := by decide +kernel
theorem dA_sumOfLengths_2 : decode prog_2_method_3_code 2 = .ok (.iconst (0), 1) := by decide +kernel
theorem dA_sumOfLengths_3 : decode prog_2_method_3_code 3 = .ok (.istore_n 2, 1) := by decide +kernel
theorem dA_sumOfLengths_4 : decode prog_2_method_3_code 4 = .ok (.iload_n 2, 1) := by decide +kernel
theorem dA_sumOfLengths_5 : decode prog_2_method_3_code 5 = .ok (.aload_n 0, 1) := by decide +kernel
theorem dA_sumOfLengths_6 : decode prog_2_method_3_code 6 = .ok (.getfield 14, 3) := by decide +kernel
theorem dA_sumOfLengths_9 : decode prog_2_method_3_code 9 = .ok (.invokevirtual 27, 3) := by decide +kernel
theorem dA_sumOfLengths_12 : decode prog_2_method_3_code 12 = .ok (.if_icmp .ge (26), 3) := by decide +kernel
theorem dA_sumOfLengths_15 : decode prog_2_method_3_code 15 = .ok (.iload_n 1, 1) := by decide +kernel
theorem dA_sumOfLengths_16 : decode prog_2_method_3_code 16 = .ok (.aload_n 0, 1) := by decide +kernel
theorem dA_sumOfLengths_17 : decode prog_2_method_3_code 17 = .ok (.getfield 14, 3) := by decide +kernel
theorem dA_sumOfLengths_20 : decode prog_2_method_3_code 20 = .ok (.iload_n 2, 1) := by decide +kernel
theorem dA_sumOfLengths_21 : decode prog_2_method_3_code 21 = .ok (.invokevirtual 31, 3) := by decide +kernel
theorem dA_sumOfLengths_24 : decode prog_2_method_3_code 24 = .ok (.checkcast 1, 3) := by decide +kernel
theorem dA_sumOfLengths_27 : decode prog_2_method_3_code 27 = .ok (.getfield 39, 3) := by decide +kernel
theorem dA_sumOfLengths_30 : decode prog_2_method_3_code 30 = .ok (.iadd, 1) := by decide +kernel
theorem dA_sumOfLengths_31 : decode prog_2_method_3_code 31 = .ok (.istore_n 1, 1) := by decide +kernel
theorem dA_sumOfLengths_32 : decode prog_2_method_3_code 32 = .ok (.iinc 2 (1), 3) := by decide +kernel
theorem dA_sumOfLengths_35 : decode prog_2_method_3_code 35 = .ok (.goto (-31), 3) := by decide +kernel
theorem dA_sumOfLengths_38 : decode prog_2_method_3_code 38 = .ok (.iload_n 1, 1) := by decide +kernel
theorem dA_sumOfLengths_39 : decode prog_2_method_3_code 39 = .ok (.ireturn, 1) := by decide +kernel
def fA_leastPlace_b2 (b : Nat)  (rec2 : (Option Nat) → Int32 → cW → Option (Int32 × cW)) (a1 : Option Nat) (a2 : Int32) (w : cW) : Option (Int32 × cW) :=
  if (320 : Int32) ≤ a2 then (
    some (a2, w)) else
  a1.bind fun b1 =>
  (cRcv w (some b) 1).bind fun b4 => cbd (fA_isFree b4 b1 a2 w) fun x2 w3 =>
  if x2 = 0 then (
    bnd (a2 + (4 : Int32)) fun x5 =>
    rec2 (some b1) x5 w3) else
  some (a2, w3)
def fA_leastPlace_l2 (b : Nat)  (n : Nat) : (Option Nat) → Int32 → cW → Option (Int32 × cW) := lp (fun _ _ _ => none) (fA_leastPlace_b2 b ) n
def fA_leastPlace (b : Nat) (a1 : Nat) (w : cW) : Option (Int32 × cW) :=
  fA_leastPlace_l2 b FU (some a1) (0 : Int32) w
def fA_put (b : Nat) (a1 : Nat) (w : cW) : Option (Unit × cW) :=
  (cRcv w (some b) 1).bind fun b3 => cbd (fA_leastPlace b3 a1 w) fun x1 w2 =>
  (pI w2 (some a1) 4 10 x1).bind fun w4 =>
  (gI w4 (some b) 1 1).bind fun x5 =>
  (gI w4 (some a1) 4 10).bind fun x6 =>
  (gI w4 (some a1) 4 2).bind fun x7 =>
  (pI w4 (some b) 1 1 (if x5 < (x6 + x7) then (x6 + x7) else x5)).bind fun w8 =>
  (gQ w8 (some b) 1 0).bind fun r9 =>
  (cRcv w8 r9 6).bind fun b12 => cbd (fL_add2 b12 a1 w8) fun x10 w11 =>
  some ((), w11)
def fA_layOut_b22 (b : Nat) (rec15 : (Option Nat) → Int32 → Nat → cW → Option (Unit × cW)) (rec22 : (Option Nat) → Int32 → Int32 → Nat → cW → Option (Unit × cW)) (a1 : Option Nat) (a2 : Int32) (a3 : Int32) (c : Nat) (w : cW) : Option (Unit × cW) :=
  if c < 21 then (
  (cRcv w a1 6).bind fun b4 => cbd (fL_size b4 w) fun x1 w2 =>
  if x1 ≤ a3 then (
    bnd (a2 + (-1 : Int32)) fun x5 =>
    rec15 a1 x5 c w2) else
  if c < 21 then (
  (cRcv w2 a1 6).bind fun b9 => cbd (fL_get b9 a3 w2) fun r6 w7 =>
  (cCast w7 r6 4).bind fun _ =>
  (gI w7 r6 4 7).bind fun x10 =>
  if x10 = 0 then (
    bnd (a3 + (1 : Int32)) fun x11 =>
    rec22 a1 a2 x11 c w7) else
  (gI w7 r6 4 2).bind fun x12 =>
  if x12 = a2 then (
    r6.bind fun b14 =>
    if c < 20 then (
    (cRcv w7 (some b) 1).bind fun b18 => cbd (fA_put b18 b14 w7) fun u15 w16 =>
    bnd (a3 + (1 : Int32)) fun x19 =>
    rec22 a1 a2 x19 (c + 1) w16) else none) else
  bnd (a3 + (1 : Int32)) fun x13 =>
  rec22 a1 a2 x13 c w7) else none) else none
def fA_layOut_l22 (b : Nat) (rec15 : (Option Nat) → Int32 → Nat → cW → Option (Unit × cW)) (n : Nat) : (Option Nat) → Int32 → Int32 → Nat → cW → Option (Unit × cW) := lp (fun _ _ _ _ _ => none) (fA_layOut_b22 b rec15) n
def fA_layOut_b15 (b : Nat)  (rec15 : (Option Nat) → Int32 → Nat → cW → Option (Unit × cW)) (a1 : Option Nat) (a2 : Int32) (c : Nat) (w : cW) : Option (Unit × cW) :=
  if a2 < (1 : Int32) then (
    if c < 21 then (
    some ((), w)) else none) else
  fA_layOut_l22 b rec15 FU a1 a2 (0 : Int32) c w
def fA_layOut_l15 (b : Nat)  (n : Nat) : (Option Nat) → Int32 → Nat → cW → Option (Unit × cW) := lp (fun _ _ _ _ => none) (fA_layOut_b15 b ) n
def fA_layOut (b : Nat) (a1 : Nat) (w : cW) : Option (Unit × cW) :=
  (gQ w (some b) 1 0).bind fun r1 =>
  (cRcv w r1 6).bind fun b4 => cbd (fL_clear b4 w) fun u2 w3 =>
  (pI w3 (some b) 1 1 (0 : Int32)).bind fun w5 =>
  fA_layOut_l15 b FU (some a1) (16 : Int32) (0) w5
def fA_sumOfLengths_b4 (b : Nat)  (rec4 : Int32 → Int32 → cW → Option (Int32 × cW)) (a1 : Int32) (a2 : Int32) (w : cW) : Option (Int32 × cW) :=
  (gQ w (some b) 1 0).bind fun r1 =>
  (cRcv w r1 6).bind fun b4 => cbd (fL_size b4 w) fun x2 w3 =>
  if x2 ≤ a2 then (
    some (a1, w3)) else
  (gQ w3 (some b) 1 0).bind fun r5 =>
  (cRcv w3 r5 6).bind fun b8 => cbd (fL_get b8 a2 w3) fun r6 w7 =>
  (cCast w7 r6 4).bind fun _ =>
  (gI w7 r6 4 2).bind fun x9 =>
  bnd (a1 + x9) fun x10 =>
  bnd (a2 + (1 : Int32)) fun x11 =>
  rec4 x10 x11 w7
def fA_sumOfLengths_l4 (b : Nat)  (n : Nat) : Int32 → Int32 → cW → Option (Int32 × cW) := lp (fun _ _ _ => none) (fA_sumOfLengths_b4 b ) n
def fA_sumOfLengths (b : Nat)  (w : cW) : Option (Int32 × cW) :=
  fA_sumOfLengths_l4 b FU (0 : Int32) (0 : Int32) w
set_option maxHeartbeats 4000000 in
set_option maxRecDepth 100000 in
theorem tA_leastPlace_l2 {C : xC} {G : cG} {w0 w' : cW} {r : Int32} {b : Nat} (hC : okC C prog_2_method_5_code 3 "ArenaNetwork$Arena" lw_gd) (hE : xE C (some .int) mkI G w0 w' r) (hR : xR C = rmA_leastPlace)  : ∀ n : Nat, ∀ (a1 : Option Nat) (a2 : Int32) (w : cW), fA_leastPlace_l2 b n a1 a2 w = some (r, w') → V C w 0 0 2 [(0, va_rf (some b)), (1, va_rf a1), (2, .int a2)] [] := by
  refine lp_P (P := fun (f : (Option Nat) → Int32 → cW → Option (Int32 × cW)) => ∀ (a1 : Option Nat) (a2 : Int32) (w : cW), f a1 a2 w = some (r, w') → V C w 0 0 2 [(0, va_rf (some b)), (1, va_rf a1), (2, .int a2)] []) ?_ ?_
  · intro a1 a2 w hf
    cases hf
  · intro rec2 hrec2 a1 a2 w hf
    unfold fA_leastPlace_b2 at hf
    refine v_iload_n (pc := 2) (i := 2) (x := a2) hC dA_leastPlace_2 rfl 2 rfl ?_
    refine v_sipush (pc := 3) (v := (320 : Int32)) hC dA_leastPlace_3 (by decide) ?_
    refine v_icmp_ge (pc := 6) (tgt := 24) hC dA_leastPlace_6 (by decide) hf (fun hf => ?_) (fun hf => ?_)
    · refine v_iload_n (pc := 24) (i := 2) (x := a2) hC dA_leastPlace_24 rfl 2 rfl ?_
      exact v_iret (pc := 25) hC hE dA_leastPlace_25 (by rw [hR]; decide) (by rw [hR]; decide) hf
    · refine v_aload_n (pc := 9) (i := 0) (r := (some b)) hC dA_leastPlace_9 rfl 0 rfl ?_
      refine v_aload_n (pc := 10) (i := 1) (r := a1) hC dA_leastPlace_10 rfl 1 rfl ?_
      refine v_iload_n (pc := 11) (i := 2) (x := a2) hC dA_leastPlace_11 rfl 2 rfl ?_
      obtain ⟨b1, eb1, hf1⟩ := ob hf
      clear hf
      cases eb1
      have hf := hf1
      clear hf1
      refine v_callV (pc := 12) (r := (some b)) (As := [va_rf (some b1), .int a2]) (rest := []) (k' := 0) (n' := 0) (st1 := (fun yq => [.int yq])) hC dA_leastPlace_12 q351 q353 p10 q5 q354 ykA_isFree rfl rfl (fun bq rq wq hq => mA_isFree _ _ bq b1 a2 _ rq wq hq) (by rw [hR]; decide) (by simp only [List.map_cons, List.map_nil, va_cat]; exact Nat.le_of_ble_eq_true rfl) (by decide) (by rw [hR]; decide) hf rfl (fun _ => rfl) (fun x2 w3 hf => ?_)
      refine v_if_ne (pc := 15) (tgt := 24) hC dA_leastPlace_15 (by decide) hf (fun hf => ?_) (fun hf => ?_)
      · refine v_iload_n (pc := 24) (i := 2) (x := a2) hC dA_leastPlace_24 rfl 2 rfl ?_
        exact v_iret (pc := 25) hC hE dA_leastPlace_25 (by rw [hR]; decide) (by rw [hR]; decide) hf
      · refine v_iincB (pc := 18) (i := 2) (x := a2) (v := (4 : Int32)) hC dA_leastPlace_18 2 rfl (by decide) (by decide) (fun x5 => [(2, .int x5), (0, va_rf (some b)), (1, va_rf (some b1))]) (fun _ => rfl) hf (fun x5 hf => ?_)
        refine v_goto (pc := 21) (tgt := 2) hC dA_leastPlace_21 (by decide) ?_
        exact V.sub [1, 2, 0] rfl (hrec2 _ _ _ hf)
set_option maxHeartbeats 4000000 in
set_option maxRecDepth 100000 in
theorem tA_leastPlace {C : xC} {G : cG} {w0 w' : cW} {r : Int32} {b : Nat} (hC : okC C prog_2_method_5_code 3 "ArenaNetwork$Arena" lw_gd) (hE : xE C (some .int) mkI G w0 w' r) (hR : xR C = rmA_leastPlace) (a1 : Nat) (w : cW) (hf : fA_leastPlace b a1 w = some (r, w')) : V C w 0 0 0 [(0, va_rf (some b)), (1, va_rf (some a1))] [] := by
  unfold fA_leastPlace at hf
  refine v_iconst (pc := 0) (v := (0 : Int32)) hC dA_leastPlace_0 (by decide) ?_
  refine v_istore_n (pc := 1) (i := 2) (x := (0 : Int32)) hC dA_leastPlace_1 rfl (by decide) [(2, .int (0 : Int32)), (0, va_rf (some b)), (1, va_rf (some a1))] rfl ?_
  exact V.sub [1, 2, 0] rfl (tA_leastPlace_l2 hC hE hR  FU _ _ _ hf)
theorem mA_leastPlace (l : Launch) (G : cG) (b : Nat) (a1 : Nat) (w : cW) (r : Int32) (w' : cW) (hf : fA_leastPlace b a1 w = some (r, w')) : Met l yA_leastPlace (wsM yA_leastPlace prog_2_method_5_code 3 (some .int)) rmA_leastPlace (mP G w [va_rf (some b), va_rf (some a1)]) (mQ mkI G w w' r) (rmA_leastPlace).cells (rmA_leastPlace).slots (Aw w) :=
  met_of (by decide +kernel) rfl (Nat.le_of_ble_eq_true rfl) (fun C hC hR _ _ _ hts hE => tA_leastPlace (okC.tbl hC) hE hR a1 w hf)
set_option maxHeartbeats 4000000 in
set_option maxRecDepth 100000 in
theorem tA_put {C : xC} {G : cG} {w0 w' : cW} {r : Unit} {b : Nat} (hC : okC C prog_2_method_4_code 2 "ArenaNetwork$Arena" lw_gd) (hE : xE C none mkV G w0 w' r) (hR : xR C = rmA_put) (a1 : Nat) (w : cW) (hf : fA_put b a1 w = some (r, w')) : V C w 0 0 0 [(0, va_rf (some b)), (1, va_rf (some a1))] [] := by
  unfold fA_put at hf
  refine v_aload_n (pc := 0) (i := 1) (r := (some a1)) hC dA_put_0 rfl 1 rfl ?_
  refine v_aload_n (pc := 1) (i := 0) (r := (some b)) hC dA_put_1 rfl 0 rfl ?_
  refine v_aload_n (pc := 2) (i := 1) (r := (some a1)) hC dA_put_2 rfl 1 rfl ?_
  refine v_callV (pc := 3) (r := (some b)) (As := [va_rf (some a1)]) (rest := [va_rf (some a1)]) (k' := 0) (n' := 0) (st1 := (fun yq => [.int yq, va_rf (some a1)])) hC dA_put_3 q347 q349 p9 q5 q350 ykA_leastPlace rfl rfl (fun bq rq wq hq => mA_leastPlace _ _ bq a1 _ rq wq hq) (by rw [hR]; decide) (by simp only [List.map_cons, List.map_nil, va_cat]; exact Nat.le_of_ble_eq_true rfl) (by decide) (by rw [hR]; decide) hf rfl (fun _ => rfl) (fun x1 w2 hf => ?_)
  refine v_putI (pc := 6) (r := (some a1)) hC dA_put_6 inT rfl tyT tkT nmT 10 (by decide) q151 (Or.inl rfl) rfl (tkT 10 (by decide)) hf (fun w4 hf => ?_)
  refine v_aload_n (pc := 9) (i := 0) (r := (some b)) hC dA_put_9 rfl 0 rfl ?_
  refine v_aload_n (pc := 10) (i := 0) (r := (some b)) hC dA_put_10 rfl 0 rfl ?_
  refine v_getI (pc := 11) (r := (some b)) hC dA_put_11 inA rfl 1 (by decide) q62 (Or.inl rfl) hf (fun x5 hf => ?_)
  refine v_aload_n (pc := 14) (i := 1) (r := (some a1)) hC dA_put_14 rfl 1 rfl ?_
  refine v_getI (pc := 15) (r := (some a1)) hC dA_put_15 inT rfl 10 (by decide) q151 (Or.inl rfl) hf (fun x6 hf => ?_)
  refine v_aload_n (pc := 18) (i := 1) (r := (some a1)) hC dA_put_18 rfl 1 rfl ?_
  refine v_getI (pc := 19) (r := (some a1)) hC dA_put_19 inT rfl 2 (by decide) q132 (Or.inl rfl) hf (fun x7 hf => ?_)
  refine v_iadd (pc := 22) hC dA_put_22 ?_
  refine v_mmax (pc := 23) (x := x5) (y := (x6 + x7)) (st := [va_rf (some b)]) hC dA_put_23 q359 q197 q10 q198 (by rw [hR]; decide) (by simp only [List.map_cons, List.map_nil, va_cat]; exact Nat.le_of_ble_eq_true rfl) (by rw [hR]; decide) ?_
  refine v_putI (pc := 26) (r := (some b)) hC dA_put_26 inA rfl tyA tkA nmA 1 (by decide) q62 (Or.inl rfl) rfl (tkA 1 (by decide)) hf (fun w8 hf => ?_)
  refine v_aload_n (pc := 29) (i := 0) (r := (some b)) hC dA_put_29 rfl 0 rfl ?_
  refine v_getQ (pc := 30) (r := (some b)) hC dA_put_30 inA rfl 0 (by decide) q60 (Or.inl rfl) hf (fun r9 hf => ?_)
  refine v_aload_n (pc := 33) (i := 1) (r := (some a1)) hC dA_put_33 rfl 1 rfl ?_
  refine v_callV (pc := 34) (r := r9) (As := [va_rf (some a1)]) (rest := []) (k' := 1) (n' := 33) (st1 := (fun yq => [.int yq])) hC dA_put_34 q360 q178 q179 q4 q180 ykL_add2 rfl rfl (fun bq rq wq hq => mL_add2 _ _ bq a1 _ rq wq hq) (by rw [hR]; decide) (by simp only [List.map_cons, List.map_nil, va_cat]; exact Nat.le_of_ble_eq_true rfl) (by decide) (by rw [hR]; decide) hf rfl (fun _ => rfl) (fun x10 w11 hf => ?_)
  refine v_pop (pc := 37) hC dA_put_37 rfl ?_
  exact v_vret (pc := 38) hC hE dA_put_38 (by rw [hR]; decide) (by rw [hR]; decide) hf
theorem mA_put (l : Launch) (G : cG) (b : Nat) (a1 : Nat) (w : cW) (r : Unit) (w' : cW) (hf : fA_put b a1 w = some (r, w')) : Met l yA_put (wsM yA_put prog_2_method_4_code 2 none) rmA_put (mP G w [va_rf (some b), va_rf (some a1)]) (mQ mkV G w w' r) (rmA_put).cells (rmA_put).slots (Aw w) :=
  met_of (by decide +kernel) rfl (Nat.le_of_ble_eq_true rfl) (fun C hC hR _ _ _ hts hE => tA_put (okC.tbl hC) hE hR a1 w hf)
set_option maxHeartbeats 4000000 in
set_option maxRecDepth 100000 in
theorem tA_layOut_l22 {C : xC} {G : cG} {w0 w' : cW} {r : Unit} {b : Nat} (hC : okC C prog_2_method_2_code 5 "ArenaNetwork$Arena" lw_gd) (hE : xE C none mkV G w0 w' r) (hR : xR C = rmA_layOut) {rec15 : (Option Nat) → Int32 → Nat → cW → Option (Unit × cW)} (hrec15 : ∀ (a1 : Option Nat) (a2 : Int32) (c : Nat) (w : cW), rec15 a1 a2 c w = some (r, w') → V C w (1 * c) (33 * c) 15 [(0, va_rf (some b)), (1, va_rf a1), (2, .int a2)] []) : ∀ n : Nat, ∀ (a1 : Option Nat) (a2 : Int32) (a3 : Int32) (c : Nat) (w : cW), fA_layOut_l22 b rec15 n a1 a2 a3 c w = some (r, w') → V C w (1 * c) (33 * c) 22 [(0, va_rf (some b)), (1, va_rf a1), (2, .int a2), (3, .int a3)] [] := by
  refine lp_P (P := fun (f : (Option Nat) → Int32 → Int32 → Nat → cW → Option (Unit × cW)) => ∀ (a1 : Option Nat) (a2 : Int32) (a3 : Int32) (c : Nat) (w : cW), f a1 a2 a3 c w = some (r, w') → V C w (1 * c) (33 * c) 22 [(0, va_rf (some b)), (1, va_rf a1), (2, .int a2), (3, .int a3)] []) ?_ ?_
  · intro a1 a2 a3 c w hf
    cases hf
  · intro rec22 hrec22 a1 a2 a3 c w hf
    unfold fA_layOut_b22 at hf
    refine v_iload_n (pc := 22) (i := 3) (x := a3) hC dA_layOut_22 rfl 3 rfl ?_
    refine v_aload_n (pc := 23) (i := 1) (r := a1) hC dA_layOut_23 rfl 1 rfl ?_
    by_cases ec3 : c < 21
    rotate_left
    · rw [if_neg ec3] at hf; cases hf
    rw [if_pos ec3] at hf
    refine v_callV (pc := 24) (r := a1) (As := []) (rest := [.int a3]) (k' := 1 * c) (n' := 33 * c) (st1 := (fun yq => [.int yq, .int a3])) hC dA_layOut_24 q340 q117 q118 q4 q119 ykL_size rfl rfl (fun bq rq wq hq => mL_size _ _ bq  _ rq wq hq) (by rw [hR]; decide) (by simp only [List.map_cons, List.map_nil, va_cat]; exact Nat.le_of_ble_eq_true rfl) (by simp only [rmL_size]; omega) (by rw [hR]; simp only [rmA_layOut]; omega) hf rfl (fun _ => rfl) (fun x1 w2 hf => ?_)
    refine v_icmp_ge (pc := 27) (tgt := 69) hC dA_layOut_27 (by decide) hf (fun hf => ?_) (fun hf => ?_)
    · refine v_iincB (pc := 69) (i := 2) (x := a2) (v := (-1 : Int32)) hC dA_layOut_69 2 rfl (by decide) (by decide) (fun x5 => [(2, .int x5), (0, va_rf (some b)), (1, va_rf a1), (3, .int a3)]) (fun _ => (by cases a1 <;> rfl)) hf (fun x5 hf => ?_)
      refine v_goto (pc := 72) (tgt := 15) hC dA_layOut_72 (by decide) ?_
      exact V.sub [1, 2, 0] rfl (hrec15 _ _ _ _ hf)
    · refine v_aload_n (pc := 30) (i := 1) (r := a1) hC dA_layOut_30 rfl 1 rfl ?_
      refine v_iload_n (pc := 31) (i := 3) (x := a3) hC dA_layOut_31 rfl 3 rfl ?_
      by_cases ec8 : c < 21
      rotate_left
      · rw [if_neg ec8] at hf; cases hf
      rw [if_pos ec8] at hf
      refine v_callV (pc := 32) (r := a1) (As := [.int a3]) (rest := []) (k' := 1 * c) (n' := 33 * c) (st1 := (fun yq => [va_rf yq])) hC dA_layOut_32 q341 q240 q241 q4 q242 ykL_get rfl rfl (fun bq rq wq hq => mL_get _ _ bq a3 _ rq wq hq) (by rw [hR]; decide) (by simp only [List.map_cons, List.map_nil, va_cat]; exact Nat.le_of_ble_eq_true rfl) (by simp only [rmL_get]; omega) (by rw [hR]; simp only [rmA_layOut]; omega) hf rfl (fun _ => rfl) (fun r6 w7 hf => ?_)
      refine v_cast (pc := 35) (r := r6) hC dA_layOut_35 rfl q342 hf (fun hf => ?_)
      refine v_astore (pc := 38) (i := 4) (r := r6) hC dA_layOut_38 (by decide) [(4, va_rf r6), (0, va_rf (some b)), (1, va_rf a1), (2, .int a2), (3, .int a3)] rfl ?_
      refine v_aload (pc := 40) (i := 4) (r := r6) hC dA_layOut_40 0 rfl ?_
      refine v_getI (pc := 42) (r := r6) hC dA_layOut_42 inT rfl 7 (by decide) q144 (Or.inl rfl) hf (fun x10 hf => ?_)
      refine v_if_eq (pc := 45) (tgt := 63) hC dA_layOut_45 (by decide) hf (fun hf => ?_) (fun hf => ?_)
      · refine v_iincB (pc := 63) (i := 3) (x := a3) (v := (1 : Int32)) hC dA_layOut_63 4 rfl (by decide) (by decide) (fun x11 => [(3, .int x11), (4, va_rf r6), (0, va_rf (some b)), (1, va_rf a1), (2, .int a2)]) (fun _ => rfl) hf (fun x11 hf => ?_)
        refine v_goto (pc := 66) (tgt := 22) hC dA_layOut_66 (by decide) ?_
        exact V.sub [2, 3, 4, 0] rfl (hrec22 _ _ _ _ _ hf)
      · refine v_aload (pc := 48) (i := 4) (r := r6) hC dA_layOut_48 0 rfl ?_
        refine v_getI (pc := 50) (r := r6) hC dA_layOut_50 inT rfl 2 (by decide) q132 (Or.inl rfl) hf (fun x12 hf => ?_)
        refine v_iload_n (pc := 53) (i := 2) (x := a2) hC dA_layOut_53 rfl 3 rfl ?_
        refine v_icmp_ne (pc := 54) (tgt := 63) hC dA_layOut_54 (by decide) hf (fun hf => ?_) (fun hf => ?_)
        · refine v_iincB (pc := 63) (i := 3) (x := a3) (v := (1 : Int32)) hC dA_layOut_63 4 rfl (by decide) (by decide) (fun x13 => [(3, .int x13), (4, va_rf r6), (0, va_rf (some b)), (1, va_rf a1), (2, .int a2)]) (fun _ => rfl) hf (fun x13 hf => ?_)
          refine v_goto (pc := 66) (tgt := 22) hC dA_layOut_66 (by decide) ?_
          exact V.sub [2, 3, 4, 0] rfl (hrec22 _ _ _ _ _ hf)
        · refine v_aload_n (pc := 57) (i := 0) (r := (some b)) hC dA_layOut_57 rfl 1 rfl ?_
          refine v_aload (pc := 58) (i := 4) (r := r6) hC dA_layOut_58 0 rfl ?_
          obtain ⟨b14, eb14, hf1⟩ := ob hf
          clear hf
          cases eb14
          have hf := hf1
          clear hf1
          by_cases ec17 : c < 20
          rotate_left
          · rw [if_neg ec17] at hf; cases hf
          rw [if_pos ec17] at hf
          refine v_callV (pc := 60) (r := (some b)) (As := [va_rf (some b14)]) (rest := []) (k' := 1 * (c + 1)) (n' := 33 * (c + 1)) (st1 := (fun yq => [])) hC dA_layOut_60 q343 q345 p8 q5 q346 ykA_put rfl rfl (fun bq rq wq hq => mA_put _ _ bq b14 _ rq wq hq) (by rw [hR]; decide) (by simp only [List.map_cons, List.map_nil, va_cat]; exact Nat.le_of_ble_eq_true rfl) (by simp only [rmA_put]; omega) (by rw [hR]; simp only [rmA_layOut]; omega) hf rfl (fun _ => rfl) (fun u15 w16 hf => ?_)
          refine v_iincB (pc := 63) (i := 3) (x := a3) (v := (1 : Int32)) hC dA_layOut_63 4 rfl (by decide) (by decide) (fun x19 => [(3, .int x19), (4, va_rf (some b14)), (0, va_rf (some b)), (1, va_rf a1), (2, .int a2)]) (fun _ => rfl) hf (fun x19 hf => ?_)
          refine v_goto (pc := 66) (tgt := 22) hC dA_layOut_66 (by decide) ?_
          exact V.sub [2, 3, 4, 0] rfl (hrec22 _ _ _ _ _ hf)
set_option maxHeartbeats 4000000 in
set_option maxRecDepth 100000 in
theorem tA_layOut_l15 {C : xC} {G : cG} {w0 w' : cW} {r : Unit} {b : Nat} (hC : okC C prog_2_method_2_code 5 "ArenaNetwork$Arena" lw_gd) (hE : xE C none mkV G w0 w' r) (hR : xR C = rmA_layOut)  : ∀ n : Nat, ∀ (a1 : Option Nat) (a2 : Int32) (c : Nat) (w : cW), fA_layOut_l15 b n a1 a2 c w = some (r, w') → V C w (1 * c) (33 * c) 15 [(0, va_rf (some b)), (1, va_rf a1), (2, .int a2)] [] := by
  refine lp_P (P := fun (f : (Option Nat) → Int32 → Nat → cW → Option (Unit × cW)) => ∀ (a1 : Option Nat) (a2 : Int32) (c : Nat) (w : cW), f a1 a2 c w = some (r, w') → V C w (1 * c) (33 * c) 15 [(0, va_rf (some b)), (1, va_rf a1), (2, .int a2)] []) ?_ ?_
  · intro a1 a2 c w hf
    cases hf
  · intro rec15 hrec15 a1 a2 c w hf
    unfold fA_layOut_b15 at hf
    refine v_iload_n (pc := 15) (i := 2) (x := a2) hC dA_layOut_15 rfl 2 rfl ?_
    refine v_iconst (pc := 16) (v := (1 : Int32)) hC dA_layOut_16 (by decide) ?_
    refine v_icmp_lt (pc := 17) (tgt := 75) hC dA_layOut_17 (by decide) hf (fun hf => ?_) (fun hf => ?_)
    · by_cases ec1 : c < 21
      rotate_left
      · rw [if_neg ec1] at hf; cases hf
      rw [if_pos ec1] at hf
      exact v_vret (pc := 75) hC hE dA_layOut_75 (by rw [hR]; simp only [rmA_layOut]; omega) (by rw [hR]; simp only [rmA_layOut]; omega) hf
    · refine v_iconst (pc := 20) (v := (0 : Int32)) hC dA_layOut_20 (by decide) ?_
      refine v_istore_n (pc := 21) (i := 3) (x := (0 : Int32)) hC dA_layOut_21 rfl (by decide) [(3, .int (0 : Int32)), (0, va_rf (some b)), (1, va_rf a1), (2, .int a2)] rfl ?_
      exact V.sub [1, 2, 3, 0] rfl (tA_layOut_l22 hC hE hR hrec15 FU _ _ _ _ _ hf)
set_option maxHeartbeats 4000000 in
set_option maxRecDepth 100000 in
theorem tA_layOut {C : xC} {G : cG} {w0 w' : cW} {r : Unit} {b : Nat} (hC : okC C prog_2_method_2_code 5 "ArenaNetwork$Arena" lw_gd) (hE : xE C none mkV G w0 w' r) (hR : xR C = rmA_layOut) (a1 : Nat) (w : cW) (hf : fA_layOut b a1 w = some (r, w')) : V C w 0 0 0 [(0, va_rf (some b)), (1, va_rf (some a1))] [] := by
  unfold fA_layOut at hf
  refine v_aload_n (pc := 0) (i := 0) (r := (some b)) hC dA_layOut_0 rfl 0 rfl ?_
  refine v_getQ (pc := 1) (r := (some b)) hC dA_layOut_1 inA rfl 0 (by decide) q60 (Or.inl rfl) hf (fun r1 hf => ?_)
  refine v_callV (pc := 4) (r := r1) (As := []) (rest := []) (k' := 0) (n' := 0) (st1 := (fun yq => [])) hC dA_layOut_4 q336 q337 q338 q4 q339 ykL_clear rfl rfl (fun bq rq wq hq => mL_clear _ _ bq  _ rq wq hq) (by rw [hR]; decide) (by simp only [List.map_cons, List.map_nil, va_cat]; exact Nat.le_of_ble_eq_true rfl) (by decide) (by rw [hR]; decide) hf rfl (fun _ => rfl) (fun u2 w3 hf => ?_)
  refine v_aload_n (pc := 7) (i := 0) (r := (some b)) hC dA_layOut_7 rfl 0 rfl ?_
  refine v_iconst (pc := 8) (v := (0 : Int32)) hC dA_layOut_8 (by decide) ?_
  refine v_putI (pc := 9) (r := (some b)) hC dA_layOut_9 inA rfl tyA tkA nmA 1 (by decide) q62 (Or.inl rfl) rfl (tkA 1 (by decide)) hf (fun w5 hf => ?_)
  refine v_bipush (pc := 12) (v := (16 : Int32)) hC dA_layOut_12 (by decide) ?_
  refine v_istore_n (pc := 14) (i := 2) (x := (16 : Int32)) hC dA_layOut_14 rfl (by decide) [(2, .int (16 : Int32)), (0, va_rf (some b)), (1, va_rf (some a1))] rfl ?_
  exact V.sub [1, 2, 0] rfl (tA_layOut_l15 hC hE hR  FU _ _ _ _ hf)
theorem mA_layOut (l : Launch) (G : cG) (b : Nat) (a1 : Nat) (w : cW) (r : Unit) (w' : cW) (hf : fA_layOut b a1 w = some (r, w')) : Met l yA_layOut (wsM yA_layOut prog_2_method_2_code 5 none) rmA_layOut (mP G w [va_rf (some b), va_rf (some a1)]) (mQ mkV G w w' r) (rmA_layOut).cells (rmA_layOut).slots (Aw w) :=
  met_of (by decide +kernel) rfl (Nat.le_of_ble_eq_true rfl) (fun C hC hR _ _ _ hts hE => tA_layOut (okC.tbl hC) hE hR a1 w hf)
set_option maxHeartbeats 4000000 in
set_option maxRecDepth 100000 in
theorem tA_sumOfLengths_l4 {C : xC} {G : cG} {w0 w' : cW} {r : Int32} {b : Nat} (hC : okC C prog_2_method_3_code 3 "ArenaNetwork$Arena" lw_gd) (hE : xE C (some .int) mkI G w0 w' r) (hR : xR C = rmA_sumOfLengths)  : ∀ n : Nat, ∀ (a1 : Int32) (a2 : Int32) (w : cW), fA_sumOfLengths_l4 b n a1 a2 w = some (r, w') → V C w 0 0 4 [(0, va_rf (some b)), (1, .int a1), (2, .int a2)] [] := by
  refine lp_P (P := fun (f : Int32 → Int32 → cW → Option (Int32 × cW)) => ∀ (a1 : Int32) (a2 : Int32) (w : cW), f a1 a2 w = some (r, w') → V C w 0 0 4 [(0, va_rf (some b)), (1, .int a1), (2, .int a2)] []) ?_ ?_
  · intro a1 a2 w hf
    cases hf
  · intro rec4 hrec4 a1 a2 w hf
    unfold fA_sumOfLengths_b4 at hf
    refine v_iload_n (pc := 4) (i := 2) (x := a2) hC dA_sumOfLengths_4 rfl 2 rfl ?_
    refine v_aload_n (pc := 5) (i := 0) (r := (some b)) hC dA_sumOfLengths_5 rfl 0 rfl ?_
    refine v_getQ (pc := 6) (r := (some b)) hC dA_sumOfLengths_6 inA rfl 0 (by decide) q60 (Or.inl rfl) hf (fun r1 hf => ?_)
    refine v_callV (pc := 9) (r := r1) (As := []) (rest := [.int a2]) (k' := 0) (n' := 0) (st1 := (fun yq => [.int yq, .int a2])) hC dA_sumOfLengths_9 q340 q117 q118 q4 q119 ykL_size rfl rfl (fun bq rq wq hq => mL_size _ _ bq  _ rq wq hq) (by rw [hR]; decide) (by simp only [List.map_cons, List.map_nil, va_cat]; exact Nat.le_of_ble_eq_true rfl) (by decide) (by rw [hR]; decide) hf rfl (fun _ => rfl) (fun x2 w3 hf => ?_)
    refine v_icmp_ge (pc := 12) (tgt := 38) hC dA_sumOfLengths_12 (by decide) hf (fun hf => ?_) (fun hf => ?_)
    · refine v_iload_n (pc := 38) (i := 1) (x := a1) hC dA_sumOfLengths_38 rfl 1 rfl ?_
      exact v_iret (pc := 39) hC hE dA_sumOfLengths_39 (by rw [hR]; decide) (by rw [hR]; decide) hf
    · refine v_iload_n (pc := 15) (i := 1) (x := a1) hC dA_sumOfLengths_15 rfl 1 rfl ?_
      refine v_aload_n (pc := 16) (i := 0) (r := (some b)) hC dA_sumOfLengths_16 rfl 0 rfl ?_
      refine v_getQ (pc := 17) (r := (some b)) hC dA_sumOfLengths_17 inA rfl 0 (by decide) q60 (Or.inl rfl) hf (fun r5 hf => ?_)
      refine v_iload_n (pc := 20) (i := 2) (x := a2) hC dA_sumOfLengths_20 rfl 2 rfl ?_
      refine v_callV (pc := 21) (r := r5) (As := [.int a2]) (rest := [.int a1]) (k' := 0) (n' := 0) (st1 := (fun yq => [va_rf yq, .int a1])) hC dA_sumOfLengths_21 q341 q240 q241 q4 q242 ykL_get rfl rfl (fun bq rq wq hq => mL_get _ _ bq a2 _ rq wq hq) (by rw [hR]; decide) (by simp only [List.map_cons, List.map_nil, va_cat]; exact Nat.le_of_ble_eq_true rfl) (by decide) (by rw [hR]; decide) hf rfl (fun _ => rfl) (fun r6 w7 hf => ?_)
      refine v_cast (pc := 24) (r := r6) hC dA_sumOfLengths_24 rfl q342 hf (fun hf => ?_)
      refine v_getI (pc := 27) (r := r6) hC dA_sumOfLengths_27 inT rfl 2 (by decide) q132 (Or.inl rfl) hf (fun x9 hf => ?_)
      refine v_iadd (pc := 30) hC dA_sumOfLengths_30 ?_
      refine v_bndi hf (fun x10 hf => ?_)
      refine v_istore_n (pc := 31) (i := 1) (x := x10) hC dA_sumOfLengths_31 rfl (by decide) [(1, .int x10), (0, va_rf (some b)), (2, .int a2)] rfl ?_
      refine v_iincB (pc := 32) (i := 2) (x := a2) (v := (1 : Int32)) hC dA_sumOfLengths_32 2 rfl (by decide) (by decide) (fun x11 => [(2, .int x11), (1, .int x10), (0, va_rf (some b))]) (fun _ => rfl) hf (fun x11 hf => ?_)
      refine v_goto (pc := 35) (tgt := 4) hC dA_sumOfLengths_35 (by decide) ?_
      exact V.sub [2, 1, 0] rfl (hrec4 _ _ _ hf)
set_option maxHeartbeats 4000000 in
set_option maxRecDepth 100000 in
theorem tA_sumOfLengths {C : xC} {G : cG} {w0 w' : cW} {r : Int32} {b : Nat} (hC : okC C prog_2_method_3_code 3 "ArenaNetwork$Arena" lw_gd) (hE : xE C (some .int) mkI G w0 w' r) (hR : xR C = rmA_sumOfLengths)  (w : cW) (hf : fA_sumOfLengths b w = some (r, w')) : V C w 0 0 0 [(0, va_rf (some b))] [] := by
  unfold fA_sumOfLengths at hf
  refine v_iconst (pc := 0) (v := (0 : Int32)) hC dA_sumOfLengths_0 (by decide) ?_
  refine v_istore_n (pc := 1) (i := 1) (x := (0 : Int32)) hC dA_sumOfLengths_1 rfl (by decide) [(1, .int (0 : Int32)), (0, va_rf (some b))] rfl ?_
  refine v_iconst (pc := 2) (v := (0 : Int32)) hC dA_sumOfLengths_2 (by decide) ?_
  refine v_istore_n (pc := 3) (i := 2) (x := (0 : Int32)) hC dA_sumOfLengths_3 rfl (by decide) [(2, .int (0 : Int32)), (1, .int (0 : Int32)), (0, va_rf (some b))] rfl ?_
  exact V.sub [2, 1, 0] rfl (tA_sumOfLengths_l4 hC hE hR  FU _ _ _ hf)
theorem mA_sumOfLengths (l : Launch) (G : cG) (b : Nat)  (w : cW) (r : Int32) (w' : cW) (hf : fA_sumOfLengths b w = some (r, w')) : Met l yA_sumOfLengths (wsM yA_sumOfLengths prog_2_method_3_code 3 (some .int)) rmA_sumOfLengths (mP G w [va_rf (some b)]) (mQ mkI G w w' r) (rmA_sumOfLengths).cells (rmA_sumOfLengths).slots (Aw w) :=
  met_of (by decide +kernel) rfl (Nat.le_of_ble_eq_true rfl) (fun C hC hR _ _ _ hts hE => tA_sumOfLengths (okC.tbl hC) hE hR  w hf)
