abbrev yM_step : MethodName := ⟨"ArenaNetworkModel", "step", "()I"⟩
abbrev rmM_step : Room := { frames := 3, cells := 0, slots := 0, locals := 85 }
theorem ykM_step : yOk yM_step 0 := by decide +kernel
theorem dM_step_0 : decode prog_7_method_28_code 0 = .ok (.aload_n 0, 1) := by decide +kernel
theorem dM_step_1 : decode prog_7_method_28_code 1 = .ok (.getfield 56, 3) := by decide +kernel
theorem dM_step_4 : decode prog_7_method_28_code 4 = .ok (.ifCond .lt (14), 3) := by decide +kernel
theorem dM_step_7 : decode prog_7_method_28_code 7 = .ok (.aload_n 0, 1) := by decide +kernel
theorem dM_step_8 : decode prog_7_method_28_code 8 = .ok (.getfield 56, 3) := by decide +kernel
theorem dM_step_11 : decode prog_7_method_28_code 11 = .ok (.aload_n 0, 1) := by decide +kernel
theorem dM_step_12 : decode prog_7_method_28_code 12 = .ok (.getfield 75, 3) := by decide +kernel
theorem dM_step_15 : decode prog_7_method_28_code 15 = .ok (.if_icmp .ne (6), 3) := by decide +kernel
theorem dM_step_18 : decode prog_7_method_28_code 18 = .ok (.bipush (-3), 2) := by decide +kernel
theorem dM_step_20 : decode prog_7_method_28_code 20 = .ok (.ireturn, 1) := by decide +kernel
theorem dM_step_21 : decode prog_7_method_28_code 21 = .ok (.aload_n 0, 1) := by decide +kernel
theorem dM_step_22 : decode prog_7_method_28_code 22 = .ok (.getfield 44, 3) := by decide +kernel
theorem dM_step_25 : decode prog_7_method_28_code 25 = .ok (.aload_n 0, 1) := by decide +kernel
theorem dM_step_26 : decode prog_7_method_28_code 26 = .ok (.getfield 56, 3) := by decide +kernel
theorem dM_step_29 : decode prog_7_method_28_code 29 = .ok (.iaload, 1) := by decide +kernel
theorem dM_step_30 : decode prog_7_method_28_code 30 = .ok (.istore_n 1, 1) := by decide +kernel
theorem dM_step_31 : decode prog_7_method_28_code 31 = .ok (.iconst (0), 1) := by decide +kernel
theorem dM_step_32 : decode prog_7_method_28_code 32 = .ok (.istore_n 2, 1) := by decide +kernel
theorem dM_step_33 : decode prog_7_method_28_code 33 = .ok (.iload_n 2, 1) := by decide +kernel
theorem dM_step_34 : decode prog_7_method_28_code 34 = .ok (.aload_n 0, 1) := by decide +kernel
theorem dM_step_35 : decode prog_7_method_28_code 35 = .ok (.getfield 13, 3) := by decide +kernel
theorem dM_step_38 : decode prog_7_method_28_code 38 = .ok (.iload_n 1, 1) := by decide +kernel
theorem dM_step_39 : decode prog_7_method_28_code 39 = .ok (.iaload, 1) := by decide +kernel
theorem dM_step_40 : decode prog_7_method_28_code 40 = .ok (.if_icmp .ge (29), 3) := by decide +kernel
theorem dM_step_43 : decode prog_7_method_28_code 43 = .ok (.aload_n 0, 1) := by decide +kernel
theorem dM_step_44 : decode prog_7_method_28_code 44 = .ok (.getfield 26, 3) := by decide +kernel
theorem dM_step_47 : decode prog_7_method_28_code 47 = .ok (.iload_n 1, 1) := by decide +kernel
theorem dM_step_48 : decode prog_7_method_28_code 48 = .ok (.bipush (64), 2) := by decide +kernel
theorem dM_step_50 : decode prog_7_method_28_code 50 = .ok (.imul, 1) := by decide +kernel
theorem dM_step_51 : decode prog_7_method_28_code 51 = .ok (.iload_n 2, 1) := by decide +kernel
theorem dM_step_52 : decode prog_7_method_28_code 52 = .ok (.iadd, 1) := by decide +kernel
theorem dM_step_53 : decode prog_7_method_28_code 53 = .ok (.aload_n 0, 1) := by decide +kernel
theorem dM_step_54 : decode prog_7_method_28_code 54 = .ok (.aload_n 0, 1) := by decide +kernel
theorem dM_step_55 : decode prog_7_method_28_code 55 = .ok (.getfield 56, 3) := by decide +kernel
theorem dM_step_58 : decode prog_7_method_28_code 58 = .ok (.iload_n 2, 1) := by decide +kernel
theorem dM_step_59 : decode prog_7_method_28_code 59 = .ok (.invokevirtual 134, 3) := by decide +kernel
theorem dM_step_62 : decode prog_7_method_28_code 62 = .ok (.iastore, 1) := by decide +kernel
theorem dM_step_63 : decode prog_7_method_28_code 63 = .ok (.iinc 2 (1), 3) := by decide +kernel
theorem dM_step_66 : decode prog_7_method_28_code 66 = .ok (.goto (-33), 3) := by decide +kernel
theorem dM_step_69 : decode prog_7_method_28_code 69 = .ok (.aload_n 0, 1) := by decide +kernel
theorem dM_step_70 : decode prog_7_method_28_code 70 = .ok (.dup, 1) := by decide +kernel
theorem dM_step_71 : decode prog_7_method_28_code 71 = .ok (.getfield 56, 3) := by decide +kernel
theorem dM_step_74 : decode prog_7_method_28_code 74 = .ok (.iconst (1), 1) := by decide +kernel
theorem dM_step_75 : decode prog_7_method_28_code 75 = .ok (.iadd, 1) := by decide +kernel
theorem dM_step_76 : decode prog_7_method_28_code 76 = .ok (.putfield 56, 3) := by decide +kernel
theorem dM_step_79 : decode prog_7_method_28_code 79 = .ok (.aload_n 0, 1) := by decide +kernel
theorem dM_step_80 : decode prog_7_method_28_code 80 = .ok (.getfield 56, 3) := by decide +kernel
theorem dM_step_83 : decode prog_7_method_28_code 83 = .ok (.iconst (1), 1) := by decide +kernel
theorem dM_step_84 : decode prog_7_method_28_code 84 = .ok (.isub, 1) := by decide +kernel
theorem dM_step_85 : decode prog_7_method_28_code 85 = .ok (.ireturn, 1) := by decide +kernel
abbrev yM_finish : MethodName := ⟨"ArenaNetworkModel", "finish", "()I"⟩
abbrev rmM_finish : Room := { frames := 4, cells := 0, slots := 0, locals := 107 }
theorem ykM_finish : yOk yM_finish 0 := by decide +kernel
theorem dM_finish_0 : decode prog_7_method_29_code 0 = .ok (.aload_n 0, 1) := by decide +kernel
theorem dM_finish_1 : decode prog_7_method_29_code 1 = .ok (.getfield 56, 3) := by decide +kernel
theorem dM_finish_4 : decode prog_7_method_29_code 4 = .ok (.ifCond .ge (6), 3) := by decide +kernel
theorem dM_finish_7 : decode prog_7_method_29_code 7 = .ok (.bipush (-3), 2) := by decide +kernel
theorem dM_finish_9 : decode prog_7_method_29_code 9 = .ok (.ireturn, 1) := by decide +kernel
theorem dM_finish_10 : decode prog_7_method_29_code 10 = .ok (.iconst (0), 1) := by decide +kernel
theorem dM_finish_11 : decode prog_7_method_29_code 11 = .ok (.istore_n 1, 1) := by decide +kernel
theorem dM_finish_12 : decode prog_7_method_29_code 12 = .ok (.iload_n 1, 1) := by decide +kernel
theorem dM_finish_13 : decode prog_7_method_29_code 13 = .ok (.bipush (14), 2) := by decide +kernel
theorem dM_finish_15 : decode prog_7_method_29_code 15 = .ok (.if_icmp .ge (16), 3) := by decide +kernel
theorem dM_finish_18 : decode prog_7_method_29_code 18 = .ok (.aload_n 0, 1) := by decide +kernel
theorem dM_finish_19 : decode prog_7_method_29_code 19 = .ok (.invokevirtual 137, 3) := by decide +kernel
theorem dM_finish_22 : decode prog_7_method_29_code 22 = .ok (.ifCond .lt (9), 3) := by decide +kernel
theorem dM_finish_25 : decode prog_7_method_29_code 25 = .ok (.iinc 1 (1), 3) := by decide +kernel
theorem dM_finish_28 : decode prog_7_method_29_code 28 = .ok (.goto (-16), 3) := by decide +kernel
theorem dM_finish_31 : decode prog_7_method_29_code 31 = .ok (.iload_n 1, 1) := by decide +kernel
theorem dM_finish_32 : decode prog_7_method_29_code 32 = .ok (.ireturn, 1) := by decide +kernel
def fM_step_b69 (b : Nat)   (w : cW) : Option (Int32 × cW) :=
  (gI w (some b) 5 18).bind fun x1 =>
  (pI w (some b) 5 18 (x1 + (1 : Int32))).bind fun w2 =>
  (gI w2 (some b) 5 18).bind fun x3 =>
  some ((x3 - (1 : Int32)), w2)
def fM_step_b33 (b : Nat)  (rec33 : Int32 → Int32 → cW → Option (Int32 × cW)) (a1 : Int32) (a2 : Int32) (w : cW) : Option (Int32 × cW) :=
  (gQ w (some b) 5 1).bind fun r1 =>
  (ldI w r1 .int a1).bind fun x2 =>
  if x2 ≤ a2 then (
    fM_step_b69 b w) else
  (gQ w (some b) 5 5).bind fun r3 =>
  (gI w (some b) 5 18).bind fun x4 =>
  (cRcv w (some b) 5).bind fun b7 => cbd (fM_made b7 x4 a2 w) fun x5 w6 =>
  (stI w6 r3 .int ((a1 * (64 : Int32)) + a2) x5).bind fun w8 =>
  bnd (a2 + (1 : Int32)) fun x9 =>
  rec33 a1 x9 w8
def fM_step_l33 (b : Nat)  (n : Nat) : Int32 → Int32 → cW → Option (Int32 × cW) := lp (fun _ _ _ => none) (fM_step_b33 b ) n
def fM_step (b : Nat)  (w : cW) : Option (Int32 × cW) :=
  (gI w (some b) 5 18).bind fun x1 =>
  if x1 < 0 then (
    some ((-3 : Int32), w)) else
  (gI w (some b) 5 18).bind fun x2 =>
  (gI w (some b) 5 14).bind fun x3 =>
  if x2 = x3 then (
    some ((-3 : Int32), w)) else
  (gQ w (some b) 5 12).bind fun r4 =>
  (gI w (some b) 5 18).bind fun x5 =>
  (ldI w r4 .int x5).bind fun x6 =>
  fM_step_l33 b FU x6 (0 : Int32) w
def fM_finish_b12 (b : Nat)  (rec12 : Int32 → cW → Option (Int32 × cW)) (a1 : Int32) (w : cW) : Option (Int32 × cW) :=
  if (14 : Int32) ≤ a1 then (
    some (a1, w)) else
  (cRcv w (some b) 5).bind fun b3 => cbd (fM_step b3 w) fun x1 w2 =>
  if x1 < 0 then (
    some (a1, w2)) else
  bnd (a1 + (1 : Int32)) fun x4 =>
  rec12 x4 w2
def fM_finish_l12 (b : Nat)  (n : Nat) : Int32 → cW → Option (Int32 × cW) := lp (fun _ _ => none) (fM_finish_b12 b ) n
def fM_finish (b : Nat)  (w : cW) : Option (Int32 × cW) :=
  (gI w (some b) 5 18).bind fun x1 =>
  if 0 ≤ x1 then (
    fM_finish_l12 b FU (0 : Int32) w) else
  some ((-3 : Int32), w)
set_option maxHeartbeats 4000000 in
set_option maxRecDepth 100000 in
theorem tM_step_b69 {C : xC} {G : cG} {w0 w' : cW} {r : Int32} {b : Nat} (hC : okC C prog_7_method_28_code 3 "ArenaNetworkModel" lw_gd) (hE : xE C (some .int) mkI G w0 w' r) (hR : xR C = rmM_step)   (w : cW) (hf : fM_step_b69 b w = some (r, w')) : V C w 0 0 69 [(0, va_rf (some b))] [] := by
  unfold fM_step_b69 at hf
  refine v_aload_n (pc := 69) (i := 0) (r := (some b)) hC dM_step_69 rfl 0 rfl ?_
  refine v_dupR (pc := 70) hC dM_step_70 ?_
  refine v_getI (pc := 71) (r := (some b)) hC dM_step_71 inM rfl 18 (by decide) q493 (Or.inl rfl) hf (fun x1 hf => ?_)
  refine v_iconst (pc := 74) (v := (1 : Int32)) hC dM_step_74 (by decide) ?_
  refine v_iadd (pc := 75) hC dM_step_75 ?_
  refine v_putI (pc := 76) (r := (some b)) hC dM_step_76 inM rfl tyM tkM nmM 18 (by decide) q493 (Or.inl rfl) rfl (tkM 18 (by decide)) hf (fun w2 hf => ?_)
  refine v_aload_n (pc := 79) (i := 0) (r := (some b)) hC dM_step_79 rfl 0 rfl ?_
  refine v_getI (pc := 80) (r := (some b)) hC dM_step_80 inM rfl 18 (by decide) q493 (Or.inl rfl) hf (fun x3 hf => ?_)
  refine v_iconst (pc := 83) (v := (1 : Int32)) hC dM_step_83 (by decide) ?_
  refine v_isub (pc := 84) hC dM_step_84 ?_
  exact v_iret (pc := 85) hC hE dM_step_85 (by rw [hR]; decide) (by rw [hR]; decide) hf
set_option maxHeartbeats 4000000 in
set_option maxRecDepth 100000 in
theorem tM_step_l33 {C : xC} {G : cG} {w0 w' : cW} {r : Int32} {b : Nat} (hC : okC C prog_7_method_28_code 3 "ArenaNetworkModel" lw_gd) (hE : xE C (some .int) mkI G w0 w' r) (hR : xR C = rmM_step)  : ∀ n : Nat, ∀ (a1 : Int32) (a2 : Int32) (w : cW), fM_step_l33 b n a1 a2 w = some (r, w') → V C w 0 0 33 [(0, va_rf (some b)), (1, .int a1), (2, .int a2)] [] := by
  refine lp_P (P := fun (f : Int32 → Int32 → cW → Option (Int32 × cW)) => ∀ (a1 : Int32) (a2 : Int32) (w : cW), f a1 a2 w = some (r, w') → V C w 0 0 33 [(0, va_rf (some b)), (1, .int a1), (2, .int a2)] []) ?_ ?_
  · intro a1 a2 w hf
    cases hf
  · intro rec33 hrec33 a1 a2 w hf
    unfold fM_step_b33 at hf
    refine v_iload_n (pc := 33) (i := 2) (x := a2) hC dM_step_33 rfl 2 rfl ?_
    refine v_aload_n (pc := 34) (i := 0) (r := (some b)) hC dM_step_34 rfl 0 rfl ?_
    refine v_getQ (pc := 35) (r := (some b)) hC dM_step_35 inM rfl 1 (by decide) q476 (Or.inl rfl) hf (fun r1 hf => ?_)
    refine v_iload_n (pc := 38) (i := 1) (x := a1) hC dM_step_38 rfl 1 rfl ?_
    refine v_iald (pc := 39) hC dM_step_39 hf (fun x2 hf => ?_)
    refine v_icmp_ge (pc := 40) (tgt := 69) hC dM_step_40 (by decide) hf (fun hf => ?_) (fun hf => ?_)
    · exact V.sub [0] rfl (tM_step_b69 hC hE hR  _ hf)
    · refine v_aload_n (pc := 43) (i := 0) (r := (some b)) hC dM_step_43 rfl 0 rfl ?_
      refine v_getQ (pc := 44) (r := (some b)) hC dM_step_44 inM rfl 5 (by decide) q480 (Or.inl rfl) hf (fun r3 hf => ?_)
      refine v_iload_n (pc := 47) (i := 1) (x := a1) hC dM_step_47 rfl 1 rfl ?_
      refine v_bipush (pc := 48) (v := (64 : Int32)) hC dM_step_48 (by decide) ?_
      refine v_imul (pc := 50) hC dM_step_50 ?_
      refine v_iload_n (pc := 51) (i := 2) (x := a2) hC dM_step_51 rfl 2 rfl ?_
      refine v_iadd (pc := 52) hC dM_step_52 ?_
      refine v_aload_n (pc := 53) (i := 0) (r := (some b)) hC dM_step_53 rfl 0 rfl ?_
      refine v_aload_n (pc := 54) (i := 0) (r := (some b)) hC dM_step_54 rfl 0 rfl ?_
      refine v_getI (pc := 55) (r := (some b)) hC dM_step_55 inM rfl 18 (by decide) q493 (Or.inl rfl) hf (fun x4 hf => ?_)
      refine v_iload_n (pc := 58) (i := 2) (x := a2) hC dM_step_58 rfl 2 rfl ?_
      refine v_callV (pc := 59) (r := (some b)) (As := [.int x4, .int a2]) (rest := [.int ((a1 * (64 : Int32)) + a2), va_rf r3]) (k' := 0) (n' := 0) (st1 := (fun yq => [.int yq, .int ((a1 * (64 : Int32)) + a2), va_rf r3])) hC dM_step_59 q619 q621 p29 q7 q622 ykM_made rfl rfl (fun bq rq wq hq => mM_made _ _ bq x4 a2 _ rq wq hq) (by rw [hR]; decide) (by simp only [List.map_cons, List.map_nil, va_cat]; exact Nat.le_of_ble_eq_true rfl) (by decide) (by rw [hR]; decide) hf rfl (fun _ => rfl) (fun x5 w6 hf => ?_)
      refine v_iast (pc := 62) hC dM_step_62 hf (fun w8 hf => ?_)
      refine v_iincB (pc := 63) (i := 2) (x := a2) (v := (1 : Int32)) hC dM_step_63 2 rfl (by decide) (by decide) (fun x9 => [(2, .int x9), (0, va_rf (some b)), (1, .int a1)]) (fun _ => rfl) hf (fun x9 hf => ?_)
      refine v_goto (pc := 66) (tgt := 33) hC dM_step_66 (by decide) ?_
      exact V.sub [1, 2, 0] rfl (hrec33 _ _ _ hf)
set_option maxHeartbeats 4000000 in
set_option maxRecDepth 100000 in
theorem tM_step {C : xC} {G : cG} {w0 w' : cW} {r : Int32} {b : Nat} (hC : okC C prog_7_method_28_code 3 "ArenaNetworkModel" lw_gd) (hE : xE C (some .int) mkI G w0 w' r) (hR : xR C = rmM_step)  (w : cW) (hf : fM_step b w = some (r, w')) : V C w 0 0 0 [(0, va_rf (some b))] [] := by
  unfold fM_step at hf
  refine v_aload_n (pc := 0) (i := 0) (r := (some b)) hC dM_step_0 rfl 0 rfl ?_
  refine v_getI (pc := 1) (r := (some b)) hC dM_step_1 inM rfl 18 (by decide) q493 (Or.inl rfl) hf (fun x1 hf => ?_)
  refine v_if_lt (pc := 4) (tgt := 18) hC dM_step_4 (by decide) hf (fun hf => ?_) (fun hf => ?_)
  · refine v_bipush (pc := 18) (v := (-3 : Int32)) hC dM_step_18 (by decide) ?_
    exact v_iret (pc := 20) hC hE dM_step_20 (by rw [hR]; decide) (by rw [hR]; decide) hf
  · refine v_aload_n (pc := 7) (i := 0) (r := (some b)) hC dM_step_7 rfl 0 rfl ?_
    refine v_getI (pc := 8) (r := (some b)) hC dM_step_8 inM rfl 18 (by decide) q493 (Or.inl rfl) hf (fun x2 hf => ?_)
    refine v_aload_n (pc := 11) (i := 0) (r := (some b)) hC dM_step_11 rfl 0 rfl ?_
    refine v_getI (pc := 12) (r := (some b)) hC dM_step_12 inM rfl 14 (by decide) q489 (Or.inl rfl) hf (fun x3 hf => ?_)
    refine v_icmp_ne (pc := 15) (tgt := 21) hC dM_step_15 (by decide) hf (fun hf => ?_) (fun hf => ?_)
    · refine v_aload_n (pc := 21) (i := 0) (r := (some b)) hC dM_step_21 rfl 0 rfl ?_
      refine v_getQ (pc := 22) (r := (some b)) hC dM_step_22 inM rfl 12 (by decide) q487 (Or.inl rfl) hf (fun r4 hf => ?_)
      refine v_aload_n (pc := 25) (i := 0) (r := (some b)) hC dM_step_25 rfl 0 rfl ?_
      refine v_getI (pc := 26) (r := (some b)) hC dM_step_26 inM rfl 18 (by decide) q493 (Or.inl rfl) hf (fun x5 hf => ?_)
      refine v_iald (pc := 29) hC dM_step_29 hf (fun x6 hf => ?_)
      refine v_istore_n (pc := 30) (i := 1) (x := x6) hC dM_step_30 rfl (by decide) [(1, .int x6), (0, va_rf (some b))] rfl ?_
      refine v_iconst (pc := 31) (v := (0 : Int32)) hC dM_step_31 (by decide) ?_
      refine v_istore_n (pc := 32) (i := 2) (x := (0 : Int32)) hC dM_step_32 rfl (by decide) [(2, .int (0 : Int32)), (1, .int x6), (0, va_rf (some b))] rfl ?_
      exact V.sub [2, 1, 0] rfl (tM_step_l33 hC hE hR  FU _ _ _ hf)
    · refine v_bipush (pc := 18) (v := (-3 : Int32)) hC dM_step_18 (by decide) ?_
      exact v_iret (pc := 20) hC hE dM_step_20 (by rw [hR]; decide) (by rw [hR]; decide) hf
theorem mM_step (l : Launch) (G : cG) (b : Nat)  (w : cW) (r : Int32) (w' : cW) (hf : fM_step b w = some (r, w')) : Met l yM_step (wsM yM_step prog_7_method_28_code 3 (some .int)) rmM_step (mP G w [va_rf (some b)]) (mQ mkI G w w' r) (rmM_step).cells (rmM_step).slots (Aw w) :=
  met_of (by decide +kernel) rfl (Nat.le_of_ble_eq_true rfl) (fun C hC hR _ _ _ hts hE => tM_step (okC.tbl hC) hE hR  w hf)
set_option maxHeartbeats 4000000 in
set_option maxRecDepth 100000 in
theorem tM_finish_l12 {C : xC} {G : cG} {w0 w' : cW} {r : Int32} {b : Nat} (hC : okC C prog_7_method_29_code 2 "ArenaNetworkModel" lw_gd) (hE : xE C (some .int) mkI G w0 w' r) (hR : xR C = rmM_finish)  : ∀ n : Nat, ∀ (a1 : Int32) (w : cW), fM_finish_l12 b n a1 w = some (r, w') → V C w 0 0 12 [(0, va_rf (some b)), (1, .int a1)] [] := by
  refine lp_P (P := fun (f : Int32 → cW → Option (Int32 × cW)) => ∀ (a1 : Int32) (w : cW), f a1 w = some (r, w') → V C w 0 0 12 [(0, va_rf (some b)), (1, .int a1)] []) ?_ ?_
  · intro a1 w hf
    cases hf
  · intro rec12 hrec12 a1 w hf
    unfold fM_finish_b12 at hf
    refine v_iload_n (pc := 12) (i := 1) (x := a1) hC dM_finish_12 rfl 1 rfl ?_
    refine v_bipush (pc := 13) (v := (14 : Int32)) hC dM_finish_13 (by decide) ?_
    refine v_icmp_ge (pc := 15) (tgt := 31) hC dM_finish_15 (by decide) hf (fun hf => ?_) (fun hf => ?_)
    · refine v_iload_n (pc := 31) (i := 1) (x := a1) hC dM_finish_31 rfl 1 rfl ?_
      exact v_iret (pc := 32) hC hE dM_finish_32 (by rw [hR]; decide) (by rw [hR]; decide) hf
    · refine v_aload_n (pc := 18) (i := 0) (r := (some b)) hC dM_finish_18 rfl 0 rfl ?_
      refine v_callV (pc := 19) (r := (some b)) (As := []) (rest := []) (k' := 0) (n' := 0) (st1 := (fun yq => [.int yq])) hC dM_finish_19 q649 q616 q617 q7 q618 ykM_step rfl rfl (fun bq rq wq hq => mM_step _ _ bq  _ rq wq hq) (by rw [hR]; decide) (by simp only [List.map_cons, List.map_nil, va_cat]; exact Nat.le_of_ble_eq_true rfl) (by decide) (by rw [hR]; decide) hf rfl (fun _ => rfl) (fun x1 w2 hf => ?_)
      refine v_if_lt (pc := 22) (tgt := 31) hC dM_finish_22 (by decide) hf (fun hf => ?_) (fun hf => ?_)
      · refine v_iload_n (pc := 31) (i := 1) (x := a1) hC dM_finish_31 rfl 1 rfl ?_
        exact v_iret (pc := 32) hC hE dM_finish_32 (by rw [hR]; decide) (by rw [hR]; decide) hf
      · refine v_iincB (pc := 25) (i := 1) (x := a1) (v := (1 : Int32)) hC dM_finish_25 1 rfl (by decide) (by decide) (fun x4 => [(1, .int x4), (0, va_rf (some b))]) (fun _ => rfl) hf (fun x4 hf => ?_)
        refine v_goto (pc := 28) (tgt := 12) hC dM_finish_28 (by decide) ?_
        exact V.sub [1, 0] rfl (hrec12 _ _ hf)
set_option maxHeartbeats 4000000 in
set_option maxRecDepth 100000 in
theorem tM_finish {C : xC} {G : cG} {w0 w' : cW} {r : Int32} {b : Nat} (hC : okC C prog_7_method_29_code 2 "ArenaNetworkModel" lw_gd) (hE : xE C (some .int) mkI G w0 w' r) (hR : xR C = rmM_finish)  (w : cW) (hf : fM_finish b w = some (r, w')) : V C w 0 0 0 [(0, va_rf (some b))] [] := by
  unfold fM_finish at hf
  refine v_aload_n (pc := 0) (i := 0) (r := (some b)) hC dM_finish_0 rfl 0 rfl ?_
  refine v_getI (pc := 1) (r := (some b)) hC dM_finish_1 inM rfl 18 (by decide) q493 (Or.inl rfl) hf (fun x1 hf => ?_)
  refine v_if_ge (pc := 4) (tgt := 10) hC dM_finish_4 (by decide) hf (fun hf => ?_) (fun hf => ?_)
  · refine v_iconst (pc := 10) (v := (0 : Int32)) hC dM_finish_10 (by decide) ?_
    refine v_istore_n (pc := 11) (i := 1) (x := (0 : Int32)) hC dM_finish_11 rfl (by decide) [(1, .int (0 : Int32)), (0, va_rf (some b))] rfl ?_
    exact V.sub [1, 0] rfl (tM_finish_l12 hC hE hR  FU _ _ hf)
  · refine v_bipush (pc := 7) (v := (-3 : Int32)) hC dM_finish_7 (by decide) ?_
    exact v_iret (pc := 9) hC hE dM_finish_9 (by rw [hR]; decide) (by rw [hR]; decide) hf
theorem mM_finish (l : Launch) (G : cG) (b : Nat)  (w : cW) (r : Int32) (w' : cW) (hf : fM_finish b w = some (r, w')) : Met l yM_finish (wsM yM_finish prog_7_method_29_code 2 (some .int)) rmM_finish (mP G w [va_rf (some b)]) (mQ mkI G w w' r) (rmM_finish).cells (rmM_finish).slots (Aw w) :=
  met_of (by decide +kernel) rfl (Nat.le_of_ble_eq_true rfl) (fun C hC hR _ _ _ hts hE => tM_finish (okC.tbl hC) hE hR  w hf)
