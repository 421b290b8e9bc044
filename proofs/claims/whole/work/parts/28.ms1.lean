def gM_clamped (a1 : Int32) (S : sM) : Option (Int32 × sM) :=
  if (-128 : Int32) ≤ a1 then (
    if a1 ≤ (127 : Int32) then (
      some (a1, S)) else
    some ((127 : Int32), S)) else
  some ((-128 : Int32), S)
def gM_window_b56  (a3 : Int32) (a4 : Int32) (a5 : Int32) (a6 : Int32) (S : sM) : Option (Int32 × sM) :=
  if a4 = 0 then (
    cbd (gM_rounded a6.toInt64 a3.toInt64 S) fun j1 S2 =>
    some (j1.toInt32, S2)) else
  some (a5, S)
def gM_window_b10  (rec10 : Int32 → Int32 → Int32 → Int32 → Int32 → Int32 → Int32 → sM → Option (Int32 × sM)) (a1 : Int32) (a2 : Int32) (a3 : Int32) (a4 : Int32) (a5 : Int32) (a6 : Int32) (a7 : Int32) (S : sM) : Option (Int32 × sM) :=
  if (a2 + a3) ≤ a7 then (
    gM_window_b56  a3 a4 a5 a6 S) else
  (rdS S 5 ((a1 * (64 : Int32)) + a7)).bind fun x1 =>
  if x1 ≤ a5 then (
    bnd (a6 + x1) fun x2 =>
    bnd (a7 + (1 : Int32)) fun x3 =>
    rec10 a1 a2 a3 a4 a5 x2 x3 S) else
  bnd (a6 + x1) fun x4 =>
  bnd (a7 + (1 : Int32)) fun x5 =>
  rec10 a1 a2 a3 a4 x1 x4 x5 S
def gM_window_l10  (n : Nat) : Int32 → Int32 → Int32 → Int32 → Int32 → Int32 → Int32 → sM → Option (Int32 × sM) := lp (fun _ _ _ _ _ _ _ _ => none) (gM_window_b10 ) n
def gM_window (a1 : Int32) (a2 : Int32) (a3 : Int32) (a4 : Int32) (S : sM) : Option (Int32 × sM) :=
  gM_window_l10  FU a1 a2 a3 a4 (-128 : Int32) (0 : Int32) a2 S
def gM_tensor_b26  (a1 : Int32) (a2 : Int32) (a3 : Int32) (s0 : Int32) (s1 : Int32) (S : sM) : Option (Int32 × sM) :=
  if s1 < s0 then (
    some ((-1 : Int32), S)) else
  cbd (gM_noByte a3 S) fun x1 S2 =>
  if x1 = 0 then (
    bnd (S2 15 0) fun x3 =>
    if x3 = 0 then (
      bnd (S2 6 0) fun x4 =>
      if x4 = (20 : Int32) then (
        some ((-2 : Int32), S2)) else
      bnd (S2 6 0) fun x5 =>
      (wrS S2 0 x5 (vp_nar .int a1)).bind fun S6 =>
      bnd (S6 6 0) fun x7 =>
      (wrS S6 1 x7 (vp_nar .int a2)).bind fun S8 =>
      bnd (S8 6 0) fun x9 =>
      (wrS S8 2 x9 (vp_nar .int a3)).bind fun S10 =>
      bnd (S10 6 0) fun x11 =>
      bnd (ptI S10 6 (x11 + (1 : Int32))) fun S12 =>
      bnd (S12 6 0) fun x13 =>
      some ((x13 - (1 : Int32)), S12)) else
    some ((-3 : Int32), S2)) else
  some ((-1 : Int32), S2)
def gM_tensor (a1 : Int32) (a2 : Int32) (a3 : Int32) (S : sM) : Option (Int32 × sM) :=
  if a1 < 0 then (
    some ((-1 : Int32), S)) else
  if (2 : Int32) < a1 then (
    some ((-1 : Int32), S)) else
  if a2 < (1 : Int32) then (
    some ((-1 : Int32), S)) else
  if a1 = 0 then (
    gM_tensor_b26  a1 a2 a3 a2 (64 : Int32) S) else
  gM_tensor_b26  a1 a2 a3 a2 (16 : Int32) S
def gM_set_b61  (a1 : Int32) (a2 : Int32) (a3 : Int32) (S : sM) : Option (Int32 × sM) :=
  (wrS S 4 ((a1 * (64 : Int32)) + a2) (vp_nar .int a3)).bind fun S1 =>
  some ((0 : Int32), S1)
def gM_set (a1 : Int32) (a2 : Int32) (a3 : Int32) (S : sM) : Option (Int32 × sM) :=
  cbd (gM_noTensor a1 S) fun x1 S2 =>
  if x1 = 0 then (
    (rdS S2 0 a1).bind fun x3 =>
    if x3 = (2 : Int32) then (
      some ((-1 : Int32), S2)) else
    if a2 < 0 then (
      some ((-1 : Int32), S2)) else
    (rdS S2 1 a1).bind fun x4 =>
    if x4 ≤ a2 then (
      some ((-1 : Int32), S2)) else
    cbd (gM_noByte a3 S2) fun x5 S6 =>
    if x5 = 0 then (
      bnd (S6 15 0) fun x7 =>
      if x7 = 0 then (
        gM_set_b61  a1 a2 a3 S6) else
      (rdS S6 0 a1).bind fun x8 =>
      if x8 = 0 then (
        some ((-3 : Int32), S6)) else
      gM_set_b61  a1 a2 a3 S6) else
    some ((-1 : Int32), S6)) else
  some ((-1 : Int32), S2)
def gM_lives (a1 : Int32) (S : sM) : Option (Int32 × sM) :=
  cbd (gM_noTensor a1 S) fun x1 S2 =>
  if x1 = 0 then (
    bnd (S2 15 0) fun x3 =>
    if x3 = 0 then (
      some ((0 : Int32), S2)) else
    (rdS S2 0 a1).bind fun x4 =>
    if x4 = (1 : Int32) then (
      some ((1 : Int32), S2)) else
    (rdS S2 0 a1).bind fun x5 =>
    if x5 = (2 : Int32) then (
      bnd (S2 14 0) fun x6 =>
      cbd (gM_maker a1 x6 S2) fun x7 S8 =>
      if x7 < 0 then (
        some ((0 : Int32), S8)) else
      some ((1 : Int32), S8)) else
    some ((0 : Int32), S2)) else
  some ((0 : Int32), S2)
def gM_fault (a1 : Int32) (S : sM) : Option (Int32 × sM) :=
  (rdS S 12 a1).bind fun x1 =>
  (rdS S 0 x1).bind fun x2 =>
  if x2 = (2 : Int32) then (
    (rdS S 12 a1).bind fun x3 =>
    cbd (gM_maker x3 a1 S) fun x4 S5 =>
    if x4 < 0 then (
      (rdS S5 10 a1).bind fun x6 =>
      cbd (gM_unmade x6 a1 S5) fun x7 S8 =>
      if x7 = 0 then (
        (rdS S8 11 a1).bind fun x9 =>
        cbd (gM_unmade x9 a1 S8) fun x10 S11 =>
        if x10 = 0 then (
          cbd (gM_fits a1 S11) fun x12 S13 =>
          if x12 = 0 then (
            some ((3 : Int32), S13)) else
          some ((0 : Int32), S13)) else
        some ((2 : Int32), S11)) else
      some ((2 : Int32), S8)) else
    some ((1 : Int32), S5)) else
  some ((1 : Int32), S)
def gM_apart_b51 (rec3 : Int32 → Int32 → Int32 → Int32 → sM → Option (Int32 × sM)) (a1 : Int32) (a2 : Int32) (a3 : Int32) (a4 : Int32) (a5 : Int32) (s0 : Int32) (S : sM) : Option (Int32 × sM) :=
  if s0 = 0 then (
    bnd (a4 + (1 : Int32)) fun x1 =>
    rec3 a1 a2 a3 x1 S) else
  (rdS S 16 a5).bind fun x2 =>
  (rdS S 1 a5).bind fun x3 =>
  if (x2 + x3) ≤ a2 then (
    bnd (a4 + (1 : Int32)) fun x4 =>
    rec3 a1 a2 a3 x4 S) else
  (rdS S 16 a5).bind fun x5 =>
  (rdS S 1 a1).bind fun x6 =>
  if (a2 + x6) ≤ x5 then (
    bnd (a4 + (1 : Int32)) fun x7 =>
    rec3 a1 a2 a3 x7 S) else
  some ((0 : Int32), S)
def gM_apart_b3  (rec3 : Int32 → Int32 → Int32 → Int32 → sM → Option (Int32 × sM)) (a1 : Int32) (a2 : Int32) (a3 : Int32) (a4 : Int32) (S : sM) : Option (Int32 × sM) :=
  if a3 ≤ a4 then (
    some ((1 : Int32), S)) else
  (rdS S 17 a4).bind fun x1 =>
  cbd (gM_begin a1 S) fun x2 S3 =>
  cbd (gM_end x1 S3) fun x4 S5 =>
  if x4 < x2 then (
    gM_apart_b51 rec3 a1 a2 a3 a4 x1 (0 : Int32) S5) else
  cbd (gM_begin x1 S5) fun x6 S7 =>
  cbd (gM_end a1 S7) fun x8 S9 =>
  if x8 < x6 then (
    gM_apart_b51 rec3 a1 a2 a3 a4 x1 (0 : Int32) S9) else
  gM_apart_b51 rec3 a1 a2 a3 a4 x1 (1 : Int32) S9
def gM_apart_l3  (n : Nat) : Int32 → Int32 → Int32 → Int32 → sM → Option (Int32 × sM) := lp (fun _ _ _ _ _ => none) (gM_apart_b3 ) n
def gM_apart (a1 : Int32) (a2 : Int32) (a3 : Int32) (S : sM) : Option (Int32 × sM) :=
  gM_apart_l3  FU a1 a2 a3 (0 : Int32) S
def gM_arena_b4  (rec4 : Int32 → Int32 → sM → Option (Int32 × sM)) (a1 : Int32) (a2 : Int32) (S : sM) : Option (Int32 × sM) :=
  bnd (S 6 0) fun x1 =>
  if x1 ≤ a2 then (
    some (a1, S)) else
  cbd (gM_lives a2 S) fun x2 S3 =>
  if x2 = 0 then (
    bnd (a2 + (1 : Int32)) fun x4 =>
    rec4 a1 x4 S3) else
  (rdS S3 16 a2).bind fun x5 =>
  (rdS S3 1 a2).bind fun x6 =>
  if (x5 + x6) ≤ a1 then (
    bnd (a2 + (1 : Int32)) fun x7 =>
    rec4 a1 x7 S3) else
  (rdS S3 16 a2).bind fun x8 =>
  (rdS S3 1 a2).bind fun x9 =>
  bnd (x8 + x9) fun x10 =>
  bnd (a2 + (1 : Int32)) fun x11 =>
  rec4 x10 x11 S3
def gM_arena_l4  (n : Nat) : Int32 → Int32 → sM → Option (Int32 × sM) := lp (fun _ _ _ => none) (gM_arena_b4 ) n
def gM_arena  (S : sM) : Option (Int32 × sM) :=
  gM_arena_l4  FU (0 : Int32) (0 : Int32) S
def gM_scaling (a1 : Int32) (a2 : Int32) (S : sM) : Option (Int32 × sM) :=
  (rdS S 7 a1).bind fun x1 =>
  cbd (gM_rounded (a2.toInt64 * x1.toInt64) (2147483648 : Int64) S) fun j2 S3 =>
  (rdS S3 8 a1).bind fun x4 =>
  cbd (gM_rounded j2 ((1 : Int64) <<< (x4.toInt64 &&& 63)) S3) fun j5 S6 =>
  some (j5.toInt32, S6)
def gM_cell (a1 : Int32) (a2 : Int32) (S : sM) : Option (Int32 × sM) :=
  cbd (gM_noTensor a1 S) fun x1 S2 =>
  if x1 = 0 then (
    if a2 < 0 then (
      some ((-1000 : Int32), S2)) else
    (rdS S2 1 a1).bind fun x3 =>
    if a2 < x3 then (
      (rdS S2 0 a1).bind fun x4 =>
      if x4 = 0 then (
        (rdS S2 4 ((a1 * (64 : Int32)) + a2)).bind fun x15 =>
        some (x15, S2)) else
      bnd (S2 18 0) fun x5 =>
      if x5 < 0 then (
        some ((-1000 : Int32), S2)) else
      cbd (gM_lives a1 S2) fun x6 S7 =>
      if x6 = 0 then (
        some ((-1000 : Int32), S7)) else
      cbd (gM_begin a1 S7) fun x8 S9 =>
      bnd (S9 18 0) fun x10 =>
      if x10 ≤ x8 then (
        some ((-1000 : Int32), S9)) else
      cbd (gM_end a1 S9) fun x11 S12 =>
      bnd (S12 18 0) fun x13 =>
      if (x13 - (1 : Int32)) ≤ x11 then (
        (rdS S12 5 ((a1 * (64 : Int32)) + a2)).bind fun x14 =>
        some (x14, S12)) else
      some ((-1000 : Int32), S12)) else
    some ((-1000 : Int32), S2)) else
  some ((-1000 : Int32), S2)
def gM_offset (a1 : Int32) (S : sM) : Option (Int32 × sM) :=
  cbd (gM_lives a1 S) fun x1 S2 =>
  if x1 = 0 then (
    some ((-1 : Int32), S2)) else
  (rdS S2 16 a1).bind fun x3 =>
  some (x3, S2)
def gM_life (a1 : Int32) (a2 : Int32) (S : sM) : Option (Int32 × sM) :=
  cbd (gM_lives a1 S) fun x1 S2 =>
  if x1 = 0 then (
    some ((-1000 : Int32), S2)) else
  if a2 = 0 then (
    cbd (gM_begin a1 S2) fun x3 S4 =>
    some (x3, S4)) else
  cbd (gM_end a1 S2) fun x5 S6 =>
  some (x5, S6)
def gM_scaled (a1 : Int32) (a2 : Int32) (S : sM) : Option (Int32 × sM) :=
  if a1 < 0 then (
    some ((0 : Int32), S)) else
  if (7 : Int32) < a1 then (
    some ((0 : Int32), S)) else
  if a2 < (-16777216 : Int32) then (
    some ((0 : Int32), S)) else
  if a2 ≤ (16777216 : Int32) then (
    cbd (gM_scaling a1 a2 S) fun x1 S2 =>
    some (x1, S2)) else
  some ((0 : Int32), S)
def gM_count_b68  (rec68 : Int32 → Int32 → sM → Option (Int32 × sM)) (a2 : Int32) (a3 : Int32) (S : sM) : Option (Int32 × sM) :=
  bnd (S 6 0) fun x1 =>
  if x1 ≤ a3 then (
    some (a2, S)) else
  cbd (gM_lives a3 S) fun x2 S3 =>
  if x2 = 0 then (
    bnd (a3 + (1 : Int32)) fun x4 =>
    rec68 a2 x4 S3) else
  (rdS S3 1 a3).bind fun x5 =>
  bnd (a2 + x5) fun x6 =>
  bnd (a3 + (1 : Int32)) fun x7 =>
  rec68 x6 x7 S3
def gM_count_l68  (n : Nat) : Int32 → Int32 → sM → Option (Int32 × sM) := lp (fun _ _ _ => none) (gM_count_b68 ) n
def gM_count (a1 : Int32) (S : sM) : Option (Int32 × sM) :=
  if a1 = 0 then (
    bnd (S 6 0) fun x6 =>
    some (x6, S)) else
  if a1 = (1 : Int32) then (
    bnd (S 14 0) fun x5 =>
    some (x5, S)) else
  if a1 = (2 : Int32) then (
    bnd (S 15 0) fun x4 =>
    if x4 = 0 then (
      some ((0 : Int32), S)) else
    some ((1 : Int32), S)) else
  if a1 = (3 : Int32) then (
    bnd (S 18 0) fun x3 =>
    some (x3, S)) else
  if a1 = (4 : Int32) then (
    cbd (gM_arena  S) fun x1 S2 =>
    some (x1, S2)) else
  if a1 = (5 : Int32) then (
    gM_count_l68  FU (0 : Int32) (0 : Int32) S) else
  some ((-1 : Int32), S)
set_option maxHeartbeats 1000000 in
theorem lM_clamped {m : Nat} {A : Nat → Nat} (a1 : Int32) : Lf m A (fun w => fM_clamped m a1 w) (fun S => gM_clamped a1 S) := by
  unfold fM_clamped gM_clamped
  refine L_if ?_ ?_
  · refine L_if ?_ ?_
    · exact L_ret _
    · exact L_ret _
  · exact L_ret _
set_option maxHeartbeats 1000000 in
theorem lM_window_b56 {m : Nat} {A : Nat → Nat}  (a3 : Int32) (a4 : Int32) (a5 : Int32) (a6 : Int32) : Lf m A (fun w => fM_window_b56 m  a3 a4 a5 a6 w) (fun S => gM_window_b56  a3 a4 a5 a6 S) := by
  unfold fM_window_b56 gM_window_b56
  refine L_if ?_ ?_
  · refine L_call (lM_rounded _ _) (fun j1 => ?_)
    exact L_ret _
  · exact L_ret _
set_option maxHeartbeats 1000000 in
theorem lM_window_l10 {m : Nat} {A : Nat → Nat}  (n : Nat) : ∀ (a1 : Int32) (a2 : Int32) (a3 : Int32) (a4 : Int32) (a5 : Int32) (a6 : Int32) (a7 : Int32), Lf m A (fun w => fM_window_l10 m  n a1 a2 a3 a4 a5 a6 a7 w) (fun S => gM_window_l10  n a1 a2 a3 a4 a5 a6 a7 S) := by
  induction n with
  | zero =>
    intro a1 a2 a3 a4 a5 a6 a7
    exact L_none
  | succ n ih =>
    intro a1 a2 a3 a4 a5 a6 a7
    show Lf m A (fun w => fM_window_b10 m  (fM_window_l10 m  n) a1 a2 a3 a4 a5 a6 a7 w) (fun S => gM_window_b10  (gM_window_l10  n) a1 a2 a3 a4 a5 a6 a7 S)
    generalize fM_window_l10 m  n = frec10 at ih ⊢
    generalize gM_window_l10  n = rec10 at ih ⊢
    have hrec10 := ih
    unfold fM_window_b10 gM_window_b10
    refine L_if ?_ ?_
    · exact lM_window_b56  _ _ _ _
    · refine L_gQ 5 (fun _ => rfl) ?_
      refine L_ld 5 (ty := .int) rfl rfl (fun x1 => ?_)
      refine L_if ?_ ?_
      · refine L_bnd (fun x2 => ?_)
        refine L_bnd (fun x3 => ?_)
        exact hrec10 _ _ _ _ _ _ _
      · refine L_bnd (fun x4 => ?_)
        refine L_bnd (fun x5 => ?_)
        exact hrec10 _ _ _ _ _ _ _
set_option maxHeartbeats 1000000 in
theorem lM_window {m : Nat} {A : Nat → Nat} (a1 : Int32) (a2 : Int32) (a3 : Int32) (a4 : Int32) : Lf m A (fun w => fM_window m a1 a2 a3 a4 w) (fun S => gM_window a1 a2 a3 a4 S) := by
  unfold fM_window gM_window
  exact lM_window_l10  FU _ _ _ _ _ _ _
set_option maxHeartbeats 1000000 in
theorem lM_tensor_b26 {m : Nat} {A : Nat → Nat}  (a1 : Int32) (a2 : Int32) (a3 : Int32) (s0 : Int32) (s1 : Int32) : Lf m A (fun w => fM_tensor_b26 m  a1 a2 a3 s0 s1 w) (fun S => gM_tensor_b26  a1 a2 a3 s0 s1 S) := by
  unfold fM_tensor_b26 gM_tensor_b26
  refine L_if ?_ ?_
  · exact L_ret _
  · refine L_call (lM_noByte _) (fun x1 => ?_)
    refine L_if ?_ ?_
    · refine L_gI 15 (fun _ => rfl) (fun x3 => ?_)
      refine L_if ?_ ?_
      · refine L_gI 6 (fun _ => rfl) (fun x4 => ?_)
        refine L_if ?_ ?_
        · exact L_ret _
        · refine L_gQ 0 (fun _ => rfl) ?_
          refine L_gI 6 (fun _ => rfl) (fun x5 => ?_)
          refine L_st 0 (ty := .int) rfl rfl ?_
          refine L_gQ 1 (fun _ => rfl) ?_
          refine L_gI 6 (fun _ => rfl) (fun x7 => ?_)
          refine L_st 1 (ty := .int) rfl rfl ?_
          refine L_gQ 2 (fun _ => rfl) ?_
          refine L_gI 6 (fun _ => rfl) (fun x9 => ?_)
          refine L_st 2 (ty := .int) rfl rfl ?_
          refine L_gI 6 (fun _ => rfl) (fun x11 => ?_)
          refine L_pI 6 (by decide) ?_
          refine L_gI 6 (fun _ => rfl) (fun x13 => ?_)
          exact L_ret _
      · exact L_ret _
    · exact L_ret _
set_option maxHeartbeats 1000000 in
theorem lM_tensor {m : Nat} {A : Nat → Nat} (a1 : Int32) (a2 : Int32) (a3 : Int32) : Lf m A (fun w => fM_tensor m a1 a2 a3 w) (fun S => gM_tensor a1 a2 a3 S) := by
  unfold fM_tensor gM_tensor
  refine L_if ?_ ?_
  · exact L_ret _
  · refine L_if ?_ ?_
    · exact L_ret _
    · refine L_if ?_ ?_
      · exact L_ret _
      · refine L_if ?_ ?_
        · exact lM_tensor_b26  _ _ _ _ _
        · exact lM_tensor_b26  _ _ _ _ _
set_option maxHeartbeats 1000000 in
theorem lM_set_b61 {m : Nat} {A : Nat → Nat}  (a1 : Int32) (a2 : Int32) (a3 : Int32) : Lf m A (fun w => fM_set_b61 m  a1 a2 a3 w) (fun S => gM_set_b61  a1 a2 a3 S) := by
  unfold fM_set_b61 gM_set_b61
  refine L_gQ 4 (fun _ => rfl) ?_
  refine L_st 4 (ty := .int) rfl rfl ?_
  exact L_ret _
set_option maxHeartbeats 1000000 in
theorem lM_set {m : Nat} {A : Nat → Nat} (a1 : Int32) (a2 : Int32) (a3 : Int32) : Lf m A (fun w => fM_set m a1 a2 a3 w) (fun S => gM_set a1 a2 a3 S) := by
  unfold fM_set gM_set
  refine L_call (lM_noTensor _) (fun x1 => ?_)
  refine L_if ?_ ?_
  · refine L_gQ 0 (fun _ => rfl) ?_
    refine L_ld 0 (ty := .int) rfl rfl (fun x3 => ?_)
    refine L_if ?_ ?_
    · exact L_ret _
    · refine L_if ?_ ?_
      · exact L_ret _
      · refine L_gQ 1 (fun _ => rfl) ?_
        refine L_ld 1 (ty := .int) rfl rfl (fun x4 => ?_)
        refine L_if ?_ ?_
        · exact L_ret _
        · refine L_call (lM_noByte _) (fun x5 => ?_)
          refine L_if ?_ ?_
          · refine L_gI 15 (fun _ => rfl) (fun x7 => ?_)
            refine L_if ?_ ?_
            · exact lM_set_b61  _ _ _
            · refine L_gQ 0 (fun _ => rfl) ?_
              refine L_ld 0 (ty := .int) rfl rfl (fun x8 => ?_)
              refine L_if ?_ ?_
              · exact L_ret _
              · exact lM_set_b61  _ _ _
          · exact L_ret _
  · exact L_ret _
set_option maxHeartbeats 1000000 in
theorem lM_lives {m : Nat} {A : Nat → Nat} (a1 : Int32) : Lf m A (fun w => fM_lives m a1 w) (fun S => gM_lives a1 S) := by
  unfold fM_lives gM_lives
  refine L_call (lM_noTensor _) (fun x1 => ?_)
  refine L_if ?_ ?_
  · refine L_gI 15 (fun _ => rfl) (fun x3 => ?_)
    refine L_if ?_ ?_
    · exact L_ret _
    · refine L_gQ 0 (fun _ => rfl) ?_
      refine L_ld 0 (ty := .int) rfl rfl (fun x4 => ?_)
      refine L_if ?_ ?_
      · exact L_ret _
      · refine L_gQ 0 (fun _ => rfl) ?_
        refine L_ld 0 (ty := .int) rfl rfl (fun x5 => ?_)
        refine L_if ?_ ?_
        · refine L_gI 14 (fun _ => rfl) (fun x6 => ?_)
          refine L_call (lM_maker _ _) (fun x7 => ?_)
          refine L_if ?_ ?_
          · exact L_ret _
          · exact L_ret _
        · exact L_ret _
  · exact L_ret _
set_option maxHeartbeats 1000000 in
theorem lM_fault {m : Nat} {A : Nat → Nat} (a1 : Int32) : Lf m A (fun w => fM_fault m a1 w) (fun S => gM_fault a1 S) := by
  unfold fM_fault gM_fault
  refine L_gQ 0 (fun _ => rfl) ?_
  refine L_gQ 12 (fun _ => rfl) ?_
  refine L_ld 12 (ty := .int) rfl rfl (fun x1 => ?_)
  refine L_ld 0 (ty := .int) rfl rfl (fun x2 => ?_)
  refine L_if ?_ ?_
  · refine L_gQ 12 (fun _ => rfl) ?_
    refine L_ld 12 (ty := .int) rfl rfl (fun x3 => ?_)
    refine L_call (lM_maker _ _) (fun x4 => ?_)
    refine L_if ?_ ?_
    · refine L_gQ 10 (fun _ => rfl) ?_
      refine L_ld 10 (ty := .int) rfl rfl (fun x6 => ?_)
      refine L_call (lM_unmade _ _) (fun x7 => ?_)
      refine L_if ?_ ?_
      · refine L_gQ 11 (fun _ => rfl) ?_
        refine L_ld 11 (ty := .int) rfl rfl (fun x9 => ?_)
        refine L_call (lM_unmade _ _) (fun x10 => ?_)
        refine L_if ?_ ?_
        · refine L_call (lM_fits _) (fun x12 => ?_)
          refine L_if ?_ ?_
          · exact L_ret _
          · exact L_ret _
        · exact L_ret _
      · exact L_ret _
    · exact L_ret _
  · exact L_ret _
set_option maxHeartbeats 1000000 in
theorem lM_apart_b51 {m : Nat} {A : Nat → Nat} {frec3 : Int32 → Int32 → Int32 → Int32 → cW → Option (Int32 × cW)} {rec3 : Int32 → Int32 → Int32 → Int32 → sM → Option (Int32 × sM)} (hrec3 : ∀ (a1 : Int32) (a2 : Int32) (a3 : Int32) (a4 : Int32), Lf m A (fun w => frec3 a1 a2 a3 a4 w) (fun S => rec3 a1 a2 a3 a4 S)) (a1 : Int32) (a2 : Int32) (a3 : Int32) (a4 : Int32) (a5 : Int32) (s0 : Int32) : Lf m A (fun w => fM_apart_b51 m frec3 a1 a2 a3 a4 a5 s0 w) (fun S => gM_apart_b51 rec3 a1 a2 a3 a4 a5 s0 S) := by
  unfold fM_apart_b51 gM_apart_b51
  refine L_if ?_ ?_
  · refine L_bnd (fun x1 => ?_)
    exact hrec3 _ _ _ _
  · refine L_gQ 16 (fun _ => rfl) ?_
    refine L_ld 16 (ty := .int) rfl rfl (fun x2 => ?_)
    refine L_gQ 1 (fun _ => rfl) ?_
    refine L_ld 1 (ty := .int) rfl rfl (fun x3 => ?_)
    refine L_if ?_ ?_
    · refine L_bnd (fun x4 => ?_)
      exact hrec3 _ _ _ _
    · refine L_gQ 16 (fun _ => rfl) ?_
      refine L_ld 16 (ty := .int) rfl rfl (fun x5 => ?_)
      refine L_gQ 1 (fun _ => rfl) ?_
      refine L_ld 1 (ty := .int) rfl rfl (fun x6 => ?_)
      refine L_if ?_ ?_
      · refine L_bnd (fun x7 => ?_)
        exact hrec3 _ _ _ _
      · exact L_ret _
set_option maxHeartbeats 1000000 in
theorem lM_apart_l3 {m : Nat} {A : Nat → Nat}  (n : Nat) : ∀ (a1 : Int32) (a2 : Int32) (a3 : Int32) (a4 : Int32), Lf m A (fun w => fM_apart_l3 m  n a1 a2 a3 a4 w) (fun S => gM_apart_l3  n a1 a2 a3 a4 S) := by
  induction n with
  | zero =>
    intro a1 a2 a3 a4
    exact L_none
  | succ n ih =>
    intro a1 a2 a3 a4
    show Lf m A (fun w => fM_apart_b3 m  (fM_apart_l3 m  n) a1 a2 a3 a4 w) (fun S => gM_apart_b3  (gM_apart_l3  n) a1 a2 a3 a4 S)
    generalize fM_apart_l3 m  n = frec3 at ih ⊢
    generalize gM_apart_l3  n = rec3 at ih ⊢
    have hrec3 := ih
    unfold fM_apart_b3 gM_apart_b3
    refine L_if ?_ ?_
    · exact L_ret _
    · refine L_gQ 17 (fun _ => rfl) ?_
      refine L_ld 17 (ty := .int) rfl rfl (fun x1 => ?_)
      refine L_call (lM_begin _) (fun x2 => ?_)
      refine L_call (lM_end _) (fun x4 => ?_)
      refine L_if ?_ ?_
      · exact lM_apart_b51 hrec3 _ _ _ _ _ _
      · refine L_call (lM_begin _) (fun x6 => ?_)
        refine L_call (lM_end _) (fun x8 => ?_)
        refine L_if ?_ ?_
        · exact lM_apart_b51 hrec3 _ _ _ _ _ _
        · exact lM_apart_b51 hrec3 _ _ _ _ _ _
set_option maxHeartbeats 1000000 in
theorem lM_apart {m : Nat} {A : Nat → Nat} (a1 : Int32) (a2 : Int32) (a3 : Int32) : Lf m A (fun w => fM_apart m a1 a2 a3 w) (fun S => gM_apart a1 a2 a3 S) := by
  unfold fM_apart gM_apart
  exact lM_apart_l3  FU _ _ _ _
set_option maxHeartbeats 1000000 in
theorem lM_arena_l4 {m : Nat} {A : Nat → Nat}  (n : Nat) : ∀ (a1 : Int32) (a2 : Int32), Lf m A (fun w => fM_arena_l4 m  n a1 a2 w) (fun S => gM_arena_l4  n a1 a2 S) := by
  induction n with
  | zero =>
    intro a1 a2
    exact L_none
  | succ n ih =>
    intro a1 a2
    show Lf m A (fun w => fM_arena_b4 m  (fM_arena_l4 m  n) a1 a2 w) (fun S => gM_arena_b4  (gM_arena_l4  n) a1 a2 S)
    generalize fM_arena_l4 m  n = frec4 at ih ⊢
    generalize gM_arena_l4  n = rec4 at ih ⊢
    have hrec4 := ih
    unfold fM_arena_b4 gM_arena_b4
    refine L_gI 6 (fun _ => rfl) (fun x1 => ?_)
    refine L_if ?_ ?_
    · exact L_ret _
    · refine L_call (lM_lives _) (fun x2 => ?_)
      refine L_if ?_ ?_
      · refine L_bnd (fun x4 => ?_)
        exact hrec4 _ _
      · refine L_gQ 16 (fun _ => rfl) ?_
        refine L_ld 16 (ty := .int) rfl rfl (fun x5 => ?_)
        refine L_gQ 1 (fun _ => rfl) ?_
        refine L_ld 1 (ty := .int) rfl rfl (fun x6 => ?_)
        refine L_if ?_ ?_
        · refine L_bnd (fun x7 => ?_)
          exact hrec4 _ _
        · refine L_gQ 16 (fun _ => rfl) ?_
          refine L_ld 16 (ty := .int) rfl rfl (fun x8 => ?_)
          refine L_gQ 1 (fun _ => rfl) ?_
          refine L_ld 1 (ty := .int) rfl rfl (fun x9 => ?_)
          refine L_bnd (fun x10 => ?_)
          refine L_bnd (fun x11 => ?_)
          exact hrec4 _ _
set_option maxHeartbeats 1000000 in
theorem lM_arena {m : Nat} {A : Nat → Nat}  : Lf m A (fun w => fM_arena m  w) (fun S => gM_arena  S) := by
  unfold fM_arena gM_arena
  exact lM_arena_l4  FU _ _
set_option maxHeartbeats 1000000 in
theorem lM_scaling {m : Nat} {A : Nat → Nat} (a1 : Int32) (a2 : Int32) : Lf m A (fun w => fM_scaling m a1 a2 w) (fun S => gM_scaling a1 a2 S) := by
  unfold fM_scaling gM_scaling
  refine L_gQ 7 (fun _ => rfl) ?_
  refine L_ld 7 (ty := .int) rfl rfl (fun x1 => ?_)
  refine L_call (lM_rounded _ _) (fun j2 => ?_)
  refine L_gQ 8 (fun _ => rfl) ?_
  refine L_ld 8 (ty := .int) rfl rfl (fun x4 => ?_)
  refine L_call (lM_rounded _ _) (fun j5 => ?_)
  exact L_ret _
set_option maxHeartbeats 1000000 in
theorem lM_cell {m : Nat} {A : Nat → Nat} (a1 : Int32) (a2 : Int32) : Lf m A (fun w => fM_cell m a1 a2 w) (fun S => gM_cell a1 a2 S) := by
  unfold fM_cell gM_cell
  refine L_call (lM_noTensor _) (fun x1 => ?_)
  refine L_if ?_ ?_
  · refine L_if ?_ ?_
    · exact L_ret _
    · refine L_gQ 1 (fun _ => rfl) ?_
      refine L_ld 1 (ty := .int) rfl rfl (fun x3 => ?_)
      refine L_if ?_ ?_
      · refine L_gQ 0 (fun _ => rfl) ?_
        refine L_ld 0 (ty := .int) rfl rfl (fun x4 => ?_)
        refine L_if ?_ ?_
        · refine L_gQ 4 (fun _ => rfl) ?_
          refine L_ld 4 (ty := .int) rfl rfl (fun x15 => ?_)
          exact L_ret _
        · refine L_gI 18 (fun _ => rfl) (fun x5 => ?_)
          refine L_if ?_ ?_
          · exact L_ret _
          · refine L_call (lM_lives _) (fun x6 => ?_)
            refine L_if ?_ ?_
            · exact L_ret _
            · refine L_call (lM_begin _) (fun x8 => ?_)
              refine L_gI 18 (fun _ => rfl) (fun x10 => ?_)
              refine L_if ?_ ?_
              · exact L_ret _
              · refine L_call (lM_end _) (fun x11 => ?_)
                refine L_gI 18 (fun _ => rfl) (fun x13 => ?_)
                refine L_if ?_ ?_
                · refine L_gQ 5 (fun _ => rfl) ?_
                  refine L_ld 5 (ty := .int) rfl rfl (fun x14 => ?_)
                  exact L_ret _
                · exact L_ret _
      · exact L_ret _
  · exact L_ret _
set_option maxHeartbeats 1000000 in
theorem lM_offset {m : Nat} {A : Nat → Nat} (a1 : Int32) : Lf m A (fun w => fM_offset m a1 w) (fun S => gM_offset a1 S) := by
  unfold fM_offset gM_offset
  refine L_call (lM_lives _) (fun x1 => ?_)
  refine L_if ?_ ?_
  · exact L_ret _
  · refine L_gQ 16 (fun _ => rfl) ?_
    refine L_ld 16 (ty := .int) rfl rfl (fun x3 => ?_)
    exact L_ret _
set_option maxHeartbeats 1000000 in
theorem lM_life {m : Nat} {A : Nat → Nat} (a1 : Int32) (a2 : Int32) : Lf m A (fun w => fM_life m a1 a2 w) (fun S => gM_life a1 a2 S) := by
  unfold fM_life gM_life
  refine L_call (lM_lives _) (fun x1 => ?_)
  refine L_if ?_ ?_
  · exact L_ret _
  · refine L_if ?_ ?_
    · refine L_call (lM_begin _) (fun x3 => ?_)
      exact L_ret _
    · refine L_call (lM_end _) (fun x5 => ?_)
      exact L_ret _
set_option maxHeartbeats 1000000 in
theorem lM_scaled {m : Nat} {A : Nat → Nat} (a1 : Int32) (a2 : Int32) : Lf m A (fun w => fM_scaled m a1 a2 w) (fun S => gM_scaled a1 a2 S) := by
  unfold fM_scaled gM_scaled
  refine L_if ?_ ?_
  · exact L_ret _
  · refine L_if ?_ ?_
    · exact L_ret _
    · refine L_if ?_ ?_
      · exact L_ret _
      · refine L_if ?_ ?_
        · refine L_call (lM_scaling _ _) (fun x1 => ?_)
          exact L_ret _
        · exact L_ret _
set_option maxHeartbeats 1000000 in
theorem lM_count_l68 {m : Nat} {A : Nat → Nat}  (n : Nat) : ∀ (a2 : Int32) (a3 : Int32), Lf m A (fun w => fM_count_l68 m  n a2 a3 w) (fun S => gM_count_l68  n a2 a3 S) := by
  induction n with
  | zero =>
    intro a2 a3
    exact L_none
  | succ n ih =>
    intro a2 a3
    show Lf m A (fun w => fM_count_b68 m  (fM_count_l68 m  n) a2 a3 w) (fun S => gM_count_b68  (gM_count_l68  n) a2 a3 S)
    generalize fM_count_l68 m  n = frec68 at ih ⊢
    generalize gM_count_l68  n = rec68 at ih ⊢
    have hrec68 := ih
    unfold fM_count_b68 gM_count_b68
    refine L_gI 6 (fun _ => rfl) (fun x1 => ?_)
    refine L_if ?_ ?_
    · exact L_ret _
    · refine L_call (lM_lives _) (fun x2 => ?_)
      refine L_if ?_ ?_
      · refine L_bnd (fun x4 => ?_)
        exact hrec68 _ _
      · refine L_gQ 1 (fun _ => rfl) ?_
        refine L_ld 1 (ty := .int) rfl rfl (fun x5 => ?_)
        refine L_bnd (fun x6 => ?_)
        refine L_bnd (fun x7 => ?_)
        exact hrec68 _ _
set_option maxHeartbeats 1000000 in
theorem lM_count {m : Nat} {A : Nat → Nat} (a1 : Int32) : Lf m A (fun w => fM_count m a1 w) (fun S => gM_count a1 S) := by
  unfold fM_count gM_count
  refine L_if ?_ ?_
  · refine L_gI 6 (fun _ => rfl) (fun x6 => ?_)
    exact L_ret _
  · refine L_if ?_ ?_
    · refine L_gI 14 (fun _ => rfl) (fun x5 => ?_)
      exact L_ret _
    · refine L_if ?_ ?_
      · refine L_gI 15 (fun _ => rfl) (fun x4 => ?_)
        refine L_if ?_ ?_
        · exact L_ret _
        · exact L_ret _
      · refine L_if ?_ ?_
        · refine L_gI 18 (fun _ => rfl) (fun x3 => ?_)
          exact L_ret _
        · refine L_if ?_ ?_
          · refine L_call (lM_arena) (fun x1 => ?_)
            exact L_ret _
          · refine L_if ?_ ?_
            · exact lM_count_l68  FU _ _
            · exact L_ret _
