def gM_placed_b92 (rec14 : Int32 → Int32 → sM → Option (Int32 × sM)) (a1 : Int32) (a2 : Int32) (a3 : Int32) (S : sM) : Option (Int32 × sM) :=
  cbd (gM_lives a2 S) fun x1 S2 =>
  if x1 = 0 then (
    bnd (a2 + (1 : Int32)) fun x3 =>
    rec14 a1 x3 S2) else
  if a3 = a1 then (
    some (a2, S2)) else
  bnd (a2 + (1 : Int32)) fun x4 =>
  rec14 a1 x4 S2
def gM_placed_b27 (rec14 : Int32 → Int32 → sM → Option (Int32 × sM)) (rec27 : Int32 → Int32 → Int32 → Int32 → sM → Option (Int32 × sM)) (a1 : Int32) (a2 : Int32) (a3 : Int32) (a4 : Int32) (S : sM) : Option (Int32 × sM) :=
  bnd (S 6 0) fun x1 =>
  if x1 ≤ a4 then (
    gM_placed_b92 rec14 a1 a2 a3 S) else
  cbd (gM_lives a4 S) fun x2 S3 =>
  if x2 = 0 then (
    bnd (a4 + (1 : Int32)) fun x4 =>
    rec27 a1 a2 a3 x4 S3) else
  (rdS S3 1 a4).bind fun x5 =>
  (rdS S3 1 a2).bind fun x6 =>
  if x6 < x5 then (
    bnd (a3 + (1 : Int32)) fun x7 =>
    bnd (a4 + (1 : Int32)) fun x8 =>
    rec27 a1 a2 x7 x8 S3) else
  (rdS S3 1 a4).bind fun x9 =>
  (rdS S3 1 a2).bind fun x10 =>
  if x9 = x10 then (
    if a2 ≤ a4 then (
      bnd (a4 + (1 : Int32)) fun x12 =>
      rec27 a1 a2 a3 x12 S3) else
    bnd (a3 + (1 : Int32)) fun x13 =>
    bnd (a4 + (1 : Int32)) fun x14 =>
    rec27 a1 a2 x13 x14 S3) else
  bnd (a4 + (1 : Int32)) fun x11 =>
  rec27 a1 a2 a3 x11 S3
def gM_placed_l27 (rec14 : Int32 → Int32 → sM → Option (Int32 × sM)) (n : Nat) : Int32 → Int32 → Int32 → Int32 → sM → Option (Int32 × sM) := lp (fun _ _ _ _ _ => none) (gM_placed_b27 rec14) n
def gM_placed_b14  (rec14 : Int32 → Int32 → sM → Option (Int32 × sM)) (a1 : Int32) (a2 : Int32) (S : sM) : Option (Int32 × sM) :=
  bnd (S 6 0) fun x1 =>
  if x1 ≤ a2 then (
    some ((-1 : Int32), S)) else
  gM_placed_l27 rec14 FU a1 a2 (0 : Int32) (0 : Int32) S
def gM_placed_l14  (n : Nat) : Int32 → Int32 → sM → Option (Int32 × sM) := lp (fun _ _ _ => none) (gM_placed_b14 ) n
def gM_placed (a1 : Int32) (S : sM) : Option (Int32 × sM) :=
  if a1 < 0 then (
    some ((-1 : Int32), S)) else
  if a1 < (20 : Int32) then (
    gM_placed_l14  FU a1 (0 : Int32) S) else
  some ((-1 : Int32), S)
def gM_prepare_b163 (rec118 : Int32 → sM → Option (Int32 × sM)) (a1 : Int32) (a2 : Int32) (S : sM) : Option (Int32 × sM) :=
  (rdS S 17 a1).bind fun x1 =>
  (wrS S 16 x1 (vp_nar .int a2)).bind fun S2 =>
  bnd (a1 + (1 : Int32)) fun x3 =>
  rec118 x3 S2
def gM_prepare_b135 (rec118 : Int32 → sM → Option (Int32 × sM)) (rec135 : Int32 → Int32 → sM → Option (Int32 × sM)) (a1 : Int32) (a2 : Int32) (S : sM) : Option (Int32 × sM) :=
  if (400 : Int32) ≤ a2 then (
    gM_prepare_b163 rec118 a1 a2 S) else
  (rdS S 17 a1).bind fun x1 =>
  cbd (gM_apart x1 a2 a1 S) fun x2 S3 =>
  if x2 = 0 then (
    bnd (a2 + (4 : Int32)) fun x4 =>
    rec135 a1 x4 S3) else
  gM_prepare_b163 rec118 a1 a2 S3
def gM_prepare_l135 (rec118 : Int32 → sM → Option (Int32 × sM)) (n : Nat) : Int32 → Int32 → sM → Option (Int32 × sM) := lp (fun _ _ _ => none) (gM_prepare_b135 rec118) n
def gM_prepare_b118  (rec118 : Int32 → sM → Option (Int32 × sM)) (a1 : Int32) (S : sM) : Option (Int32 × sM) :=
  if (20 : Int32) ≤ a1 then (
    cbd (gM_arena  S) fun x1 S2 =>
    some (x1, S2)) else
  (rdS S 17 a1).bind fun x3 =>
  if x3 < 0 then (
    bnd (a1 + (1 : Int32)) fun x4 =>
    rec118 x4 S) else
  gM_prepare_l135 rec118 FU a1 (0 : Int32) S
def gM_prepare_l118  (n : Nat) : Int32 → sM → Option (Int32 × sM) := lp (fun _ _ => none) (gM_prepare_b118 ) n
def gM_prepare_b93  (rec93 : Int32 → sM → Option (Int32 × sM)) (a1 : Int32) (S : sM) : Option (Int32 × sM) :=
  if (20 : Int32) ≤ a1 then (
    gM_prepare_l118  FU (0 : Int32) S) else
  cbd (gM_placed a1 S) fun x1 S2 =>
  (wrS S2 17 a1 (vp_nar .int x1)).bind fun S3 =>
  bnd (a1 + (1 : Int32)) fun x4 =>
  rec93 x4 S3
def gM_prepare_l93  (n : Nat) : Int32 → sM → Option (Int32 × sM) := lp (fun _ _ => none) (gM_prepare_b93 ) n
def gM_prepare_b86   (S : sM) : Option (Int32 × sM) :=
  (ptZ S 15 (1 : Int32)).bind fun S1 =>
  gM_prepare_l93  FU (0 : Int32) S1
def gM_prepare_b47  (rec47 : Int32 → sM → Option (Int32 × sM)) (a1 : Int32) (S : sM) : Option (Int32 × sM) :=
  bnd (S 6 0) fun x1 =>
  if x1 ≤ a1 then (
    gM_prepare_b86   S) else
  (rdS S 3 a1).bind fun x2 =>
  if x2 = 0 then (
    bnd (a1 + (1 : Int32)) fun x3 =>
    rec47 x3 S) else
  bnd (S 14 0) fun x4 =>
  cbd (gM_unmade a1 x4 S) fun x5 S6 =>
  if x5 = 0 then (
    bnd (a1 + (1 : Int32)) fun x7 =>
    rec47 x7 S6) else
  some ((-1000 : Int32), S6)
def gM_prepare_l47  (n : Nat) : Int32 → sM → Option (Int32 × sM) := lp (fun _ _ => none) (gM_prepare_b47 ) n
def gM_prepare_b30  (a1 : Int32) (a2 : Int32) (S : sM) : Option (Int32 × sM) :=
  some ((((-10 : Int32) * (a1 + (1 : Int32))) - a2), S)
def gM_prepare_b12  (rec12 : Int32 → sM → Option (Int32 × sM)) (a1 : Int32) (S : sM) : Option (Int32 × sM) :=
  bnd (S 14 0) fun x1 =>
  if x1 ≤ a1 then (
    gM_prepare_l47  FU (0 : Int32) S) else
  cbd (gM_fault a1 S) fun x2 S3 =>
  if x2 ≤ 0 then (
    bnd (a1 + (1 : Int32)) fun x4 =>
    rec12 x4 S3) else
  gM_prepare_b30  a1 x2 S3
def gM_prepare_l12  (n : Nat) : Int32 → sM → Option (Int32 × sM) := lp (fun _ _ => none) (gM_prepare_b12 ) n
def gM_prepare  (S : sM) : Option (Int32 × sM) :=
  bnd (S 15 0) fun x1 =>
  if x1 = 0 then (
    gM_prepare_l12  FU (0 : Int32) S) else
  some ((-3 : Int32), S)
def gM_made_b98  (a5 : Int32) (a6 : Int32) (a8 : Int32) (S : sM) : Option (Int32 × sM) :=
  cbd (gM_scaling a6 a8 S) fun x1 S2 =>
  cbd (gM_clamped (a5 + x1) S2) fun x3 S4 =>
  some (x3, S4)
def gM_made_b59  (rec59 : Int32 → Int32 → Int32 → Int32 → Int32 → Int32 → Int32 → Int32 → sM → Option (Int32 × sM)) (a2 : Int32) (a3 : Int32) (a4 : Int32) (a5 : Int32) (a6 : Int32) (a7 : Int32) (a8 : Int32) (a9 : Int32) (S : sM) : Option (Int32 × sM) :=
  if a7 ≤ a9 then (
    gM_made_b98  a5 a6 a8 S) else
  cbd (gM_difference a3 a9 S) fun x1 S2 =>
  cbd (gM_difference a4 ((a2 * a7) + a9) S2) fun x3 S4 =>
  bnd (a8 + (x1 * x3)) fun x5 =>
  bnd (a9 + (1 : Int32)) fun x6 =>
  rec59 a2 a3 a4 a5 a6 a7 x5 x6 S4
def gM_made_l59  (n : Nat) : Int32 → Int32 → Int32 → Int32 → Int32 → Int32 → Int32 → Int32 → sM → Option (Int32 × sM) := lp (fun _ _ _ _ _ _ _ _ _ => none) (gM_made_b59 ) n
def gM_made (a1 : Int32) (a2 : Int32) (S : sM) : Option (Int32 × sM) :=
  (rdS S 10 a1).bind fun x1 =>
  (rdS S 11 a1).bind fun x2 =>
  (rdS S 12 a1).bind fun x3 =>
  (rdS S 2 x3).bind fun x4 =>
  (rdS S 13 a1).bind fun x5 =>
  (rdS S 1 x1).bind fun x6 =>
  (rdS S 9 a1).bind fun x7 =>
  if x7 = 0 then (
    gM_made_l59  FU a2 x1 x2 x4 x5 x6 (0 : Int32) (0 : Int32) S) else
  (rdS S 9 a1).bind fun x8 =>
  if x8 = (1 : Int32) then (
    cbd (gM_difference x1 a2 S) fun x31 S32 =>
    cbd (gM_difference x2 a2 S32) fun x33 S34 =>
    cbd (gM_scaling x5 (x31 + x33) S34) fun x35 S36 =>
    cbd (gM_clamped (x4 + x35) S36) fun x37 S38 =>
    some (x37, S38)) else
  (rdS S 9 a1).bind fun x9 =>
  if x9 = (2 : Int32) then (
    cbd (gM_difference x1 a2 S) fun x23 S24 =>
    cbd (gM_difference x2 a2 S24) fun x25 S26 =>
    cbd (gM_scaling x5 (x23 * x25) S26) fun x27 S28 =>
    cbd (gM_clamped (x4 + x27) S28) fun x29 S30 =>
    some (x29, S30)) else
  (rdS S 9 a1).bind fun x10 =>
  if (5 : Int32) ≤ x10 then (
    (rdS S 9 a1).bind fun x11 =>
    if x11 = (5 : Int32) then (
      (rdS S 5 ((x1 * (64 : Int32)) + a2)).bind fun x16 =>
      (rdS S 5 ((x2 * (64 : Int32)) + ((x16 + (128 : Int32)) / (16 : Int32)))).bind fun x17 =>
      some (x17, S)) else
    (rdS S 9 a1).bind fun x12 =>
    if x12 = (6 : Int32) then (
      if x6 ≤ a2 then (
        (rdS S 5 (((x2 * (64 : Int32)) + a2) - x6)).bind fun x14 =>
        some (x14, S)) else
      (rdS S 5 ((x1 * (64 : Int32)) + a2)).bind fun x15 =>
      some (x15, S)) else
    (rdS S 5 ((((x1 * (64 : Int32)) + x6) - (1 : Int32)) - a2)).bind fun x13 =>
    some (x13, S)) else
  (rdS S 9 a1).bind fun x18 =>
  if x18 = (3 : Int32) then (
    cbd (gM_window x1 (a2 * x5) x5 (1 : Int32) S) fun x21 S22 =>
    some (x21, S22)) else
  cbd (gM_window x1 (a2 * x5) x5 (0 : Int32) S) fun x19 S20 =>
  some (x19, S20)
def gM_step_b69   (S : sM) : Option (Int32 × sM) :=
  bnd (S 18 0) fun x1 =>
  bnd (ptI S 18 (x1 + (1 : Int32))) fun S2 =>
  bnd (S2 18 0) fun x3 =>
  some ((x3 - (1 : Int32)), S2)
def gM_step_b33  (rec33 : Int32 → Int32 → sM → Option (Int32 × sM)) (a1 : Int32) (a2 : Int32) (S : sM) : Option (Int32 × sM) :=
  (rdS S 1 a1).bind fun x1 =>
  if x1 ≤ a2 then (
    gM_step_b69   S) else
  bnd (S 18 0) fun x2 =>
  cbd (gM_made x2 a2 S) fun x3 S4 =>
  (wrS S4 5 ((a1 * (64 : Int32)) + a2) (vp_nar .int x3)).bind fun S5 =>
  bnd (a2 + (1 : Int32)) fun x6 =>
  rec33 a1 x6 S5
def gM_step_l33  (n : Nat) : Int32 → Int32 → sM → Option (Int32 × sM) := lp (fun _ _ _ => none) (gM_step_b33 ) n
def gM_step  (S : sM) : Option (Int32 × sM) :=
  bnd (S 18 0) fun x1 =>
  if x1 < 0 then (
    some ((-3 : Int32), S)) else
  bnd (S 18 0) fun x2 =>
  bnd (S 14 0) fun x3 =>
  if x2 = x3 then (
    some ((-3 : Int32), S)) else
  bnd (S 18 0) fun x4 =>
  (rdS S 12 x4).bind fun x5 =>
  gM_step_l33  FU x5 (0 : Int32) S
def gM_finish_b12  (rec12 : Int32 → sM → Option (Int32 × sM)) (a1 : Int32) (S : sM) : Option (Int32 × sM) :=
  if (14 : Int32) ≤ a1 then (
    some (a1, S)) else
  cbd (gM_step  S) fun x1 S2 =>
  if x1 < 0 then (
    some (a1, S2)) else
  bnd (a1 + (1 : Int32)) fun x3 =>
  rec12 x3 S2
def gM_finish_l12  (n : Nat) : Int32 → sM → Option (Int32 × sM) := lp (fun _ _ => none) (gM_finish_b12 ) n
def gM_finish  (S : sM) : Option (Int32 × sM) :=
  bnd (S 18 0) fun x1 =>
  if 0 ≤ x1 then (
    gM_finish_l12  FU (0 : Int32) S) else
  some ((-3 : Int32), S)
set_option maxHeartbeats 1000000 in
theorem lM_placed_b92 {m : Nat} {A : Nat → Nat} {frec14 : Int32 → Int32 → cW → Option (Int32 × cW)} {rec14 : Int32 → Int32 → sM → Option (Int32 × sM)} (hrec14 : ∀ (a1 : Int32) (a2 : Int32), Lf m A (fun w => frec14 a1 a2 w) (fun S => rec14 a1 a2 S)) (a1 : Int32) (a2 : Int32) (a3 : Int32) : Lf m A (fun w => fM_placed_b92 m frec14 a1 a2 a3 w) (fun S => gM_placed_b92 rec14 a1 a2 a3 S) := by
  unfold fM_placed_b92 gM_placed_b92
  refine L_call (lM_lives _) (fun x1 => ?_)
  refine L_if ?_ ?_
  · refine L_bnd (fun x3 => ?_)
    exact hrec14 _ _
  · refine L_if ?_ ?_
    · exact L_ret _
    · refine L_bnd (fun x4 => ?_)
      exact hrec14 _ _
set_option maxHeartbeats 1000000 in
theorem lM_placed_l27 {m : Nat} {A : Nat → Nat} {frec14 : Int32 → Int32 → cW → Option (Int32 × cW)} {rec14 : Int32 → Int32 → sM → Option (Int32 × sM)} (hrec14 : ∀ (a1 : Int32) (a2 : Int32), Lf m A (fun w => frec14 a1 a2 w) (fun S => rec14 a1 a2 S)) (n : Nat) : ∀ (a1 : Int32) (a2 : Int32) (a3 : Int32) (a4 : Int32), Lf m A (fun w => fM_placed_l27 m frec14 n a1 a2 a3 a4 w) (fun S => gM_placed_l27 rec14 n a1 a2 a3 a4 S) := by
  induction n with
  | zero =>
    intro a1 a2 a3 a4
    exact L_none
  | succ n ih =>
    intro a1 a2 a3 a4
    show Lf m A (fun w => fM_placed_b27 m frec14 (fM_placed_l27 m frec14 n) a1 a2 a3 a4 w) (fun S => gM_placed_b27 rec14 (gM_placed_l27 rec14 n) a1 a2 a3 a4 S)
    generalize fM_placed_l27 m frec14 n = frec27 at ih ⊢
    generalize gM_placed_l27 rec14 n = rec27 at ih ⊢
    have hrec27 := ih
    unfold fM_placed_b27 gM_placed_b27
    refine L_gI 6 (fun _ => rfl) (fun x1 => ?_)
    refine L_if ?_ ?_
    · exact lM_placed_b92 hrec14 _ _ _
    · refine L_call (lM_lives _) (fun x2 => ?_)
      refine L_if ?_ ?_
      · refine L_bnd (fun x4 => ?_)
        exact hrec27 _ _ _ _
      · refine L_gQ 1 (fun _ => rfl) ?_
        refine L_ld 1 (ty := .int) rfl rfl (fun x5 => ?_)
        refine L_gQ 1 (fun _ => rfl) ?_
        refine L_ld 1 (ty := .int) rfl rfl (fun x6 => ?_)
        refine L_if ?_ ?_
        · refine L_bnd (fun x7 => ?_)
          refine L_bnd (fun x8 => ?_)
          exact hrec27 _ _ _ _
        · refine L_gQ 1 (fun _ => rfl) ?_
          refine L_ld 1 (ty := .int) rfl rfl (fun x9 => ?_)
          refine L_gQ 1 (fun _ => rfl) ?_
          refine L_ld 1 (ty := .int) rfl rfl (fun x10 => ?_)
          refine L_if ?_ ?_
          · refine L_if ?_ ?_
            · refine L_bnd (fun x12 => ?_)
              exact hrec27 _ _ _ _
            · refine L_bnd (fun x13 => ?_)
              refine L_bnd (fun x14 => ?_)
              exact hrec27 _ _ _ _
          · refine L_bnd (fun x11 => ?_)
            exact hrec27 _ _ _ _
set_option maxHeartbeats 1000000 in
theorem lM_placed_l14 {m : Nat} {A : Nat → Nat}  (n : Nat) : ∀ (a1 : Int32) (a2 : Int32), Lf m A (fun w => fM_placed_l14 m  n a1 a2 w) (fun S => gM_placed_l14  n a1 a2 S) := by
  induction n with
  | zero =>
    intro a1 a2
    exact L_none
  | succ n ih =>
    intro a1 a2
    show Lf m A (fun w => fM_placed_b14 m  (fM_placed_l14 m  n) a1 a2 w) (fun S => gM_placed_b14  (gM_placed_l14  n) a1 a2 S)
    generalize fM_placed_l14 m  n = frec14 at ih ⊢
    generalize gM_placed_l14  n = rec14 at ih ⊢
    have hrec14 := ih
    unfold fM_placed_b14 gM_placed_b14
    refine L_gI 6 (fun _ => rfl) (fun x1 => ?_)
    refine L_if ?_ ?_
    · exact L_ret _
    · exact lM_placed_l27 hrec14 FU _ _ _ _
set_option maxHeartbeats 1000000 in
theorem lM_placed {m : Nat} {A : Nat → Nat} (a1 : Int32) : Lf m A (fun w => fM_placed m a1 w) (fun S => gM_placed a1 S) := by
  unfold fM_placed gM_placed
  refine L_if ?_ ?_
  · exact L_ret _
  · refine L_if ?_ ?_
    · exact lM_placed_l14  FU _ _
    · exact L_ret _
set_option maxHeartbeats 1000000 in
theorem lM_prepare_b163 {m : Nat} {A : Nat → Nat} {frec118 : Int32 → cW → Option (Int32 × cW)} {rec118 : Int32 → sM → Option (Int32 × sM)} (hrec118 : ∀ (a1 : Int32), Lf m A (fun w => frec118 a1 w) (fun S => rec118 a1 S)) (a1 : Int32) (a2 : Int32) : Lf m A (fun w => fM_prepare_b163 m frec118 a1 a2 w) (fun S => gM_prepare_b163 rec118 a1 a2 S) := by
  unfold fM_prepare_b163 gM_prepare_b163
  refine L_gQ 16 (fun _ => rfl) ?_
  refine L_gQ 17 (fun _ => rfl) ?_
  refine L_ld 17 (ty := .int) rfl rfl (fun x1 => ?_)
  refine L_st 16 (ty := .int) rfl rfl ?_
  refine L_bnd (fun x3 => ?_)
  exact hrec118 _
set_option maxHeartbeats 1000000 in
theorem lM_prepare_l135 {m : Nat} {A : Nat → Nat} {frec118 : Int32 → cW → Option (Int32 × cW)} {rec118 : Int32 → sM → Option (Int32 × sM)} (hrec118 : ∀ (a1 : Int32), Lf m A (fun w => frec118 a1 w) (fun S => rec118 a1 S)) (n : Nat) : ∀ (a1 : Int32) (a2 : Int32), Lf m A (fun w => fM_prepare_l135 m frec118 n a1 a2 w) (fun S => gM_prepare_l135 rec118 n a1 a2 S) := by
  induction n with
  | zero =>
    intro a1 a2
    exact L_none
  | succ n ih =>
    intro a1 a2
    show Lf m A (fun w => fM_prepare_b135 m frec118 (fM_prepare_l135 m frec118 n) a1 a2 w) (fun S => gM_prepare_b135 rec118 (gM_prepare_l135 rec118 n) a1 a2 S)
    generalize fM_prepare_l135 m frec118 n = frec135 at ih ⊢
    generalize gM_prepare_l135 rec118 n = rec135 at ih ⊢
    have hrec135 := ih
    unfold fM_prepare_b135 gM_prepare_b135
    refine L_if ?_ ?_
    · exact lM_prepare_b163 hrec118 _ _
    · refine L_gQ 17 (fun _ => rfl) ?_
      refine L_ld 17 (ty := .int) rfl rfl (fun x1 => ?_)
      refine L_call (lM_apart _ _ _) (fun x2 => ?_)
      refine L_if ?_ ?_
      · refine L_bnd (fun x4 => ?_)
        exact hrec135 _ _
      · exact lM_prepare_b163 hrec118 _ _
set_option maxHeartbeats 1000000 in
theorem lM_prepare_l118 {m : Nat} {A : Nat → Nat}  (n : Nat) : ∀ (a1 : Int32), Lf m A (fun w => fM_prepare_l118 m  n a1 w) (fun S => gM_prepare_l118  n a1 S) := by
  induction n with
  | zero =>
    intro a1
    exact L_none
  | succ n ih =>
    intro a1
    show Lf m A (fun w => fM_prepare_b118 m  (fM_prepare_l118 m  n) a1 w) (fun S => gM_prepare_b118  (gM_prepare_l118  n) a1 S)
    generalize fM_prepare_l118 m  n = frec118 at ih ⊢
    generalize gM_prepare_l118  n = rec118 at ih ⊢
    have hrec118 := ih
    unfold fM_prepare_b118 gM_prepare_b118
    refine L_if ?_ ?_
    · refine L_call (lM_arena) (fun x1 => ?_)
      exact L_ret _
    · refine L_gQ 17 (fun _ => rfl) ?_
      refine L_ld 17 (ty := .int) rfl rfl (fun x3 => ?_)
      refine L_if ?_ ?_
      · refine L_bnd (fun x4 => ?_)
        exact hrec118 _
      · exact lM_prepare_l135 hrec118 FU _ _
set_option maxHeartbeats 1000000 in
theorem lM_prepare_l93 {m : Nat} {A : Nat → Nat}  (n : Nat) : ∀ (a1 : Int32), Lf m A (fun w => fM_prepare_l93 m  n a1 w) (fun S => gM_prepare_l93  n a1 S) := by
  induction n with
  | zero =>
    intro a1
    exact L_none
  | succ n ih =>
    intro a1
    show Lf m A (fun w => fM_prepare_b93 m  (fM_prepare_l93 m  n) a1 w) (fun S => gM_prepare_b93  (gM_prepare_l93  n) a1 S)
    generalize fM_prepare_l93 m  n = frec93 at ih ⊢
    generalize gM_prepare_l93  n = rec93 at ih ⊢
    have hrec93 := ih
    unfold fM_prepare_b93 gM_prepare_b93
    refine L_if ?_ ?_
    · exact lM_prepare_l118  FU _
    · refine L_gQ 17 (fun _ => rfl) ?_
      refine L_call (lM_placed _) (fun x1 => ?_)
      refine L_st 17 (ty := .int) rfl rfl ?_
      refine L_bnd (fun x4 => ?_)
      exact hrec93 _
set_option maxHeartbeats 1000000 in
theorem lM_prepare_b86 {m : Nat} {A : Nat → Nat}   : Lf m A (fun w => fM_prepare_b86 m   w) (fun S => gM_prepare_b86   S) := by
  unfold fM_prepare_b86 gM_prepare_b86
  refine L_pZ 15 (by decide) ?_
  exact lM_prepare_l93  FU _
set_option maxHeartbeats 1000000 in
theorem lM_prepare_l47 {m : Nat} {A : Nat → Nat}  (n : Nat) : ∀ (a1 : Int32), Lf m A (fun w => fM_prepare_l47 m  n a1 w) (fun S => gM_prepare_l47  n a1 S) := by
  induction n with
  | zero =>
    intro a1
    exact L_none
  | succ n ih =>
    intro a1
    show Lf m A (fun w => fM_prepare_b47 m  (fM_prepare_l47 m  n) a1 w) (fun S => gM_prepare_b47  (gM_prepare_l47  n) a1 S)
    generalize fM_prepare_l47 m  n = frec47 at ih ⊢
    generalize gM_prepare_l47  n = rec47 at ih ⊢
    have hrec47 := ih
    unfold fM_prepare_b47 gM_prepare_b47
    refine L_gI 6 (fun _ => rfl) (fun x1 => ?_)
    refine L_if ?_ ?_
    · exact lM_prepare_b86  
    · refine L_gQ 3 (fun _ => rfl) ?_
      refine L_ld 3 (ty := .boolean) rfl rfl (fun x2 => ?_)
      refine L_if ?_ ?_
      · refine L_bnd (fun x3 => ?_)
        exact hrec47 _
      · refine L_gI 14 (fun _ => rfl) (fun x4 => ?_)
        refine L_call (lM_unmade _ _) (fun x5 => ?_)
        refine L_if ?_ ?_
        · refine L_bnd (fun x7 => ?_)
          exact hrec47 _
        · exact L_ret _
set_option maxHeartbeats 1000000 in
theorem lM_prepare_b30 {m : Nat} {A : Nat → Nat}  (a1 : Int32) (a2 : Int32) : Lf m A (fun w => fM_prepare_b30 m  a1 a2 w) (fun S => gM_prepare_b30  a1 a2 S) := by
  unfold fM_prepare_b30 gM_prepare_b30
  exact L_ret _
set_option maxHeartbeats 1000000 in
theorem lM_prepare_l12 {m : Nat} {A : Nat → Nat}  (n : Nat) : ∀ (a1 : Int32), Lf m A (fun w => fM_prepare_l12 m  n a1 w) (fun S => gM_prepare_l12  n a1 S) := by
  induction n with
  | zero =>
    intro a1
    exact L_none
  | succ n ih =>
    intro a1
    show Lf m A (fun w => fM_prepare_b12 m  (fM_prepare_l12 m  n) a1 w) (fun S => gM_prepare_b12  (gM_prepare_l12  n) a1 S)
    generalize fM_prepare_l12 m  n = frec12 at ih ⊢
    generalize gM_prepare_l12  n = rec12 at ih ⊢
    have hrec12 := ih
    unfold fM_prepare_b12 gM_prepare_b12
    refine L_gI 14 (fun _ => rfl) (fun x1 => ?_)
    refine L_if ?_ ?_
    · exact lM_prepare_l47  FU _
    · refine L_call (lM_fault _) (fun x2 => ?_)
      refine L_if ?_ ?_
      · refine L_bnd (fun x4 => ?_)
        exact hrec12 _
      · exact lM_prepare_b30  _ _
set_option maxHeartbeats 1000000 in
theorem lM_prepare {m : Nat} {A : Nat → Nat}  : Lf m A (fun w => fM_prepare m  w) (fun S => gM_prepare  S) := by
  unfold fM_prepare gM_prepare
  refine L_gI 15 (fun _ => rfl) (fun x1 => ?_)
  refine L_if ?_ ?_
  · exact lM_prepare_l12  FU _
  · exact L_ret _
set_option maxHeartbeats 1000000 in
theorem lM_made_b98 {m : Nat} {A : Nat → Nat}  (a5 : Int32) (a6 : Int32) (a8 : Int32) : Lf m A (fun w => fM_made_b98 m  a5 a6 a8 w) (fun S => gM_made_b98  a5 a6 a8 S) := by
  unfold fM_made_b98 gM_made_b98
  refine L_call (lM_scaling _ _) (fun x1 => ?_)
  refine L_call (lM_clamped _) (fun x3 => ?_)
  exact L_ret _
set_option maxHeartbeats 1000000 in
theorem lM_made_l59 {m : Nat} {A : Nat → Nat}  (n : Nat) : ∀ (a2 : Int32) (a3 : Int32) (a4 : Int32) (a5 : Int32) (a6 : Int32) (a7 : Int32) (a8 : Int32) (a9 : Int32), Lf m A (fun w => fM_made_l59 m  n a2 a3 a4 a5 a6 a7 a8 a9 w) (fun S => gM_made_l59  n a2 a3 a4 a5 a6 a7 a8 a9 S) := by
  induction n with
  | zero =>
    intro a2 a3 a4 a5 a6 a7 a8 a9
    exact L_none
  | succ n ih =>
    intro a2 a3 a4 a5 a6 a7 a8 a9
    show Lf m A (fun w => fM_made_b59 m  (fM_made_l59 m  n) a2 a3 a4 a5 a6 a7 a8 a9 w) (fun S => gM_made_b59  (gM_made_l59  n) a2 a3 a4 a5 a6 a7 a8 a9 S)
    generalize fM_made_l59 m  n = frec59 at ih ⊢
    generalize gM_made_l59  n = rec59 at ih ⊢
    have hrec59 := ih
    unfold fM_made_b59 gM_made_b59
    refine L_if ?_ ?_
    · exact lM_made_b98  _ _ _
    · refine L_call (lM_difference _ _) (fun x1 => ?_)
      refine L_call (lM_difference _ _) (fun x3 => ?_)
      refine L_bnd (fun x5 => ?_)
      refine L_bnd (fun x6 => ?_)
      exact hrec59 _ _ _ _ _ _ _ _
set_option maxHeartbeats 1000000 in
theorem lM_made {m : Nat} {A : Nat → Nat} (a1 : Int32) (a2 : Int32) : Lf m A (fun w => fM_made m a1 a2 w) (fun S => gM_made a1 a2 S) := by
  unfold fM_made gM_made
  refine L_gQ 10 (fun _ => rfl) ?_
  refine L_ld 10 (ty := .int) rfl rfl (fun x1 => ?_)
  refine L_gQ 11 (fun _ => rfl) ?_
  refine L_ld 11 (ty := .int) rfl rfl (fun x2 => ?_)
  refine L_gQ 2 (fun _ => rfl) ?_
  refine L_gQ 12 (fun _ => rfl) ?_
  refine L_ld 12 (ty := .int) rfl rfl (fun x3 => ?_)
  refine L_ld 2 (ty := .int) rfl rfl (fun x4 => ?_)
  refine L_gQ 13 (fun _ => rfl) ?_
  refine L_ld 13 (ty := .int) rfl rfl (fun x5 => ?_)
  refine L_gQ 1 (fun _ => rfl) ?_
  refine L_ld 1 (ty := .int) rfl rfl (fun x6 => ?_)
  refine L_gQ 9 (fun _ => rfl) ?_
  refine L_ld 9 (ty := .int) rfl rfl (fun x7 => ?_)
  refine L_if ?_ ?_
  · exact lM_made_l59  FU _ _ _ _ _ _ _ _
  · refine L_gQ 9 (fun _ => rfl) ?_
    refine L_ld 9 (ty := .int) rfl rfl (fun x8 => ?_)
    refine L_if ?_ ?_
    · refine L_call (lM_difference _ _) (fun x31 => ?_)
      refine L_call (lM_difference _ _) (fun x33 => ?_)
      refine L_call (lM_scaling _ _) (fun x35 => ?_)
      refine L_call (lM_clamped _) (fun x37 => ?_)
      exact L_ret _
    · refine L_gQ 9 (fun _ => rfl) ?_
      refine L_ld 9 (ty := .int) rfl rfl (fun x9 => ?_)
      refine L_if ?_ ?_
      · refine L_call (lM_difference _ _) (fun x23 => ?_)
        refine L_call (lM_difference _ _) (fun x25 => ?_)
        refine L_call (lM_scaling _ _) (fun x27 => ?_)
        refine L_call (lM_clamped _) (fun x29 => ?_)
        exact L_ret _
      · refine L_gQ 9 (fun _ => rfl) ?_
        refine L_ld 9 (ty := .int) rfl rfl (fun x10 => ?_)
        refine L_if ?_ ?_
        · refine L_gQ 9 (fun _ => rfl) ?_
          refine L_ld 9 (ty := .int) rfl rfl (fun x11 => ?_)
          refine L_if ?_ ?_
          · refine L_gQ 5 (fun _ => rfl) ?_
            refine L_gQ 5 (fun _ => rfl) ?_
            refine L_ld 5 (ty := .int) rfl rfl (fun x16 => ?_)
            refine L_ld 5 (ty := .int) rfl rfl (fun x17 => ?_)
            exact L_ret _
          · refine L_gQ 9 (fun _ => rfl) ?_
            refine L_ld 9 (ty := .int) rfl rfl (fun x12 => ?_)
            refine L_if ?_ ?_
            · refine L_if ?_ ?_
              · refine L_gQ 5 (fun _ => rfl) ?_
                refine L_ld 5 (ty := .int) rfl rfl (fun x14 => ?_)
                exact L_ret _
              · refine L_gQ 5 (fun _ => rfl) ?_
                refine L_ld 5 (ty := .int) rfl rfl (fun x15 => ?_)
                exact L_ret _
            · refine L_gQ 5 (fun _ => rfl) ?_
              refine L_ld 5 (ty := .int) rfl rfl (fun x13 => ?_)
              exact L_ret _
        · refine L_gQ 9 (fun _ => rfl) ?_
          refine L_ld 9 (ty := .int) rfl rfl (fun x18 => ?_)
          refine L_if ?_ ?_
          · refine L_call (lM_window _ _ _ _) (fun x21 => ?_)
            exact L_ret _
          · refine L_call (lM_window _ _ _ _) (fun x19 => ?_)
            exact L_ret _
set_option maxHeartbeats 1000000 in
theorem lM_step_b69 {m : Nat} {A : Nat → Nat}   : Lf m A (fun w => fM_step_b69 m   w) (fun S => gM_step_b69   S) := by
  unfold fM_step_b69 gM_step_b69
  refine L_gI 18 (fun _ => rfl) (fun x1 => ?_)
  refine L_pI 18 (by decide) ?_
  refine L_gI 18 (fun _ => rfl) (fun x3 => ?_)
  exact L_ret _
set_option maxHeartbeats 1000000 in
theorem lM_step_l33 {m : Nat} {A : Nat → Nat}  (n : Nat) : ∀ (a1 : Int32) (a2 : Int32), Lf m A (fun w => fM_step_l33 m  n a1 a2 w) (fun S => gM_step_l33  n a1 a2 S) := by
  induction n with
  | zero =>
    intro a1 a2
    exact L_none
  | succ n ih =>
    intro a1 a2
    show Lf m A (fun w => fM_step_b33 m  (fM_step_l33 m  n) a1 a2 w) (fun S => gM_step_b33  (gM_step_l33  n) a1 a2 S)
    generalize fM_step_l33 m  n = frec33 at ih ⊢
    generalize gM_step_l33  n = rec33 at ih ⊢
    have hrec33 := ih
    unfold fM_step_b33 gM_step_b33
    refine L_gQ 1 (fun _ => rfl) ?_
    refine L_ld 1 (ty := .int) rfl rfl (fun x1 => ?_)
    refine L_if ?_ ?_
    · exact lM_step_b69  
    · refine L_gQ 5 (fun _ => rfl) ?_
      refine L_gI 18 (fun _ => rfl) (fun x2 => ?_)
      refine L_call (lM_made _ _) (fun x3 => ?_)
      refine L_st 5 (ty := .int) rfl rfl ?_
      refine L_bnd (fun x6 => ?_)
      exact hrec33 _ _
set_option maxHeartbeats 1000000 in
theorem lM_step {m : Nat} {A : Nat → Nat}  : Lf m A (fun w => fM_step m  w) (fun S => gM_step  S) := by
  unfold fM_step gM_step
  refine L_gI 18 (fun _ => rfl) (fun x1 => ?_)
  refine L_if ?_ ?_
  · exact L_ret _
  · refine L_gI 18 (fun _ => rfl) (fun x2 => ?_)
    refine L_gI 14 (fun _ => rfl) (fun x3 => ?_)
    refine L_if ?_ ?_
    · exact L_ret _
    · refine L_gQ 12 (fun _ => rfl) ?_
      refine L_gI 18 (fun _ => rfl) (fun x4 => ?_)
      refine L_ld 12 (ty := .int) rfl rfl (fun x5 => ?_)
      exact lM_step_l33  FU _ _
set_option maxHeartbeats 1000000 in
theorem lM_finish_l12 {m : Nat} {A : Nat → Nat}  (n : Nat) : ∀ (a1 : Int32), Lf m A (fun w => fM_finish_l12 m  n a1 w) (fun S => gM_finish_l12  n a1 S) := by
  induction n with
  | zero =>
    intro a1
    exact L_none
  | succ n ih =>
    intro a1
    show Lf m A (fun w => fM_finish_b12 m  (fM_finish_l12 m  n) a1 w) (fun S => gM_finish_b12  (gM_finish_l12  n) a1 S)
    generalize fM_finish_l12 m  n = frec12 at ih ⊢
    generalize gM_finish_l12  n = rec12 at ih ⊢
    have hrec12 := ih
    unfold fM_finish_b12 gM_finish_b12
    refine L_if ?_ ?_
    · exact L_ret _
    · refine L_call (lM_step) (fun x1 => ?_)
      refine L_if ?_ ?_
      · exact L_ret _
      · refine L_bnd (fun x3 => ?_)
        exact hrec12 _
set_option maxHeartbeats 1000000 in
theorem lM_finish {m : Nat} {A : Nat → Nat}  : Lf m A (fun w => fM_finish m  w) (fun S => gM_finish  S) := by
  unfold fM_finish gM_finish
  refine L_gI 18 (fun _ => rfl) (fun x1 => ?_)
  refine L_if ?_ ?_
  · exact lM_finish_l12  FU _
  · exact L_ret _
