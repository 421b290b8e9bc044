def gM_noByte (a1 : Int32) (S : sM) : Option (Int32 × sM) :=
  if a1 < (-128 : Int32) then (
    some ((1 : Int32), S)) else
  if a1 ≤ (127 : Int32) then (
    some ((0 : Int32), S)) else
  some ((1 : Int32), S)
def gM_noTensor (a1 : Int32) (S : sM) : Option (Int32 × sM) :=
  if a1 < 0 then (
    some ((1 : Int32), S)) else
  bnd (S 6 0) fun x1 =>
  if a1 < x1 then (
    some ((0 : Int32), S)) else
  some ((1 : Int32), S)
def gM_scale (a1 : Int32) (a2 : Int32) (a3 : Int32) (S : sM) : Option (Int32 × sM) :=
  if a1 < 0 then (
    some ((-1 : Int32), S)) else
  if (7 : Int32) < a1 then (
    some ((-1 : Int32), S)) else
  if a2 < 0 then (
    some ((-1 : Int32), S)) else
  if a3 < 0 then (
    some ((-1 : Int32), S)) else
  if a3 ≤ (30 : Int32) then (
    bnd (S 15 0) fun x1 =>
    if x1 = 0 then (
      (wrS S 7 a1 (vp_nar .int a2)).bind fun S2 =>
      (wrS S2 8 a1 (vp_nar .int a3)).bind fun S3 =>
      some ((0 : Int32), S3)) else
    some ((-3 : Int32), S)) else
  some ((-1 : Int32), S)
def gM_operator (a1 : Int32) (a2 : Int32) (a3 : Int32) (a4 : Int32) (a5 : Int32) (S : sM) : Option (Int32 × sM) :=
  if a1 < 0 then (
    some ((-1 : Int32), S)) else
  if (7 : Int32) < a1 then (
    some ((-1 : Int32), S)) else
  cbd (gM_noTensor a2 S) fun x1 S2 =>
  if x1 = 0 then (
    cbd (gM_noTensor a3 S2) fun x3 S4 =>
    if x3 = 0 then (
      cbd (gM_noTensor a4 S4) fun x5 S6 =>
      if x5 = 0 then (
        if a5 < 0 then (
          some ((-1 : Int32), S6)) else
        if a5 ≤ (7 : Int32) then (
          bnd (S6 15 0) fun x7 =>
          if x7 = 0 then (
            bnd (S6 14 0) fun x8 =>
            if x8 = (14 : Int32) then (
              some ((-2 : Int32), S6)) else
            bnd (S6 14 0) fun x9 =>
            (wrS S6 9 x9 (vp_nar .int a1)).bind fun S10 =>
            bnd (S10 14 0) fun x11 =>
            (wrS S10 10 x11 (vp_nar .int a2)).bind fun S12 =>
            bnd (S12 14 0) fun x13 =>
            (wrS S12 11 x13 (vp_nar .int a3)).bind fun S14 =>
            bnd (S14 14 0) fun x15 =>
            (wrS S14 12 x15 (vp_nar .int a4)).bind fun S16 =>
            bnd (S16 14 0) fun x17 =>
            (wrS S16 13 x17 (vp_nar .int a5)).bind fun S18 =>
            bnd (S18 14 0) fun x19 =>
            bnd (ptI S18 14 (x19 + (1 : Int32))) fun S20 =>
            bnd (S20 14 0) fun x21 =>
            some ((x21 - (1 : Int32)), S20)) else
          some ((-3 : Int32), S6)) else
        some ((-1 : Int32), S6)) else
      some ((-1 : Int32), S6)) else
    some ((-1 : Int32), S4)) else
  some ((-1 : Int32), S2)
def gM_keep (a1 : Int32) (a2 : Int32) (S : sM) : Option (Int32 × sM) :=
  cbd (gM_noTensor a1 S) fun x1 S2 =>
  if x1 = 0 then (
    (rdS S2 0 a1).bind fun x3 =>
    if x3 = 0 then (
      some ((-1 : Int32), S2)) else
    bnd (S2 15 0) fun x4 =>
    if x4 = 0 then (
      (wrS S2 3 a1 (vp_nar .boolean a2)).bind fun S5 =>
      some ((0 : Int32), S5)) else
    some ((-3 : Int32), S2)) else
  some ((-1 : Int32), S2)
def gM_maker_b2  (rec2 : Int32 → Int32 → Int32 → sM → Option (Int32 × sM)) (a1 : Int32) (a2 : Int32) (a3 : Int32) (S : sM) : Option (Int32 × sM) :=
  if a2 ≤ a3 then (
    some ((-1 : Int32), S)) else
  (rdS S 12 a3).bind fun x1 =>
  if x1 = a1 then (
    some (a3, S)) else
  bnd (a3 + (1 : Int32)) fun x2 =>
  rec2 a1 a2 x2 S
def gM_maker_l2  (n : Nat) : Int32 → Int32 → Int32 → sM → Option (Int32 × sM) := lp (fun _ _ _ _ => none) (gM_maker_b2 ) n
def gM_maker (a1 : Int32) (a2 : Int32) (S : sM) : Option (Int32 × sM) :=
  gM_maker_l2  FU a1 a2 (0 : Int32) S
def gM_unmade (a1 : Int32) (a2 : Int32) (S : sM) : Option (Int32 × sM) :=
  (rdS S 0 a1).bind fun x1 =>
  if x1 = (2 : Int32) then (
    cbd (gM_maker a1 a2 S) fun x2 S3 =>
    if 0 ≤ x2 then (
      some ((0 : Int32), S3)) else
    some ((1 : Int32), S3)) else
  some ((0 : Int32), S)
def gM_fits (a1 : Int32) (S : sM) : Option (Int32 × sM) :=
  (rdS S 10 a1).bind fun x1 =>
  (rdS S 11 a1).bind fun x2 =>
  (rdS S 12 a1).bind fun x3 =>
  (rdS S 13 a1).bind fun x4 =>
  (rdS S 1 x1).bind fun x5 =>
  (rdS S 1 x2).bind fun x6 =>
  (rdS S 1 x3).bind fun x7 =>
  (rdS S 9 a1).bind fun x8 =>
  if x8 = 0 then (
    (rdS S 0 x2).bind fun x24 =>
    if x24 = 0 then (
      if x6 = (x5 * x7) then (
        some ((1 : Int32), S)) else
      some ((0 : Int32), S)) else
    some ((0 : Int32), S)) else
  (rdS S 9 a1).bind fun x9 =>
  if (3 : Int32) ≤ x9 then (
    (rdS S 9 a1).bind fun x10 =>
    if (5 : Int32) ≤ x10 then (
      if x4 = 0 then (
        (rdS S 9 a1).bind fun x11 =>
        if x11 = (5 : Int32) then (
          (rdS S 0 x2).bind fun x19 =>
          if x19 = 0 then (
            if x6 = (16 : Int32) then (
              if x5 = x7 then (
                (rdS S 2 x2).bind fun x20 =>
                (rdS S 2 x3).bind fun x21 =>
                if x20 = x21 then (
                  some ((1 : Int32), S)) else
                some ((0 : Int32), S)) else
              some ((0 : Int32), S)) else
            some ((0 : Int32), S)) else
          some ((0 : Int32), S)) else
        (rdS S 9 a1).bind fun x12 =>
        if x12 = (6 : Int32) then (
          if x7 = (x5 + x6) then (
            (rdS S 2 x1).bind fun x15 =>
            (rdS S 2 x2).bind fun x16 =>
            if x15 = x16 then (
              (rdS S 2 x2).bind fun x17 =>
              (rdS S 2 x3).bind fun x18 =>
              if x17 = x18 then (
                some ((1 : Int32), S)) else
              some ((0 : Int32), S)) else
            some ((0 : Int32), S)) else
          some ((0 : Int32), S)) else
        if x1 = x2 then (
          if x5 = x7 then (
            (rdS S 2 x1).bind fun x13 =>
            (rdS S 2 x3).bind fun x14 =>
            if x13 = x14 then (
              some ((1 : Int32), S)) else
            some ((0 : Int32), S)) else
          some ((0 : Int32), S)) else
        some ((0 : Int32), S)) else
      some ((0 : Int32), S)) else
    if x1 = x2 then (
      if x4 < (2 : Int32) then (
        some ((0 : Int32), S)) else
      if (4 : Int32) < x4 then (
        some ((0 : Int32), S)) else
      if x5 = (x7 * x4) then (
        (rdS S 2 x1).bind fun x22 =>
        (rdS S 2 x3).bind fun x23 =>
        if x22 = x23 then (
          some ((1 : Int32), S)) else
        some ((0 : Int32), S)) else
      some ((0 : Int32), S)) else
    some ((0 : Int32), S)) else
  if x5 = x6 then (
    if x6 = x7 then (
      some ((1 : Int32), S)) else
    some ((0 : Int32), S)) else
  some ((0 : Int32), S)
def gM_begin (a1 : Int32) (S : sM) : Option (Int32 × sM) :=
  (rdS S 0 a1).bind fun x1 =>
  if x1 = (1 : Int32) then (
    some ((-1 : Int32), S)) else
  bnd (S 14 0) fun x2 =>
  cbd (gM_maker a1 x2 S) fun x3 S4 =>
  some (x3, S4)
def gM_end_b22  (rec22 : Int32 → Int32 → Int32 → sM → Option (Int32 × sM)) (a1 : Int32) (a2 : Int32) (a3 : Int32) (S : sM) : Option (Int32 × sM) :=
  bnd (S 14 0) fun x1 =>
  if x1 ≤ a3 then (
    some (a2, S)) else
  (rdS S 10 a3).bind fun x2 =>
  if x2 = a1 then (
    bnd (a3 + (1 : Int32)) fun x3 =>
    rec22 a1 a3 x3 S) else
  (rdS S 11 a3).bind fun x4 =>
  if x4 = a1 then (
    bnd (a3 + (1 : Int32)) fun x6 =>
    rec22 a1 a3 x6 S) else
  bnd (a3 + (1 : Int32)) fun x5 =>
  rec22 a1 a2 x5 S
def gM_end_l22  (n : Nat) : Int32 → Int32 → Int32 → sM → Option (Int32 × sM) := lp (fun _ _ _ _ => none) (gM_end_b22 ) n
def gM_end (a1 : Int32) (S : sM) : Option (Int32 × sM) :=
  (rdS S 3 a1).bind fun x1 =>
  if x1 = 0 then (
    cbd (gM_begin a1 S) fun x2 S3 =>
    gM_end_l22  FU a1 x2 (0 : Int32) S3) else
  bnd (S 14 0) fun x4 =>
  some (x4, S)
def gM_reopen  (S : sM) : Option (Int32 × sM) :=
  bnd (S 15 0) fun x1 =>
  if x1 = 0 then (
    some ((-3 : Int32), S)) else
  (ptZ S 15 (0 : Int32)).bind fun S2 =>
  bnd (ptI S2 18 (-1 : Int32)) fun S3 =>
  some ((0 : Int32), S3)
def gM_start_b37   (S : sM) : Option (Int32 × sM) :=
  bnd (ptI S 18 (0 : Int32)) fun S1 =>
  bnd (S1 14 0) fun x2 =>
  some (x2, S1)
def gM_start_b12  (rec12 : Int32 → sM → Option (Int32 × sM)) (a1 : Int32) (S : sM) : Option (Int32 × sM) :=
  if (1280 : Int32) ≤ a1 then (
    gM_start_b37   S) else
  (rdS S 4 a1).bind fun x1 =>
  (wrS S 5 a1 (vp_nar .int x1)).bind fun S2 =>
  bnd (a1 + (1 : Int32)) fun x3 =>
  rec12 x3 S2
def gM_start_l12  (n : Nat) : Int32 → sM → Option (Int32 × sM) := lp (fun _ _ => none) (gM_start_b12 ) n
def gM_start  (S : sM) : Option (Int32 × sM) :=
  bnd (S 15 0) fun x1 =>
  if x1 = 0 then (
    some ((-3 : Int32), S)) else
  gM_start_l12  FU (0 : Int32) S
def gM_difference (a1 : Int32) (a2 : Int32) (S : sM) : Option (Int32 × sM) :=
  (rdS S 5 ((a1 * (64 : Int32)) + a2)).bind fun x1 =>
  (rdS S 2 a1).bind fun x2 =>
  some ((x1 - x2), S)
def gM_rounded_b12  (a1 : Int64) (a3 : Int64) (s0 : Int64) (S : sM) : Option (Int64 × sM) :=
  if ((2 : Int64) * a3) = 0 then none else
  bnd ((((2 : Int64) * s0) + a3) / ((2 : Int64) * a3)) fun j1 =>
  if 0 ≤ (lg_cmp a1 (0 : Int64)) then (
    some (j1, S)) else
  some ((-j1), S)
def gM_rounded (a1 : Int64) (a3 : Int64) (S : sM) : Option (Int64 × sM) :=
  if 0 ≤ (lg_cmp a1 (0 : Int64)) then (
    gM_rounded_b12  a1 a3 a1 S) else
  gM_rounded_b12  a1 a3 (-a1) S
set_option maxHeartbeats 1000000 in
theorem lM_noByte {m : Nat} {A : Nat → Nat} (a1 : Int32) : Lf m A (fun w => fM_noByte m a1 w) (fun S => gM_noByte a1 S) := by
  unfold fM_noByte gM_noByte
  refine L_if ?_ ?_
  · exact L_ret _
  · refine L_if ?_ ?_
    · exact L_ret _
    · exact L_ret _
set_option maxHeartbeats 1000000 in
theorem lM_noTensor {m : Nat} {A : Nat → Nat} (a1 : Int32) : Lf m A (fun w => fM_noTensor m a1 w) (fun S => gM_noTensor a1 S) := by
  unfold fM_noTensor gM_noTensor
  refine L_if ?_ ?_
  · exact L_ret _
  · refine L_gI 6 (fun _ => rfl) (fun x1 => ?_)
    refine L_if ?_ ?_
    · exact L_ret _
    · exact L_ret _
set_option maxHeartbeats 1000000 in
theorem lM_scale {m : Nat} {A : Nat → Nat} (a1 : Int32) (a2 : Int32) (a3 : Int32) : Lf m A (fun w => fM_scale m a1 a2 a3 w) (fun S => gM_scale a1 a2 a3 S) := by
  unfold fM_scale gM_scale
  refine L_if ?_ ?_
  · exact L_ret _
  · refine L_if ?_ ?_
    · exact L_ret _
    · refine L_if ?_ ?_
      · exact L_ret _
      · refine L_if ?_ ?_
        · exact L_ret _
        · refine L_if ?_ ?_
          · refine L_gI 15 (fun _ => rfl) (fun x1 => ?_)
            refine L_if ?_ ?_
            · refine L_gQ 7 (fun _ => rfl) ?_
              refine L_st 7 (ty := .int) rfl rfl ?_
              refine L_gQ 8 (fun _ => rfl) ?_
              refine L_st 8 (ty := .int) rfl rfl ?_
              exact L_ret _
            · exact L_ret _
          · exact L_ret _
set_option maxHeartbeats 1000000 in
theorem lM_operator {m : Nat} {A : Nat → Nat} (a1 : Int32) (a2 : Int32) (a3 : Int32) (a4 : Int32) (a5 : Int32) : Lf m A (fun w => fM_operator m a1 a2 a3 a4 a5 w) (fun S => gM_operator a1 a2 a3 a4 a5 S) := by
  unfold fM_operator gM_operator
  refine L_if ?_ ?_
  · exact L_ret _
  · refine L_if ?_ ?_
    · exact L_ret _
    · refine L_call (lM_noTensor _) (fun x1 => ?_)
      refine L_if ?_ ?_
      · refine L_call (lM_noTensor _) (fun x3 => ?_)
        refine L_if ?_ ?_
        · refine L_call (lM_noTensor _) (fun x5 => ?_)
          refine L_if ?_ ?_
          · refine L_if ?_ ?_
            · exact L_ret _
            · refine L_if ?_ ?_
              · refine L_gI 15 (fun _ => rfl) (fun x7 => ?_)
                refine L_if ?_ ?_
                · refine L_gI 14 (fun _ => rfl) (fun x8 => ?_)
                  refine L_if ?_ ?_
                  · exact L_ret _
                  · refine L_gQ 9 (fun _ => rfl) ?_
                    refine L_gI 14 (fun _ => rfl) (fun x9 => ?_)
                    refine L_st 9 (ty := .int) rfl rfl ?_
                    refine L_gQ 10 (fun _ => rfl) ?_
                    refine L_gI 14 (fun _ => rfl) (fun x11 => ?_)
                    refine L_st 10 (ty := .int) rfl rfl ?_
                    refine L_gQ 11 (fun _ => rfl) ?_
                    refine L_gI 14 (fun _ => rfl) (fun x13 => ?_)
                    refine L_st 11 (ty := .int) rfl rfl ?_
                    refine L_gQ 12 (fun _ => rfl) ?_
                    refine L_gI 14 (fun _ => rfl) (fun x15 => ?_)
                    refine L_st 12 (ty := .int) rfl rfl ?_
                    refine L_gQ 13 (fun _ => rfl) ?_
                    refine L_gI 14 (fun _ => rfl) (fun x17 => ?_)
                    refine L_st 13 (ty := .int) rfl rfl ?_
                    refine L_gI 14 (fun _ => rfl) (fun x19 => ?_)
                    refine L_pI 14 (by decide) ?_
                    refine L_gI 14 (fun _ => rfl) (fun x21 => ?_)
                    exact L_ret _
                · exact L_ret _
              · exact L_ret _
          · exact L_ret _
        · exact L_ret _
      · exact L_ret _
set_option maxHeartbeats 1000000 in
theorem lM_keep {m : Nat} {A : Nat → Nat} (a1 : Int32) (a2 : Int32) : Lf m A (fun w => fM_keep m a1 a2 w) (fun S => gM_keep a1 a2 S) := by
  unfold fM_keep gM_keep
  refine L_call (lM_noTensor _) (fun x1 => ?_)
  refine L_if ?_ ?_
  · refine L_gQ 0 (fun _ => rfl) ?_
    refine L_ld 0 (ty := .int) rfl rfl (fun x3 => ?_)
    refine L_if ?_ ?_
    · exact L_ret _
    · refine L_gI 15 (fun _ => rfl) (fun x4 => ?_)
      refine L_if ?_ ?_
      · refine L_gQ 3 (fun _ => rfl) ?_
        refine L_st 3 (ty := .boolean) rfl rfl ?_
        exact L_ret _
      · exact L_ret _
  · exact L_ret _
set_option maxHeartbeats 1000000 in
theorem lM_maker_l2 {m : Nat} {A : Nat → Nat}  (n : Nat) : ∀ (a1 : Int32) (a2 : Int32) (a3 : Int32), Lf m A (fun w => fM_maker_l2 m  n a1 a2 a3 w) (fun S => gM_maker_l2  n a1 a2 a3 S) := by
  induction n with
  | zero =>
    intro a1 a2 a3
    exact L_none
  | succ n ih =>
    intro a1 a2 a3
    show Lf m A (fun w => fM_maker_b2 m  (fM_maker_l2 m  n) a1 a2 a3 w) (fun S => gM_maker_b2  (gM_maker_l2  n) a1 a2 a3 S)
    generalize fM_maker_l2 m  n = frec2 at ih ⊢
    generalize gM_maker_l2  n = rec2 at ih ⊢
    have hrec2 := ih
    unfold fM_maker_b2 gM_maker_b2
    refine L_if ?_ ?_
    · exact L_ret _
    · refine L_gQ 12 (fun _ => rfl) ?_
      refine L_ld 12 (ty := .int) rfl rfl (fun x1 => ?_)
      refine L_if ?_ ?_
      · exact L_ret _
      · refine L_bnd (fun x2 => ?_)
        exact hrec2 _ _ _
set_option maxHeartbeats 1000000 in
theorem lM_maker {m : Nat} {A : Nat → Nat} (a1 : Int32) (a2 : Int32) : Lf m A (fun w => fM_maker m a1 a2 w) (fun S => gM_maker a1 a2 S) := by
  unfold fM_maker gM_maker
  exact lM_maker_l2  FU _ _ _
set_option maxHeartbeats 1000000 in
theorem lM_unmade {m : Nat} {A : Nat → Nat} (a1 : Int32) (a2 : Int32) : Lf m A (fun w => fM_unmade m a1 a2 w) (fun S => gM_unmade a1 a2 S) := by
  unfold fM_unmade gM_unmade
  refine L_gQ 0 (fun _ => rfl) ?_
  refine L_ld 0 (ty := .int) rfl rfl (fun x1 => ?_)
  refine L_if ?_ ?_
  · refine L_call (lM_maker _ _) (fun x2 => ?_)
    refine L_if ?_ ?_
    · exact L_ret _
    · exact L_ret _
  · exact L_ret _
set_option maxHeartbeats 1000000 in
theorem lM_fits {m : Nat} {A : Nat → Nat} (a1 : Int32) : Lf m A (fun w => fM_fits m a1 w) (fun S => gM_fits a1 S) := by
  unfold fM_fits gM_fits
  refine L_gQ 10 (fun _ => rfl) ?_
  refine L_ld 10 (ty := .int) rfl rfl (fun x1 => ?_)
  refine L_gQ 11 (fun _ => rfl) ?_
  refine L_ld 11 (ty := .int) rfl rfl (fun x2 => ?_)
  refine L_gQ 12 (fun _ => rfl) ?_
  refine L_ld 12 (ty := .int) rfl rfl (fun x3 => ?_)
  refine L_gQ 13 (fun _ => rfl) ?_
  refine L_ld 13 (ty := .int) rfl rfl (fun x4 => ?_)
  refine L_gQ 1 (fun _ => rfl) ?_
  refine L_ld 1 (ty := .int) rfl rfl (fun x5 => ?_)
  refine L_gQ 1 (fun _ => rfl) ?_
  refine L_ld 1 (ty := .int) rfl rfl (fun x6 => ?_)
  refine L_gQ 1 (fun _ => rfl) ?_
  refine L_ld 1 (ty := .int) rfl rfl (fun x7 => ?_)
  refine L_gQ 9 (fun _ => rfl) ?_
  refine L_ld 9 (ty := .int) rfl rfl (fun x8 => ?_)
  refine L_if ?_ ?_
  · refine L_gQ 0 (fun _ => rfl) ?_
    refine L_ld 0 (ty := .int) rfl rfl (fun x24 => ?_)
    refine L_if ?_ ?_
    · refine L_if ?_ ?_
      · exact L_ret _
      · exact L_ret _
    · exact L_ret _
  · refine L_gQ 9 (fun _ => rfl) ?_
    refine L_ld 9 (ty := .int) rfl rfl (fun x9 => ?_)
    refine L_if ?_ ?_
    · refine L_gQ 9 (fun _ => rfl) ?_
      refine L_ld 9 (ty := .int) rfl rfl (fun x10 => ?_)
      refine L_if ?_ ?_
      · refine L_if ?_ ?_
        · refine L_gQ 9 (fun _ => rfl) ?_
          refine L_ld 9 (ty := .int) rfl rfl (fun x11 => ?_)
          refine L_if ?_ ?_
          · refine L_gQ 0 (fun _ => rfl) ?_
            refine L_ld 0 (ty := .int) rfl rfl (fun x19 => ?_)
            refine L_if ?_ ?_
            · refine L_if ?_ ?_
              · refine L_if ?_ ?_
                · refine L_gQ 2 (fun _ => rfl) ?_
                  refine L_ld 2 (ty := .int) rfl rfl (fun x20 => ?_)
                  refine L_gQ 2 (fun _ => rfl) ?_
                  refine L_ld 2 (ty := .int) rfl rfl (fun x21 => ?_)
                  refine L_if ?_ ?_
                  · exact L_ret _
                  · exact L_ret _
                · exact L_ret _
              · exact L_ret _
            · exact L_ret _
          · refine L_gQ 9 (fun _ => rfl) ?_
            refine L_ld 9 (ty := .int) rfl rfl (fun x12 => ?_)
            refine L_if ?_ ?_
            · refine L_if ?_ ?_
              · refine L_gQ 2 (fun _ => rfl) ?_
                refine L_ld 2 (ty := .int) rfl rfl (fun x15 => ?_)
                refine L_gQ 2 (fun _ => rfl) ?_
                refine L_ld 2 (ty := .int) rfl rfl (fun x16 => ?_)
                refine L_if ?_ ?_
                · refine L_gQ 2 (fun _ => rfl) ?_
                  refine L_ld 2 (ty := .int) rfl rfl (fun x17 => ?_)
                  refine L_gQ 2 (fun _ => rfl) ?_
                  refine L_ld 2 (ty := .int) rfl rfl (fun x18 => ?_)
                  refine L_if ?_ ?_
                  · exact L_ret _
                  · exact L_ret _
                · exact L_ret _
              · exact L_ret _
            · refine L_if ?_ ?_
              · refine L_if ?_ ?_
                · refine L_gQ 2 (fun _ => rfl) ?_
                  refine L_ld 2 (ty := .int) rfl rfl (fun x13 => ?_)
                  refine L_gQ 2 (fun _ => rfl) ?_
                  refine L_ld 2 (ty := .int) rfl rfl (fun x14 => ?_)
                  refine L_if ?_ ?_
                  · exact L_ret _
                  · exact L_ret _
                · exact L_ret _
              · exact L_ret _
        · exact L_ret _
      · refine L_if ?_ ?_
        · refine L_if ?_ ?_
          · exact L_ret _
          · refine L_if ?_ ?_
            · exact L_ret _
            · refine L_if ?_ ?_
              · refine L_gQ 2 (fun _ => rfl) ?_
                refine L_ld 2 (ty := .int) rfl rfl (fun x22 => ?_)
                refine L_gQ 2 (fun _ => rfl) ?_
                refine L_ld 2 (ty := .int) rfl rfl (fun x23 => ?_)
                refine L_if ?_ ?_
                · exact L_ret _
                · exact L_ret _
              · exact L_ret _
        · exact L_ret _
    · refine L_if ?_ ?_
      · refine L_if ?_ ?_
        · exact L_ret _
        · exact L_ret _
      · exact L_ret _
set_option maxHeartbeats 1000000 in
theorem lM_begin {m : Nat} {A : Nat → Nat} (a1 : Int32) : Lf m A (fun w => fM_begin m a1 w) (fun S => gM_begin a1 S) := by
  unfold fM_begin gM_begin
  refine L_gQ 0 (fun _ => rfl) ?_
  refine L_ld 0 (ty := .int) rfl rfl (fun x1 => ?_)
  refine L_if ?_ ?_
  · exact L_ret _
  · refine L_gI 14 (fun _ => rfl) (fun x2 => ?_)
    refine L_call (lM_maker _ _) (fun x3 => ?_)
    exact L_ret _
set_option maxHeartbeats 1000000 in
theorem lM_end_l22 {m : Nat} {A : Nat → Nat}  (n : Nat) : ∀ (a1 : Int32) (a2 : Int32) (a3 : Int32), Lf m A (fun w => fM_end_l22 m  n a1 a2 a3 w) (fun S => gM_end_l22  n a1 a2 a3 S) := by
  induction n with
  | zero =>
    intro a1 a2 a3
    exact L_none
  | succ n ih =>
    intro a1 a2 a3
    show Lf m A (fun w => fM_end_b22 m  (fM_end_l22 m  n) a1 a2 a3 w) (fun S => gM_end_b22  (gM_end_l22  n) a1 a2 a3 S)
    generalize fM_end_l22 m  n = frec22 at ih ⊢
    generalize gM_end_l22  n = rec22 at ih ⊢
    have hrec22 := ih
    unfold fM_end_b22 gM_end_b22
    refine L_gI 14 (fun _ => rfl) (fun x1 => ?_)
    refine L_if ?_ ?_
    · exact L_ret _
    · refine L_gQ 10 (fun _ => rfl) ?_
      refine L_ld 10 (ty := .int) rfl rfl (fun x2 => ?_)
      refine L_if ?_ ?_
      · refine L_bnd (fun x3 => ?_)
        exact hrec22 _ _ _
      · refine L_gQ 11 (fun _ => rfl) ?_
        refine L_ld 11 (ty := .int) rfl rfl (fun x4 => ?_)
        refine L_if ?_ ?_
        · refine L_bnd (fun x6 => ?_)
          exact hrec22 _ _ _
        · refine L_bnd (fun x5 => ?_)
          exact hrec22 _ _ _
set_option maxHeartbeats 1000000 in
theorem lM_end {m : Nat} {A : Nat → Nat} (a1 : Int32) : Lf m A (fun w => fM_end m a1 w) (fun S => gM_end a1 S) := by
  unfold fM_end gM_end
  refine L_gQ 3 (fun _ => rfl) ?_
  refine L_ld 3 (ty := .boolean) rfl rfl (fun x1 => ?_)
  refine L_if ?_ ?_
  · refine L_call (lM_begin _) (fun x2 => ?_)
    exact lM_end_l22  FU _ _ _
  · refine L_gI 14 (fun _ => rfl) (fun x4 => ?_)
    exact L_ret _
set_option maxHeartbeats 1000000 in
theorem lM_reopen {m : Nat} {A : Nat → Nat}  : Lf m A (fun w => fM_reopen m  w) (fun S => gM_reopen  S) := by
  unfold fM_reopen gM_reopen
  refine L_gI 15 (fun _ => rfl) (fun x1 => ?_)
  refine L_if ?_ ?_
  · exact L_ret _
  · refine L_pZ 15 (by decide) ?_
    refine L_pI 18 (by decide) ?_
    exact L_ret _
set_option maxHeartbeats 1000000 in
theorem lM_start_b37 {m : Nat} {A : Nat → Nat}   : Lf m A (fun w => fM_start_b37 m   w) (fun S => gM_start_b37   S) := by
  unfold fM_start_b37 gM_start_b37
  refine L_pI 18 (by decide) ?_
  refine L_gI 14 (fun _ => rfl) (fun x2 => ?_)
  exact L_ret _
set_option maxHeartbeats 1000000 in
theorem lM_start_l12 {m : Nat} {A : Nat → Nat}  (n : Nat) : ∀ (a1 : Int32), Lf m A (fun w => fM_start_l12 m  n a1 w) (fun S => gM_start_l12  n a1 S) := by
  induction n with
  | zero =>
    intro a1
    exact L_none
  | succ n ih =>
    intro a1
    show Lf m A (fun w => fM_start_b12 m  (fM_start_l12 m  n) a1 w) (fun S => gM_start_b12  (gM_start_l12  n) a1 S)
    generalize fM_start_l12 m  n = frec12 at ih ⊢
    generalize gM_start_l12  n = rec12 at ih ⊢
    have hrec12 := ih
    unfold fM_start_b12 gM_start_b12
    refine L_if ?_ ?_
    · exact lM_start_b37  
    · refine L_gQ 5 (fun _ => rfl) ?_
      refine L_gQ 4 (fun _ => rfl) ?_
      refine L_ld 4 (ty := .int) rfl rfl (fun x1 => ?_)
      refine L_st 5 (ty := .int) rfl rfl ?_
      refine L_bnd (fun x3 => ?_)
      exact hrec12 _
set_option maxHeartbeats 1000000 in
theorem lM_start {m : Nat} {A : Nat → Nat}  : Lf m A (fun w => fM_start m  w) (fun S => gM_start  S) := by
  unfold fM_start gM_start
  refine L_gI 15 (fun _ => rfl) (fun x1 => ?_)
  refine L_if ?_ ?_
  · exact L_ret _
  · exact lM_start_l12  FU _
set_option maxHeartbeats 1000000 in
theorem lM_difference {m : Nat} {A : Nat → Nat} (a1 : Int32) (a2 : Int32) : Lf m A (fun w => fM_difference m a1 a2 w) (fun S => gM_difference a1 a2 S) := by
  unfold fM_difference gM_difference
  refine L_gQ 5 (fun _ => rfl) ?_
  refine L_ld 5 (ty := .int) rfl rfl (fun x1 => ?_)
  refine L_gQ 2 (fun _ => rfl) ?_
  refine L_ld 2 (ty := .int) rfl rfl (fun x2 => ?_)
  exact L_ret _
set_option maxHeartbeats 1000000 in
theorem lM_rounded_b12 {m : Nat} {A : Nat → Nat}  (a1 : Int64) (a3 : Int64) (s0 : Int64) : Lf m A (fun w => fM_rounded_b12 m  a1 a3 s0 w) (fun S => gM_rounded_b12  a1 a3 s0 S) := by
  unfold fM_rounded_b12 gM_rounded_b12
  refine L_if L_none ?_
  refine L_bnd (fun j1 => ?_)
  refine L_if ?_ ?_
  · exact L_ret _
  · exact L_ret _
set_option maxHeartbeats 1000000 in
theorem lM_rounded {m : Nat} {A : Nat → Nat} (a1 : Int64) (a3 : Int64) : Lf m A (fun w => fM_rounded m a1 a3 w) (fun S => gM_rounded a1 a3 S) := by
  unfold fM_rounded gM_rounded
  refine L_if ?_ ?_
  · exact lM_rounded_b12  _ _ _
  · exact lM_rounded_b12  _ _ _
