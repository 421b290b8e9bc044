/-! ONE CELL OF A RESULT -/
def clp (x : Int32) : Int32 := if -128 ≤ x then (if x ≤ 127 then x else 127) else -128
theorem g_clamped (x : Int32) (S : sM) : gM_clamped x S = some (clp x, S) := by
  unfold gM_clamped clp
  by_cases c : -128 ≤ x
  · rw [if_pos c, if_pos c]
    by_cases c2 : x ≤ 127
    · rw [if_pos c2, if_pos c2]
    · rw [if_neg c2, if_neg c2]
  · rw [if_neg c, if_neg c]
theorem clp_eq (x : Int32) : (if (-128 : Int32) < (if x < (127 : Int32) then x else (127 : Int32)) then (if x < (127 : Int32) then x else (127 : Int32)) else (-128 : Int32)) = clp x := by
  unfold clp
  have e1 : (-128 : Int32).toInt = -128 := rfl
  have e2 : (127 : Int32).toInt = 127 := rfl
  by_cases c : x < 127
  · rw [if_pos c]
    have c' := Int32.lt_iff_toInt_lt.mp c
    have h2 : x ≤ 127 := Int32.le_of_lt c
    by_cases c1 : -128 < x
    · rw [if_pos c1, if_pos (Int32.le_of_lt c1), if_pos h2]
    · rw [if_neg c1]
      by_cases c3 : -128 ≤ x
      · rw [if_pos c3, if_pos h2]
        exact Int32.le_antisymm c3 (Int32.not_lt.mp c1)
      · rw [if_neg c3]
  · rw [if_neg c, if_pos (by decide)]
    have c' := Int32.not_lt.mp c
    rw [if_pos (Int32.le_trans (by decide) c')]
    by_cases c3 : x ≤ 127
    · rw [if_pos c3]
      exact Int32.le_antisymm c' c3
    · rw [if_neg c3]
theorem clp_by (x : Int32) : By (clp x) := by
  unfold clp
  by_cases c : -128 ≤ x
  · rw [if_pos c]
    by_cases c2 : x ≤ 127
    · rw [if_pos c2]
      exact by_of (fun q => q.elim (Int32.not_lt.mpr c) (Int32.not_lt.mpr c2))
    · rw [if_neg c2]; unfold By; decide
  · rw [if_neg c]; unfold By; decide
theorem g_diff {S : sM} (hS : OKS S) {t j : Nat} (ht : t < N S 6 0) (hj : j < N S 1 t) : gM_difference (nI t) (nI j) S = some (S 5 (t * 64 + j) - S 2 t, S) := by
  have h20 := hS.t20
  obtain ⟨e1, e2⟩ := at64 hS ht hj
  unfold gM_difference
  rw [e1, ob_of (rd1280 e2 (by omega)), ob_of (rd20 (show t < 20 by omega) (by omega))]
def dsm (S : sM) (a b la i : Nat) : Nat → Int32
  | 0 => 0
  | j + 1 => dsm S a b la i j + (S 5 (a * 64 + j) - S 2 a) * (S 5 (b * 64 + (i * la + j)) - S 2 b)
def gmx (S : sM) (a f : Nat) : Nat → Int32
  | 0 => -128
  | j + 1 => if gmx S a f j < S 5 (a * 64 + (f + j)) then S 5 (a * 64 + (f + j)) else gmx S a f j
def gsm (S : sM) (a f : Nat) : Nat → Int32
  | 0 => 0
  | j + 1 => gsm S a f j + S 5 (a * 64 + (f + j))
theorem gmx_by {S : sM} (hS : OKS S) (a f : Nat) : ∀ j, By (gmx S a f j)
  | 0 => by unfold gmx By; decide
  | j + 1 => by
    unfold gmx
    split
    · exact hS.by5 _
    · exact gmx_by hS a f j
theorem gsm_in {S : sM} (hS : OKS S) (a f : Nat) : ∀ j : Nat, j ≤ 4 → -128 * (j : Int) ≤ (gsm S a f j).toInt ∧ (gsm S a f j).toInt ≤ 127 * (j : Int)
  | 0, _ => by unfold gsm; decide
  | j + 1, h => by
    have h1 := gsm_in hS a f j (by omega)
    have h2 := hS.by5 (a * 64 + (f + j))
    unfold By at h2
    unfold gsm
    rw [Int32.toInt_add, Int.bmod_eq_of_le (by omega) (by omega)]
    omega
section CELL
variable {w : cW} {S : sM} {X : Nat → Nat → Nat} {cd : Nat → Nat × Nat} {el : Nat → Nat} {tl : Nat → Nat} {Y : Nat → Nat → Int32} {V : Nat → Nat → Nat → Int32} {od : Nat → Nat} {nA : Nat} {mx : Int32} {d : Nat}
theorem RC.dist (h : RC w S X cd el tl Y V od nA mx) {t j : Nat} (ht : t < N S 6 0) (hj : j < N S 1 t) (e : Vc S V t j = S 5 (t * 64 + j)) : fT_distance (X 4 t) (nI j) w = some (S 5 (t * 64 + j) - S 2 t, w) := by
  unfold fT_distance
  rw [ob_of (h.t5 ht), ob_of (h.ldc ht hj), ob_of (h.t3 ht), e]
theorem RC.clamp (h : RC w S X cd el tl Y V od nA mx) (hS : OKS S) (ho : d < N S 14 0) (v : Int32) : fO_clampedResult (X 2 d) v w = some (clp (S 2 (N S 12 d) + v), w) := by
  obtain ⟨k1, k2, k3, k4, k5⟩ := hS.opk d ho
  unfold fO_clampedResult
  rw [ob_of (h.o3 ho), ob_of (h.t3 k4), clp_eq]
theorem RC.dense_loop (h : RC w S X cd el tl Y V od nA mx) (hS : OKS S) (ho : d < N S 14 0) (hA : ∀ j, j < N S 1 (N S 10 d) → Vc S V (N S 10 d) j = S 5 (N S 10 d * 64 + j)) (hB : ∀ j, j < N S 1 (N S 11 d) → Vc S V (N S 11 d) j = S 5 (N S 11 d * 64 + j)) {i : Nat} (hlen : i * N S 1 (N S 10 d) + N S 1 (N S 10 d) ≤ N S 1 (N S 11 d)) : ∀ e j fu, j + e = N S 1 (N S 10 d) → e < fu → fO_denseSum_l4 (X 2 d) fu (nI i) (dsm S (N S 10 d) (N S 11 d) (N S 1 (N S 10 d)) i j) (nI j) w = some (dsm S (N S 10 d) (N S 11 d) (N S 1 (N S 10 d)) i (N S 1 (N S 10 d)), w) := by
  obtain ⟨k1, k2, k3, k4, k5⟩ := hS.opk d ho
  have h64 := hS.ln64 _ k2
  intro e
  induction e with
  | zero =>
    intro j fu h1 h2
    obtain ⟨fu, rfl⟩ : ∃ k, fu = k + 1 := ⟨fu - 1, by omega⟩
    rw [fO_denseSum_l4_s]
    unfold fO_denseSum_b4
    have e : j = N S 1 (N S 10 d) := by omega
    rw [ob_of (h.o1 ho), ob_of (h.t2 k2), hS.e1, if_pos (nI_le (by omega) (by omega)), e]
  | succ e ih =>
    intro j fu h1 h2
    obtain ⟨fu, rfl⟩ : ∃ k, fu = k + 1 := ⟨fu - 1, by omega⟩
    have hi := ih (j + 1) fu (by omega) (by omega)
    have hj : j < N S 1 (N S 10 d) := by omega
    have hj2 : i * N S 1 (N S 10 d) + j < N S 1 (N S 11 d) := by omega
    rw [fO_denseSum_l4_s]
    unfold fO_denseSum_b4
    rw [ob_of (h.o1 ho), ob_of (h.t2 k2), hS.e1, if_neg (nI_ge hj (by omega)), ob_of (h.o1 ho), ob_of (h.r4 k2), cbd_of (h.dist k2 hj (hA j hj)), ob_of (h.o2 ho), ob_of (h.o1 ho), ob_of (h.t2 k2), hS.e1, ob_of (h.r4 k3), pk_mul, nI_add, cbd_of (h.dist k3 hj2 (hB _ hj2)), bnd_eq, bnd_eq, nI_1]
    exact hi
theorem gdense_loop (hS : OKS S) (ho : d < N S 14 0) {i : Nat} {z p : Int32} (hlen : i * N S 1 (N S 10 d) + N S 1 (N S 10 d) ≤ N S 1 (N S 11 d)) : ∀ e j fu, j + e = N S 1 (N S 10 d) → e < fu → gM_made_l59 fu (nI i) (nI (N S 10 d)) (nI (N S 11 d)) z p (nI (N S 1 (N S 10 d))) (dsm S (N S 10 d) (N S 11 d) (N S 1 (N S 10 d)) i j) (nI j) S = gM_made_b98 z p (dsm S (N S 10 d) (N S 11 d) (N S 1 (N S 10 d)) i (N S 1 (N S 10 d))) S := by
  obtain ⟨k1, k2, k3, k4, k5⟩ := hS.opk d ho
  have h64 := hS.ln64 _ k2
  intro e
  induction e with
  | zero =>
    intro j fu h1 h2
    obtain ⟨fu, rfl⟩ : ∃ k, fu = k + 1 := ⟨fu - 1, by omega⟩
    rw [gM_made_l59_s]
    unfold gM_made_b59
    have e : j = N S 1 (N S 10 d) := by omega
    rw [if_pos (nI_le (by omega) (by omega)), e]
  | succ e ih =>
    intro j fu h1 h2
    obtain ⟨fu, rfl⟩ : ∃ k, fu = k + 1 := ⟨fu - 1, by omega⟩
    have hi := ih (j + 1) fu (by omega) (by omega)
    have hj : j < N S 1 (N S 10 d) := by omega
    have hj2 : i * N S 1 (N S 10 d) + j < N S 1 (N S 11 d) := by omega
    rw [gM_made_l59_s]
    unfold gM_made_b59
    rw [if_neg (nI_ge hj (by omega)), cbd_of (g_diff hS k2 hj), pk_mul, nI_add, cbd_of (g_diff hS k3 hj2), bnd_eq, bnd_eq, nI_1]
    exact hi
theorem RC.grp (h : RC w S X cd el tl Y V od nA mx) (hS : OKS S) (ho : d < N S 14 0) (hA : ∀ j, j < N S 1 (N S 10 d) → Vc S V (N S 10 d) j = S 5 (N S 10 d * 64 + j)) {i : Nat} (hlen : i * N S 13 d + N S 13 d ≤ N S 1 (N S 10 d)) : ∀ e j fu, j + e = N S 13 d → e < fu → fO_greatestOfGroup_l5 (X 2 d) fu (nI i) (gmx S (N S 10 d) (i * N S 13 d) j) (nI j) w = some (gmx S (N S 10 d) (i * N S 13 d) (N S 13 d), w) ∧ fO_sumOfGroup_l4 (X 2 d) fu (nI i) (gsm S (N S 10 d) (i * N S 13 d) j) (nI j) w = some (gsm S (N S 10 d) (i * N S 13 d) (N S 13 d), w) := by
  obtain ⟨k1, k2, k3, k4, k5⟩ := hS.opk d ho
  intro e
  induction e with
  | zero =>
    intro j fu h1 h2
    obtain ⟨fu, rfl⟩ : ∃ k, fu = k + 1 := ⟨fu - 1, by omega⟩
    rw [fO_greatestOfGroup_l5_s, fO_sumOfGroup_l4_s]
    unfold fO_greatestOfGroup_b5 fO_sumOfGroup_b4
    have e : j = N S 13 d := by omega
    rw [ob_of (h.o4 ho), ob_of (h.o4 ho), hS.e13, if_pos (nI_le (by omega) (by omega)), if_pos (nI_le (by omega) (by omega)), e]
    exact ⟨rfl, rfl⟩
  | succ e ih =>
    intro j fu h1 h2
    obtain ⟨fu, rfl⟩ : ∃ k, fu = k + 1 := ⟨fu - 1, by omega⟩
    obtain ⟨i1, i2⟩ := ih (j + 1) fu (by omega) (by omega)
    have hj2 : i * N S 13 d + j < N S 1 (N S 10 d) := by omega
    rw [fO_greatestOfGroup_l5_s, fO_sumOfGroup_l4_s]
    unfold fO_greatestOfGroup_b5 fO_sumOfGroup_b4
    have q1 : nI (N S 13 d) ≤ nI j ↔ False := ⟨fun q => nI_ge (show j < N S 13 d by omega) (by omega) q, False.elim⟩
    rw [ob_of (h.o4 ho), ob_of (h.o4 ho), hS.e13, if_neg (nI_ge (show j < N S 13 d by omega) (by omega)), if_neg (nI_ge (show j < N S 13 d by omega) (by omega)), ob_of (h.o1 ho), ob_of (h.o1 ho), ob_of (h.t5 k2), ob_of (h.t5 k2), ob_of (h.o4 ho), ob_of (h.o4 ho), hS.e13, pk_mul, nI_add, ob_of (h.ldc k2 hj2), ob_of (h.ldc k2 hj2), hA _ hj2, bnd_eq, bnd_eq, bnd_eq, bnd_eq, nI_1]
    exact ⟨i1, i2⟩
theorem gwin_loop (hS : OKS S) (ho : d < N S 14 0) {i : Nat} {g : Int32} (hlen : i * N S 13 d + N S 13 d ≤ N S 1 (N S 10 d)) : ∀ e j fu, j + e = N S 13 d → e < fu → gM_window_l10 fu (nI (N S 10 d)) (nI (i * N S 13 d)) (nI (N S 13 d)) g (gmx S (N S 10 d) (i * N S 13 d) j) (gsm S (N S 10 d) (i * N S 13 d) j) (nI (i * N S 13 d + j)) S = gM_window_b56 (nI (N S 13 d)) g (gmx S (N S 10 d) (i * N S 13 d) (N S 13 d)) (gsm S (N S 10 d) (i * N S 13 d) (N S 13 d)) S := by
  obtain ⟨k1, k2, k3, k4, k5⟩ := hS.opk d ho
  have h64 := hS.ln64 _ k2
  intro e
  induction e with
  | zero =>
    intro j fu h1 h2
    obtain ⟨fu, rfl⟩ : ∃ k, fu = k + 1 := ⟨fu - 1, by omega⟩
    rw [gM_window_l10_s]
    unfold gM_window_b10
    have e : j = N S 13 d := by omega
    rw [nI_add, if_pos (nI_le (by omega) (by omega)), e]
  | succ e ih =>
    intro j fu h1 h2
    obtain ⟨fu, rfl⟩ : ∃ k, fu = k + 1 := ⟨fu - 1, by omega⟩
    have hi := ih (j + 1) fu (by omega) (by omega)
    have hj2 : i * N S 13 d + j < N S 1 (N S 10 d) := by omega
    obtain ⟨e1, e2⟩ := at64 hS k2 hj2
    rw [gM_window_l10_s]
    unfold gM_window_b10
    rw [nI_add, if_neg (nI_ge (by omega) (by omega)), e1, ob_of (rd1280 e2 (by omega))]
    have eg : gmx S (N S 10 d) (i * N S 13 d) (j + 1) = if gmx S (N S 10 d) (i * N S 13 d) j < S 5 (N S 10 d * 64 + (i * N S 13 d + j)) then S 5 (N S 10 d * 64 + (i * N S 13 d + j)) else gmx S (N S 10 d) (i * N S 13 d) j := rfl
    by_cases c : S 5 (N S 10 d * 64 + (i * N S 13 d + j)) ≤ gmx S (N S 10 d) (i * N S 13 d) j
    · rw [if_neg (Int32.not_lt.mpr c)] at eg
      rw [if_pos c, bnd_eq, bnd_eq, nI_1, ← eg]
      exact hi
    · rw [if_pos (Int32.not_le.mp c)] at eg
      rw [if_neg c, bnd_eq, bnd_eq, nI_1]
      rw [eg] at hi
      exact hi
/-- a mean of cells is a cell -/
theorem mean_by {x : Int32} {p : Nat} (hp : 2 ≤ p) (hp4 : p ≤ 4) (h1 : -128 * (p : Int) ≤ x.toInt) (h2 : x.toInt ≤ 127 * (p : Int)) : ∃ r : Int64, (∀ w : cW, fN_rounded x.toInt64 (nI p).toInt64 w = some (r, w)) ∧ (∀ S : sM, gM_rounded x.toInt64 (nI p).toInt64 S = some (r, S)) ∧ By r.toInt32 := by
  rw [nI_l (show p < 2 ^ 31 by omega)]
  by_cases c : x < 0
  · have c1 : x.toInt < 0 := Int32.lt_iff_toInt_lt.mp c
    obtain ⟨n, hn⟩ : ∃ n : Nat, x.toInt = -(n : Int) := ⟨(-x.toInt).toNat, by omega⟩
    have e : x.toInt64 = -lN n := by
      apply Int64.toInt_inj.mp
      rw [lN_neg_toInt (by omega), Int32.toInt_toInt64, hn]
    obtain ⟨r, f1, f2, f3⟩ := rnd_both (Or.inr e) (by omega) (d := p) (by omega) (by omega)
    refine ⟨r, f1, f2, ?_⟩
    have hb : rnd n p ≤ 128 := rnd_le (by omega) (by omega)
    have hr : r = -lN (rnd n p) := by
      rcases f3 with q | q
      · have q1 := q.1
        rw [e] at q1
        have q2 := congrArg Int64.toInt q1
        rw [lN_neg_toInt (by omega), pk_lT (by omega)] at q2
        omega
      · exact q.2
    rw [hr, Int64.toInt32_neg, lN_i]
    unfold By
    rw [Int32.toInt_neg, nI_toInt (by omega), Int.bmod_eq_of_le (by omega) (by omega)]
    omega
  · obtain ⟨n, hn, rfl⟩ := nI_of c
    rw [nI_toInt hn] at h1 h2
    obtain ⟨r, f1, f2, f3⟩ := rnd_both (Or.inl (nI_l hn)) (by omega) (d := p) (by omega) (by omega)
    refine ⟨r, f1, f2, ?_⟩
    have hb : rnd n p ≤ 127 := rnd_le (by omega) (by omega)
    rcases f3 with q | q
    · rw [q.2, lN_i]
      unfold By
      rw [nI_toInt (by omega)]
      omega
    · have q1 := q.1
      rw [nI_l hn] at q1
      have q2 := congrArg Int64.toInt q1
      rw [lN_neg_toInt (by omega), pk_lT (by omega)] at q2
      have n0 : n = 0 := by omega
      rw [q.2, n0, show rnd 0 p = 0 by unfold rnd; rw [Nat.zero_add]; exact Nat.div_eq_of_lt (by omega)]
      unfold By
      decide
end CELL
