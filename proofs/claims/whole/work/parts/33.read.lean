/-! THE CLASS'S SIDE: what its methods read -/
section READ
variable {w : cW} {S : sM} {X : Nat → Nat → Nat} {cd : Nat → Nat × Nat} {el : Nat → Nat} {tl : Nat → Nat} {Y : Nat → Nat → Int32} {V : Nat → Nat → Nat → Int32} {od : Nat → Nat} {nA : Nat} {mx : Int32}
theorem RC.q00 (h : RC w S X cd el tl Y V od nA mx) : gQ w (some (X 0 0)) 0 0 = some (some (X 7 0)) := gQ_in h.net rfl
theorem RC.q01 (h : RC w S X cd el tl Y V od nA mx) : gQ w (some (X 0 0)) 0 1 = some (some (X 7 1)) := gQ_in h.net rfl
theorem RC.q02 (h : RC w S X cd el tl Y V od nA mx) : gQ w (some (X 0 0)) 0 2 = some (some (X 9 0)) := gQ_in h.net rfl
theorem RC.q03 (h : RC w S X cd el tl Y V od nA mx) : gQ w (some (X 0 0)) 0 3 = some (some (X 1 0)) := gQ_in h.net rfl
theorem RC.i04 (h : RC w S X cd el tl Y V od nA mx) : gI w (some (X 0 0)) 0 4 = some (S 15 0) := gI_in h.net rfl
theorem RC.i05 (h : RC w S X cd el tl Y V od nA mx) : gI w (some (X 0 0)) 0 5 = some (S 18 0) := gI_in h.net rfl
theorem RC.r0 (h : RC w S X cd el tl Y V od nA mx) : cRcv w (some (X 0 0)) 0 = some (X 0 0) := cRcv_in h.net
theorem RC.r1 (h : RC w S X cd el tl Y V od nA mx) : cRcv w (some (X 1 0)) 1 = some (X 1 0) := cRcv_in h.arn
theorem RC.q10 (h : RC w S X cd el tl Y V od nA mx) : gQ w (some (X 1 0)) 1 0 = some (some (X 7 2)) := gQ_in h.arn rfl
theorem RC.i11 (h : RC w S X cd el tl Y V od nA mx) : gI w (some (X 1 0)) 1 1 = some mx := gI_in h.arn rfl
theorem RC.l0 (h : RC w S X cd el tl Y V od nA mx) : cRcv w (some (X 7 0)) 6 = some (X 7 0) := h.ls0.rcv
theorem RC.l1 (h : RC w S X cd el tl Y V od nA mx) : cRcv w (some (X 7 1)) 6 = some (X 7 1) := h.ls1.rcv
theorem RC.l2 (h : RC w S X cd el tl Y V od nA mx) : cRcv w (some (X 7 2)) 6 = some (X 7 2) := h.ls2.rcv
theorem RC.z0 (h : RC w S X cd el tl Y V od nA mx) : fL_size (X 7 0) w = some (nI (N S 6 0), w) := h.ls0.size
theorem RC.z1 (h : RC w S X cd el tl Y V od nA mx) : fL_size (X 7 1) w = some (nI (N S 14 0), w) := h.ls1.size
theorem RC.z2 (h : RC w S X cd el tl Y V od nA mx) : fL_size (X 7 2) w = some (nI nA, w) := h.ls2.size
theorem RC.g0 (h : RC w S X cd el tl Y V od nA mx) {t : Nat} (ht : t < N S 6 0) : fL_get (X 7 0) (nI t) w = some (some (X 4 t), w) := h.ls0.get ht
theorem RC.g1 (h : RC w S X cd el tl Y V od nA mx) {o : Nat} (ho : o < N S 14 0) : fL_get (X 7 1) (nI o) w = some (some (X 2 o), w) := h.ls1.get ho
theorem RC.g2 (h : RC w S X cd el tl Y V od nA mx) {k : Nat} (hk : k < nA) : fL_get (X 7 2) (nI k) w = some (some (X 4 (od k)), w) := h.ls2.get hk
theorem RC.c4 (h : RC w S X cd el tl Y V od nA mx) {t : Nat} (ht : t < N S 6 0) : cCast w (some (X 4 t)) 4 = some () := cCast_in (h.ten t ht)
theorem RC.r4 (h : RC w S X cd el tl Y V od nA mx) {t : Nat} (ht : t < N S 6 0) : cRcv w (some (X 4 t)) 4 = some (X 4 t) := cRcv_in (h.ten t ht)
theorem RC.c2 (h : RC w S X cd el tl Y V od nA mx) {o : Nat} (ho : o < N S 14 0) : cCast w (some (X 2 o)) 2 = some () := cCast_in (h.opr o ho)
theorem RC.r2 (h : RC w S X cd el tl Y V od nA mx) {o : Nat} (ho : o < N S 14 0) : cRcv w (some (X 2 o)) 2 = some (X 2 o) := cRcv_in (h.opr o ho)
theorem RC.r3 (h : RC w S X cd el tl Y V od nA mx) {i : Nat} (hi : i < 8) : cRcv w (some (X 3 i)) 3 = some (X 3 i) := cRcv_in (h.scl i hi)
theorem RC.i30 (h : RC w S X cd el tl Y V od nA mx) {i : Nat} (hi : i < 8) : gI w (some (X 3 i)) 3 0 = some (S 7 i) := gI_in (h.scl i hi) rfl
theorem RC.i31 (h : RC w S X cd el tl Y V od nA mx) {i : Nat} (hi : i < 8) : gI w (some (X 3 i)) 3 1 = some (S 8 i) := gI_in (h.scl i hi) rfl
theorem RC.q9 (h : RC w S X cd el tl Y V od nA mx) {i : Nat} (hi : i < 8) : ldQ w (some (X 9 0)) (nI i) = some (some (X 3 i)) := by
  obtain ⟨g, g1, g2⟩ := h.sca
  rw [ldQ_in g1 (by decide) (by decide) rfl hi (by decide), g2 i hi]
theorem RC.t0 (h : RC w S X cd el tl Y V od nA mx) {t : Nat} (ht : t < N S 6 0) : gI w (some (X 4 t)) 4 0 = some (nI t) := gI_in (h.ten t ht) rfl
theorem RC.t1 (h : RC w S X cd el tl Y V od nA mx) {t : Nat} (ht : t < N S 6 0) : gI w (some (X 4 t)) 4 1 = some (S 0 t) := gI_in (h.ten t ht) rfl
theorem RC.t2 (h : RC w S X cd el tl Y V od nA mx) {t : Nat} (ht : t < N S 6 0) : gI w (some (X 4 t)) 4 2 = some (S 1 t) := gI_in (h.ten t ht) rfl
theorem RC.t3 (h : RC w S X cd el tl Y V od nA mx) {t : Nat} (ht : t < N S 6 0) : gI w (some (X 4 t)) 4 3 = some (S 2 t) := gI_in (h.ten t ht) rfl
theorem RC.t4 (h : RC w S X cd el tl Y V od nA mx) {t : Nat} (ht : t < N S 6 0) : gQ w (some (X 4 t)) 4 4 = some (some (X 5 t)) := gQ_in (h.ten t ht) rfl
theorem RC.t5 (h : RC w S X cd el tl Y V od nA mx) {t : Nat} (ht : t < N S 6 0) : gQ w (some (X 4 t)) 4 5 = some (some (clA S X t)) := gQ_in (h.ten t ht) rfl
theorem RC.t6 (h : RC w S X cd el tl Y V od nA mx) {t : Nat} (ht : t < N S 6 0) : gI w (some (X 4 t)) 4 6 = some (S 3 t) := gI_in (h.ten t ht) rfl
theorem RC.t7 (h : RC w S X cd el tl Y V od nA mx) {t : Nat} (ht : t < N S 6 0) : gI w (some (X 4 t)) 4 7 = some (Y 7 t) := gI_in (h.ten t ht) rfl
theorem RC.t8 (h : RC w S X cd el tl Y V od nA mx) {t : Nat} (ht : t < N S 6 0) : gI w (some (X 4 t)) 4 8 = some (Y 8 t) := gI_in (h.ten t ht) rfl
theorem RC.t9 (h : RC w S X cd el tl Y V od nA mx) {t : Nat} (ht : t < N S 6 0) : gI w (some (X 4 t)) 4 9 = some (Y 9 t) := gI_in (h.ten t ht) rfl
theorem RC.t10 (h : RC w S X cd el tl Y V od nA mx) {t : Nat} (ht : t < N S 6 0) : gI w (some (X 4 t)) 4 10 = some (Y 10 t) := gI_in (h.ten t ht) rfl
theorem RC.o0 (h : RC w S X cd el tl Y V od nA mx) {o : Nat} (ho : o < N S 14 0) : gI w (some (X 2 o)) 2 0 = some (S 9 o) := gI_in (h.opr o ho) rfl
theorem RC.o1 (h : RC w S X cd el tl Y V od nA mx) {o : Nat} (ho : o < N S 14 0) : gQ w (some (X 2 o)) 2 1 = some (some (X 4 (N S 10 o))) := gQ_in (h.opr o ho) rfl
theorem RC.o2 (h : RC w S X cd el tl Y V od nA mx) {o : Nat} (ho : o < N S 14 0) : gQ w (some (X 2 o)) 2 2 = some (some (X 4 (N S 11 o))) := gQ_in (h.opr o ho) rfl
theorem RC.o3 (h : RC w S X cd el tl Y V od nA mx) {o : Nat} (ho : o < N S 14 0) : gQ w (some (X 2 o)) 2 3 = some (some (X 4 (N S 12 o))) := gQ_in (h.opr o ho) rfl
theorem RC.o4 (h : RC w S X cd el tl Y V od nA mx) {o : Nat} (ho : o < N S 14 0) : gI w (some (X 2 o)) 2 4 = some (S 13 o) := gI_in (h.opr o ho) rfl
/-- one tensor at one address -/
theorem RC.inj4 (h : RC w S X cd el tl Y V od nA mx) {t u : Nat} (ht : t < N S 6 0) (hu : u < N S 6 0) : X 4 t = X 4 u ↔ t = u := by
  refine ⟨fun q => ?_, fun q => by rw [q]⟩
  have a := (h.cds 4 t (lv4 ht)).1
  rw [q, (h.cds 4 u (lv4 hu)).1] at a
  cases a
  rfl
theorem wthn (a l g : Int32) (w : cW) : fN_isWithin a l g w = some (if a < l ∨ g < a then 0 else 1, w) := by
  unfold fN_isWithin
  by_cases c : a < l
  · rw [if_pos c, if_pos (Or.inl c)]
  · rw [if_neg c]
    by_cases d : g < a
    · rw [if_pos d, if_pos (Or.inr d)]
    · rw [if_neg d, if_neg (fun q => q.elim c d)]
theorem isScale1 {i : Nat} (hi : i < 8) (w : cW) : fN_isScale (nI i) w = some (1, w) := by
  unfold fN_isScale
  rw [cbd_of (wthn _ _ _ w), if_neg (show ¬ (nI i < 0 ∨ 7 < nI i) from fun q => q.elim (nI_pos (by omega)) (nI_nlt (show i ≤ 7 by omega) (by decide))), if_pos (Or.inr rfl)]
theorem isScale0 {a : Int32} (h : a < 0 ∨ nI 8 ≤ a) (w : cW) : fN_isScale a w = some (0, w) := by
  unfold fN_isScale
  have hh : a < 0 ∨ 7 < a := by
    rcases h with q | q
    · exact Or.inl q
    refine Or.inr ?_
    have : (nI 8).toInt ≤ a.toInt := Int32.le_iff_toInt_le.mp q
    exact Int32.lt_iff_toInt_lt.mpr (by rw [nI_toInt (by omega)] at this; show (7 : Int32).toInt < _; rw [show (7 : Int32).toInt = 7 from rfl]; omega)
  rw [cbd_of (wthn _ _ _ w), if_pos hh, if_pos (Or.inl rfl)]
theorem isCell (a : Int32) (w : cW) : fN_isCellValue a w = some (if a < -128 ∨ 127 < a then 0 else 1, w) := by
  unfold fN_isCellValue
  rw [cbd_of (wthn _ _ _ w)]
  by_cases c : a < -128 ∨ 127 < a
  · rw [if_pos c, if_pos (Or.inl rfl)]
  · rw [if_neg c, if_pos (Or.inr rfl)]
theorem RC.tAt0 (h : RC w S X cd el tl Y V od nA mx) {a : Int32} (ha : a < 0 ∨ nI (N S 6 0) ≤ a) : fN_tensorAt (X 0 0) a w = some (none, w) := by
  unfold fN_tensorAt
  by_cases c : a < 0
  · rw [if_pos c]
  · rw [if_neg c, ob_of h.q00, ob_of h.l0, cbd_of h.z0, if_pos (ha.resolve_left c)]
theorem RC.tAt (h : RC w S X cd el tl Y V od nA mx) {t : Nat} (ht : t < N S 6 0) : fN_tensorAt (X 0 0) (nI t) w = some (some (X 4 t), w) := by
  have := N_lt S 6 0
  unfold fN_tensorAt
  rw [if_neg (nI_pos (by omega)), ob_of h.q00, ob_of h.l0, cbd_of h.z0, if_neg (nI_ge ht (by omega)), ob_of h.q00, ob_of h.l0, cbd_of (h.g0 ht), ob_of (h.c4 ht)]
theorem RC.living0 (h : RC w S X cd el tl Y V od nA mx) {a : Int32} (ha : (a < 0 ∨ nI (N S 6 0) ≤ a) ∨ S 15 0 = 0) : fN_livingTensorAt (X 0 0) a w = some (none, w) := by
  unfold fN_livingTensorAt
  rw [ob_of h.r0]
  by_cases c : a < 0 ∨ nI (N S 6 0) ≤ a
  · rw [cbd_of (h.tAt0 c), ob_of h.i04, if_pos rfl]
    by_cases d : S 15 0 = 0
    · rw [if_pos d]
    · rw [if_neg d]
  · obtain ⟨t, ht, rfl⟩ : ∃ t, t < N S 6 0 ∧ a = nI t := by
      rcases pk_ix a (N_lt S 6 0) with q | q | q
      · exact absurd (Or.inl q) c
      · exact absurd (Or.inr q) c
      · exact q
    rw [cbd_of (h.tAt ht), ob_of h.i04, if_pos (ha.resolve_left c)]
theorem RC.living (h : RC w S X cd el tl Y V od nA mx) {t : Nat} (ht : t < N S 6 0) (hp : S 15 0 = 1) : fN_livingTensorAt (X 0 0) (nI t) w = some (if Y 7 t = 0 then none else some (X 4 t), w) := by
  unfold fN_livingTensorAt
  rw [ob_of h.r0, cbd_of (h.tAt ht), ob_of h.i04, if_neg (by rw [hp]; decide), if_neg (by simp), ob_of (h.t7 ht)]
  by_cases c : Y 7 t = 0
  · rw [if_pos c, if_pos c]
  · rw [if_neg c, if_neg c]
theorem RC.living_0 (h : RC w S X cd el tl Y V od nA mx) {t : Nat} (ht : t < N S 6 0) (hp : S 15 0 = 1) (hy : Y 7 t = 0) : fN_livingTensorAt (X 0 0) (nI t) w = some (none, w) := by rw [h.living ht hp, if_pos hy]
theorem RC.living_1 (h : RC w S X cd el tl Y V od nA mx) {t : Nat} (ht : t < N S 6 0) (hp : S 15 0 = 1) (hy : Y 7 t ≠ 0) : fN_livingTensorAt (X 0 0) (nI t) w = some (some (X 4 t), w) := by rw [h.living ht hp, if_neg hy]
theorem RC.unm_loop (h : RC w S X cd el tl Y V od nA mx) (ho : OKS S) {t n : Nat} (ht : t < N S 6 0) (hn : n ≤ N S 14 0) : ∀ d i fu, i + d = n → d < fu → (∀ o, o < i → N S 12 o ≠ t) → fN_isUnmadeBefore_l12 (X 0 0) fu (nI n) (some (X 4 t)) (nI i) w = some (if mk S t n < n then 0 else 1, w) := by
  have h14 := ho.o14
  intro d
  induction d with
  | zero =>
    intro i fu h1 h2 h3
    obtain ⟨fu, rfl⟩ : ∃ k, fu = k + 1 := ⟨fu - 1, by omega⟩
    rw [fN_isUnmadeBefore_l12_s]
    unfold fN_isUnmadeBefore_b12
    have e : mk S t n = n := mk_none (fun j hj => h3 j (by omega))
    rw [if_pos (nI_le (by omega) (by omega)), if_neg (by omega)]
  | succ d ih =>
    intro i fu h1 h2 h3
    obtain ⟨fu, rfl⟩ : ∃ k, fu = k + 1 := ⟨fu - 1, by omega⟩
    rw [fN_isUnmadeBefore_l12_s]
    unfold fN_isUnmadeBefore_b12
    have hi : i < N S 14 0 := by omega
    rw [if_neg (nI_ge (by omega) (by omega)), ob_of h.q01, ob_of h.l1, cbd_of (h.g1 hi), ob_of (h.c2 hi), ob_of (h.o3 hi)]
    have hr := (ho.opk i hi).2.2.2.1
    by_cases c : N S 12 i = t
    · have e : mk S t n = i := mk_of (by omega) c h3
      rw [if_pos (by rw [c]), if_pos (by omega)]
    · rw [if_neg (fun q => c ((h.inj4 hr ht).mp (Option.some.inj q))), bnd_eq, nI_1]
      refine ih (i + 1) fu (by omega) (by omega) (fun o ho => ?_)
      by_cases q : o = i
      · rw [q]; exact c
      · exact h3 o (by omega)
theorem RC.unmade (h : RC w S X cd el tl Y V od nA mx) (ho : OKS S) {t n : Nat} (ht : t < N S 6 0) (hn : n ≤ N S 14 0) : fN_isUnmadeBefore (X 0 0) (nI n) (X 4 t) w = some (if unm S t n = true then 1 else 0, w) := by
  have h14 := ho.o14
  unfold fN_isUnmadeBefore unm
  rw [ob_of (h.t1 ht), ho.e0]
  by_cases c : N S 0 t = 2
  · rw [if_pos ((Neq2 S 0 t).mpr c)]
    refine (h.unm_loop ho ht hn n 0 FU (by omega) (by unfold FU; omega) (fun o ho => absurd ho (Nat.not_lt_zero o))).trans ?_
    by_cases d : mk S t n < n
    · rw [if_pos d, if_neg (by simp [d])]
    · rw [if_neg d, if_pos (by simp [d, c])]
  · rw [if_neg (fun q => c ((Neq2 S 0 t).mp q)), if_neg (by simp [c])]
theorem fitB0 {S : sM} {o : Nat} (c : N S 9 o = 0) : fitB S o = decide (N S 0 (N S 11 o) = 0 ∧ N S 1 (N S 11 o) = N S 1 (N S 10 o) * N S 1 (N S 12 o)) := by
  unfold fitB
  rw [if_pos c]
theorem fitB1 {S : sM} {o : Nat} (c : N S 9 o = 1 ∨ N S 9 o = 2) : fitB S o = decide (N S 1 (N S 10 o) = N S 1 (N S 11 o) ∧ N S 1 (N S 11 o) = N S 1 (N S 12 o)) := by
  unfold fitB
  rw [if_neg (by omega), if_pos (by omega)]
theorem fitB3 {S : sM} {o : Nat} (c : N S 9 o = 3 ∨ N S 9 o = 4) : fitB S o = decide (N S 10 o = N S 11 o ∧ 2 ≤ N S 13 o ∧ N S 13 o ≤ 4 ∧ N S 1 (N S 10 o) = N S 1 (N S 12 o) * N S 13 o ∧ S 2 (N S 10 o) = S 2 (N S 12 o)) := by
  unfold fitB
  rw [if_neg (by omega), if_neg (by omega), if_pos (by omega)]
theorem fitB5 {S : sM} {o : Nat} (c : N S 9 o = 5) : fitB S o = decide (N S 13 o = 0 ∧ N S 0 (N S 11 o) = 0 ∧ N S 1 (N S 11 o) = 16 ∧ N S 1 (N S 10 o) = N S 1 (N S 12 o) ∧ S 2 (N S 11 o) = S 2 (N S 12 o)) := by
  unfold fitB
  rw [if_neg (by omega), if_neg (by omega), if_neg (by omega), if_pos c]
theorem fitB6 {S : sM} {o : Nat} (c : N S 9 o = 6) : fitB S o = decide (N S 13 o = 0 ∧ N S 1 (N S 12 o) = N S 1 (N S 10 o) + N S 1 (N S 11 o) ∧ S 2 (N S 10 o) = S 2 (N S 12 o) ∧ S 2 (N S 11 o) = S 2 (N S 12 o)) := by
  unfold fitB
  rw [if_neg (by omega), if_neg (by omega), if_neg (by omega), if_neg (by omega), if_pos c]
theorem fitB7 {S : sM} {o : Nat} (c : N S 9 o = 7) : fitB S o = decide (N S 13 o = 0 ∧ N S 10 o = N S 11 o ∧ N S 1 (N S 10 o) = N S 1 (N S 12 o) ∧ S 2 (N S 10 o) = S 2 (N S 12 o)) := by
  unfold fitB
  rw [if_neg (by omega), if_neg (by omega), if_neg (by omega), if_neg (by omega), if_neg (by omega)]
theorem RC.fits (h : RC w S X cd el tl Y V od nA mx) (hS : OKS S) {o : Nat} (ho : o < N S 14 0) : fO_fits (X 2 o) w = some (if fitB S o = true then 1 else 0, w) := by
  have h20 := hS.t20
  have h14 := hS.o14
  obtain ⟨k1, k2, k3, k4, k5⟩ := hS.opk o ho
  have la := hS.ln64 _ k2
  have lb := hS.ln64 _ k3
  have lr := hS.ln64 _ k4
  have hm1 : (nI (N S 1 (N S 11 o)) = nI (N S 1 (N S 10 o)) * nI (N S 1 (N S 12 o))) ↔ N S 1 (N S 11 o) = N S 1 (N S 10 o) * N S 1 (N S 12 o) := by
    rw [pk_mul]
    have := Nat.mul_le_mul la lr
    exact nI_eq (N_lt _ _ _) (by omega)
  have hm2 : (nI (N S 1 (N S 10 o)) = nI (N S 1 (N S 12 o)) * nI (N S 13 o)) ↔ N S 1 (N S 10 o) = N S 1 (N S 12 o) * N S 13 o := by
    rw [pk_mul]
    have := Nat.mul_le_mul lr k5
    exact nI_eq (N_lt _ _ _) (by omega)
  have hm3 : (nI (N S 1 (N S 12 o)) = nI (N S 1 (N S 10 o)) + nI (N S 1 (N S 11 o))) ↔ N S 1 (N S 12 o) = N S 1 (N S 10 o) + N S 1 (N S 11 o) := by
    rw [nI_add]
    exact nI_eq (N_lt _ _ _) (by omega)
  have hab : (some (X 4 (N S 11 o)) = some (X 4 (N S 10 o))) ↔ N S 10 o = N S 11 o := by
    rw [Option.some.injEq, h.inj4 k3 k2]
    exact eq_comm
  unfold fO_fits
  simp only [h.o0 ho, h.o1 ho, h.o2 ho, h.o3 ho, h.o4 ho, ob_some, h.t1 k3, h.t2 k2, h.t2 k3, h.t2 k4, h.t3 k2, h.t3 k3, h.t3 k4, wthn, cbd_some, hS.e9, hS.e13, hS.e1, hS.e0, Neq0, Neq1, Neq2, Neq3, Neq4, Neq5, Neq6, Neq7, Neq16, Nlt2, Ngt4, NeqN, hm1, hm2, hm3, hab]
  rcases (by omega : N S 9 o = 0 ∨ N S 9 o = 1 ∨ N S 9 o = 2 ∨ N S 9 o = 3 ∨ N S 9 o = 4 ∨ N S 9 o = 5 ∨ N S 9 o = 6 ∨ N S 9 o = 7) with c | c | c | c | c | c | c | c
  · rw [fitB0 c, if_pos c]
    by_cases d1 : N S 0 (N S 11 o) = 0
    · by_cases d2 : N S 1 (N S 11 o) = N S 1 (N S 10 o) * N S 1 (N S 12 o)
      · rw [if_pos d1, if_pos d2, if_pos (decide_eq_true ⟨d1, d2⟩)]
      · rw [if_pos d1, if_neg d2, if_neg (by simp [d2])]
    · rw [if_neg d1, if_neg (by simp [d1])]
  · rw [fitB1 (Or.inl c), if_neg (by omega), if_pos c]
    by_cases d1 : N S 1 (N S 10 o) = N S 1 (N S 12 o)
    · by_cases d2 : N S 1 (N S 11 o) = N S 1 (N S 12 o)
      · rw [if_pos d1, if_pos d2, if_pos (decide_eq_true ⟨d1.trans d2.symm, d2⟩)]
      · rw [if_pos d1, if_neg d2, if_neg (by simp [d2])]
    · rw [if_neg d1, if_neg]
      simp only [decide_eq_true_eq]
      exact fun q => d1 (q.1.trans q.2)
  · rw [fitB1 (Or.inr c), if_neg (by omega), if_neg (by omega), if_pos c]
    by_cases d1 : N S 1 (N S 10 o) = N S 1 (N S 12 o)
    · by_cases d2 : N S 1 (N S 11 o) = N S 1 (N S 12 o)
      · rw [if_pos d1, if_pos d2, if_pos (decide_eq_true ⟨d1.trans d2.symm, d2⟩)]
      · rw [if_pos d1, if_neg d2, if_neg (by simp [d2])]
    · rw [if_neg d1, if_neg]
      simp only [decide_eq_true_eq]
      exact fun q => d1 (q.1.trans q.2)
  · rw [fitB3 (Or.inl c), if_neg (by omega), if_neg (by omega), if_neg (by omega), if_pos c]
    by_cases d1 : N S 10 o = N S 11 o
    · by_cases d2 : N S 13 o < 2 ∨ 4 < N S 13 o
      · rw [if_pos d1, if_pos d2, if_pos rfl, if_neg]
        simp only [decide_eq_true_eq]
        omega
      · by_cases d4 : N S 1 (N S 10 o) = N S 1 (N S 12 o) * N S 13 o
        · by_cases d5 : S 2 (N S 10 o) = S 2 (N S 12 o)
          · rw [if_pos d1, if_neg d2, if_neg (by decide), if_pos d4, if_pos d5, if_pos (decide_eq_true ⟨d1, by omega, by omega, d4, d5⟩)]
          · rw [if_pos d1, if_neg d2, if_neg (by decide), if_pos d4, if_neg d5, if_neg (by simp [d5])]
        · rw [if_pos d1, if_neg d2, if_neg (by decide), if_neg d4, if_neg (by simp [d4])]
    · rw [if_neg d1, if_neg (by simp [d1])]
  · rw [fitB3 (Or.inr c), if_neg (by omega), if_neg (by omega), if_neg (by omega), if_neg (by omega), if_pos c]
    by_cases d1 : N S 10 o = N S 11 o
    · by_cases d2 : N S 13 o < 2 ∨ 4 < N S 13 o
      · rw [if_pos d1, if_pos d2, if_pos rfl, if_neg]
        simp only [decide_eq_true_eq]
        omega
      · by_cases d4 : N S 1 (N S 10 o) = N S 1 (N S 12 o) * N S 13 o
        · by_cases d5 : S 2 (N S 10 o) = S 2 (N S 12 o)
          · rw [if_pos d1, if_neg d2, if_neg (by decide), if_pos d4, if_pos d5, if_pos (decide_eq_true ⟨d1, by omega, by omega, d4, d5⟩)]
          · rw [if_pos d1, if_neg d2, if_neg (by decide), if_pos d4, if_neg d5, if_neg (by simp [d5])]
        · rw [if_pos d1, if_neg d2, if_neg (by decide), if_neg d4, if_neg (by simp [d4])]
    · rw [if_neg d1, if_neg (by simp [d1])]
  · rw [fitB5 c, if_neg (by omega), if_neg (by omega), if_neg (by omega), if_neg (by omega), if_neg (by omega), if_pos c]
    by_cases d0 : N S 13 o = 0
    · by_cases d1 : N S 0 (N S 11 o) = 0
      · by_cases d2 : N S 1 (N S 11 o) = 16
        · by_cases d3 : N S 1 (N S 10 o) = N S 1 (N S 12 o)
          · by_cases d4 : S 2 (N S 11 o) = S 2 (N S 12 o)
            · rw [if_pos d0, if_pos d1, if_pos d2, if_pos d3, if_pos d4, if_pos (decide_eq_true ⟨d0, d1, d2, d3, d4⟩)]
            · rw [if_pos d0, if_pos d1, if_pos d2, if_pos d3, if_neg d4, if_neg (by simp [d4])]
          · rw [if_pos d0, if_pos d1, if_pos d2, if_neg d3, if_neg (by simp [d3])]
        · rw [if_pos d0, if_pos d1, if_neg d2, if_neg (by simp [d2])]
      · rw [if_pos d0, if_neg d1, if_neg (by simp [d1])]
    · rw [if_neg d0, if_neg (by simp [d0])]
  · rw [fitB6 c, if_neg (by omega), if_neg (by omega), if_neg (by omega), if_neg (by omega), if_neg (by omega), if_neg (by omega), if_pos c]
    by_cases d0 : N S 13 o = 0
    · by_cases d1 : N S 1 (N S 12 o) = N S 1 (N S 10 o) + N S 1 (N S 11 o)
      · by_cases d2 : S 2 (N S 10 o) = S 2 (N S 12 o)
        · by_cases d3 : S 2 (N S 11 o) = S 2 (N S 12 o)
          · rw [if_pos d0, if_pos d1, if_pos d2, if_pos d3, if_pos (decide_eq_true ⟨d0, d1, d2, d3⟩)]
          · rw [if_pos d0, if_pos d1, if_pos d2, if_neg d3, if_neg (by simp [d3])]
        · rw [if_pos d0, if_pos d1, if_neg d2, if_neg (by simp [d2])]
      · rw [if_pos d0, if_neg d1, if_neg (by simp [d1])]
    · rw [if_neg d0, if_neg (by simp [d0])]
  · rw [fitB7 c, if_neg (by omega), if_neg (by omega), if_neg (by omega), if_neg (by omega), if_neg (by omega), if_neg (by omega), if_neg (by omega), if_pos c]
    by_cases d0 : N S 13 o = 0
    · by_cases d1 : N S 10 o = N S 11 o
      · by_cases d2 : N S 1 (N S 10 o) = N S 1 (N S 12 o)
        · by_cases d3 : S 2 (N S 10 o) = S 2 (N S 12 o)
          · rw [if_pos d0, if_pos d1, if_pos d2, if_pos d3, if_pos (decide_eq_true ⟨d0, d1, d2, d3⟩)]
          · rw [if_pos d0, if_pos d1, if_pos d2, if_neg d3, if_neg (by simp [d3])]
        · rw [if_pos d0, if_pos d1, if_neg d2, if_neg (by simp [d2])]
      · rw [if_pos d0, if_neg d1, if_neg (by simp [d1])]
    · rw [if_neg d0, if_neg (by simp [d0])]
theorem RC.faultOf (h : RC w S X cd el tl Y V od nA mx) (hS : OKS S) {o : Nat} (ho : o < N S 14 0) : fN_faultOf (X 0 0) (nI o) w = some (flt S o, w) := by
  obtain ⟨k1, k2, k3, k4, k5⟩ := hS.opk o ho
  unfold fN_faultOf flt
  rw [ob_of h.q01, ob_of h.l1, cbd_of (h.g1 ho), ob_of (h.c2 ho), ob_of (h.o3 ho), ob_some, ob_of h.r0, cbd_of (h.unmade hS k4 (by omega))]
  by_cases c1 : N S 0 (N S 12 o) = 2 ∧ ¬ mk S (N S 12 o) o < o
  · have e : unm S (N S 12 o) o = true := by unfold unm; simp [c1.1, c1.2]
    rw [e, if_pos rfl, if_neg (by decide), ob_of (h.o1 ho), ob_some, ob_of h.r0, cbd_of (h.unmade hS k2 (by omega)), if_pos c1]
    cases c3 : unm S (N S 10 o) o
    · rw [if_neg Bool.false_ne_true, if_pos rfl, ob_of (h.o2 ho), ob_some, ob_of h.r0, cbd_of (h.unmade hS k3 (by omega))]
      cases c4 : unm S (N S 11 o) o
      · rw [if_neg Bool.false_ne_true, if_pos rfl, ob_of (h.r2 ho), cbd_of (h.fits hS ho)]
        cases c5 : fitB S o <;> rfl
      · rfl
    · rfl
  · have e : unm S (N S 12 o) o = false := by
      unfold unm
      by_cases d : N S 0 (N S 12 o) = 2
      · have : mk S (N S 12 o) o < o := by omega
        simp [this]
      · simp [d]
    rw [e, if_neg Bool.false_ne_true, if_pos rfl, if_neg c1]
end READ
