/-! prepare: PLACES IN THE ARENA -/
theorem cnt_cong {p p' : Nat → Bool} : ∀ {n : Nat}, (∀ u, u < n → p' u = p u) → cnt p' n = cnt p n
  | 0, _ => rfl
  | n + 1, h => by
    unfold cnt
    rw [cnt_cong (fun u hu => h u (by omega)), h n (by omega)]
theorem sumN_cong {f f' : Nat → Nat} : ∀ {n : Nat}, (∀ u, u < n → f' u = f u) → sumN f' n = sumN f n
  | 0, _ => rfl
  | n + 1, h => by
    unfold sumN
    rw [sumN_cong (fun u hu => h u (by omega)), h n (by omega)]
theorem maxN_cong {f f' : Nat → Nat} : ∀ {n : Nat}, (∀ u, u < n → f' u = f u) → maxN f' n = maxN f n
  | 0, _ => rfl
  | n + 1, h => by
    unfold maxN
    rw [maxN_cong (fun u hu => h u (by omega)), h n (by omega)]
theorem cnt_add {p p' : Nat → Bool} {i : Nat} (h1 : ∀ u, u ≠ i → p' u = p u) (h2 : p i = false) (h3 : p' i = true) : ∀ {n : Nat}, i < n → cnt p' n = cnt p n + 1
  | 0, h => absurd h (Nat.not_lt_zero i)
  | n + 1, h => by
    unfold cnt
    by_cases c : i = n
    · subst c
      rw [cnt_cong (p := p) (p' := p') (fun u hu => h1 u (by omega)), h2, h3, if_pos rfl, if_neg Bool.false_ne_true]
    · rw [cnt_add h1 h2 h3 (n := n) (by omega), h1 n (by omega)]
      omega
theorem sumN_add {f f' : Nat → Nat} {i : Nat} (h1 : ∀ u, u ≠ i → f' u = f u) (h2 : f i = 0) : ∀ {n : Nat}, i < n → sumN f' n = sumN f n + f' i
  | 0, h => absurd h (Nat.not_lt_zero i)
  | n + 1, h => by
    unfold sumN
    by_cases c : i = n
    · subst c
      rw [sumN_cong (f := f) (f' := f') (fun u hu => h1 u (by omega)), h2]
      omega
    · rw [sumN_add h1 h2 (n := n) (by omega), h1 n (by omega)]
      omega
theorem maxN_add {f f' : Nat → Nat} {i : Nat} (h1 : ∀ u, u ≠ i → f' u = f u) (h2 : f i = 0) : ∀ {n : Nat}, i < n → maxN f' n = max (maxN f n) (f' i)
  | 0, h => absurd h (Nat.not_lt_zero i)
  | n + 1, h => by
    unfold maxN
    by_cases c : i = n
    · subst c
      rw [maxN_cong (f := f) (f' := f') (fun u hu => h1 u (by omega)), h2]
      omega
    · rw [maxN_add h1 h2 (n := n) (by omega), h1 n (by omega)]
      omega
def P0 (Y : Nat → Nat → Int32) (u : Nat) : Nat := (Y 10 u).toNatClampNeg
def clash (S : sM) (P : Nat → Nat) (t g u : Nat) : Bool := decide (g < P u + N S 1 u) && (decide (P u < g + N S 1 t) && (!decide (edn S u < bgn S t) && !decide (edn S t < bgn S u)))
def free (S : sM) (P : Nat → Nat) (od : Nat → Nat) (t g : Nat) : Nat → Bool
  | 0 => true
  | k + 1 => free S P od t g k && !clash S P t g (od k)
theorem free_all {S : sM} {P od : Nat → Nat} {t g : Nat} : ∀ {k : Nat}, (∀ q, q < k → clash S P t g (od q) = false) → free S P od t g k = true
  | 0, _ => rfl
  | k + 1, h => by
    unfold free
    rw [free_all (fun q hq => h q (by omega)), h k (by omega)]
    rfl
theorem free_not {S : sM} {P od : Nat → Nat} {t g q : Nat} (hc : clash S P t g (od q) = true) : ∀ {k : Nat}, q < k → free S P od t g k = false
  | 0, h => absurd h (Nat.not_lt_zero q)
  | k + 1, h => by
    unfold free
    by_cases c : q = k
    · rw [← c, hc]; simp
    · rw [free_not hc (k := k) (by omega)]; rfl
theorem free_cong {S : sM} {P P' od od' : Nat → Nat} {t g : Nat} : ∀ {k : Nat}, (∀ q, q < k → od' q = od q ∧ P' (od q) = P (od q)) → free S P' od' t g k = free S P od t g k
  | 0, _ => rfl
  | k + 1, h => by
    unfold free
    have e := h k (by omega)
    rw [free_cong (fun q hq => h q (by omega)), e.1]
    unfold clash
    rw [e.2]
def LO (S : sM) (Y : Nat → Nat → Int32) (od : Nat → Nat) (nA : Nat) (mx : Int32) (wd : Nat) (i : Nat) : Prop := (nA = bf S (lv S) wd i) ∧ (∀ t, t < N S 6 0 → bfP S (lv S) wd i t = true → bf S (lv S) (N S 1 t) t < nA ∧ od (bf S (lv S) (N S 1 t) t) = t) ∧ (∀ k, k < nA → od k < N S 6 0 ∧ bfP S (lv S) wd i (od k) = true ∧ bf S (lv S) (N S 1 (od k)) (od k) = k) ∧ (sumN (fun k => N S 1 (od k)) nA = sumN (fun u => if bfP S (lv S) wd i u = true then N S 1 u else 0) (N S 6 0)) ∧ (∀ k, k < nA → Y 10 (od k) = nI (P0 Y (od k)) ∧ P0 Y (od k) ≤ 16 * k ∧ ∃ m, P0 Y (od k) = 4 * m ∧ free S (P0 Y) od (od k) (4 * m) k = true ∧ ∀ m', m' < m → free S (P0 Y) od (od k) (4 * m') k = false) ∧ (mx = nI (maxN (fun u => if bfP S (lv S) wd i u = true then P0 Y u + N S 1 u else 0) (N S 6 0))) ∧ (∀ t, t < N S 6 0 → Y 7 t = (if lv S t = true then 1 else 0) ∧ (lv S t = true → Y 8 t = bgn S t ∧ Y 9 t = edn S t))
theorem LO.na {S : sM} {Y : Nat → Nat → Int32} {od : Nat → Nat} {nA : Nat} {mx : Int32} {wd : Nat} {i : Nat} (h : LO S Y od nA mx wd i) : nA = bf S (lv S) wd i := h.1
theorem LO.p1 {S : sM} {Y : Nat → Nat → Int32} {od : Nat → Nat} {nA : Nat} {mx : Int32} {wd : Nat} {i : Nat} (h : LO S Y od nA mx wd i) : ∀ t, t < N S 6 0 → bfP S (lv S) wd i t = true → bf S (lv S) (N S 1 t) t < nA ∧ od (bf S (lv S) (N S 1 t) t) = t := h.2.1
theorem LO.p2 {S : sM} {Y : Nat → Nat → Int32} {od : Nat → Nat} {nA : Nat} {mx : Int32} {wd : Nat} {i : Nat} (h : LO S Y od nA mx wd i) : ∀ k, k < nA → od k < N S 6 0 ∧ bfP S (lv S) wd i (od k) = true ∧ bf S (lv S) (N S 1 (od k)) (od k) = k := h.2.2.1
theorem LO.sm {S : sM} {Y : Nat → Nat → Int32} {od : Nat → Nat} {nA : Nat} {mx : Int32} {wd : Nat} {i : Nat} (h : LO S Y od nA mx wd i) : sumN (fun k => N S 1 (od k)) nA = sumN (fun u => if bfP S (lv S) wd i u = true then N S 1 u else 0) (N S 6 0) := h.2.2.2.1
theorem LO.pl {S : sM} {Y : Nat → Nat → Int32} {od : Nat → Nat} {nA : Nat} {mx : Int32} {wd : Nat} {i : Nat} (h : LO S Y od nA mx wd i) : ∀ k, k < nA → Y 10 (od k) = nI (P0 Y (od k)) ∧ P0 Y (od k) ≤ 16 * k ∧ ∃ m, P0 Y (od k) = 4 * m ∧ free S (P0 Y) od (od k) (4 * m) k = true ∧ ∀ m', m' < m → free S (P0 Y) od (od k) (4 * m') k = false := h.2.2.2.2.1
theorem LO.mxx {S : sM} {Y : Nat → Nat → Int32} {od : Nat → Nat} {nA : Nat} {mx : Int32} {wd : Nat} {i : Nat} (h : LO S Y od nA mx wd i) : mx = nI (maxN (fun u => if bfP S (lv S) wd i u = true then P0 Y u + N S 1 u else 0) (N S 6 0)) := h.2.2.2.2.2.1
theorem LO.yy {S : sM} {Y : Nat → Nat → Int32} {od : Nat → Nat} {nA : Nat} {mx : Int32} {wd : Nat} {i : Nat} (h : LO S Y od nA mx wd i) : ∀ t, t < N S 6 0 → Y 7 t = (if lv S t = true then 1 else 0) ∧ (lv S t = true → Y 8 t = bgn S t ∧ Y 9 t = edn S t) := h.2.2.2.2.2.2
section LAY
variable {S : sM} {Y : Nat → Nat → Int32} {od : Nat → Nat} {nA : Nat} {mx : Int32} {wd i : Nat}
theorem LO.cong (h : LO S Y od nA mx wd i) {wd' i' : Nat} (hb : ∀ u, u < N S 6 0 → bfP S (lv S) wd' i' u = bfP S (lv S) wd i u) : LO S Y od nA mx wd' i' := by
  refine ⟨?_, fun t ht q => h.p1 t ht (by rw [← hb t ht]; exact q), fun k hk => ?_, ?_, h.pl, ?_, h.yy⟩
  · rw [h.na]
    unfold bf
    exact (cnt_cong hb).symm
  · obtain ⟨a1, a2, a3⟩ := h.p2 k hk
    exact ⟨a1, by rw [hb _ a1]; exact a2, a3⟩
  · rw [h.sm]
    exact (sumN_cong (fun u hu => by rw [hb u hu])).symm
  · rw [h.mxx]
    congr 1
    exact (maxN_cong (fun u hu => by rw [hb u hu])).symm
theorem bfP_lv {u : Nat} (h : bfP S (lv S) wd i u = true) : lv S u = true := by
  unfold bfP at h
  simp at h
  exact h.1
theorem LO.a20 (h : LO S Y od nA mx wd i) (hS : OKS S) : nA ≤ 20 := by
  have h20 := hS.t20
  have := cnt_le (bfP S (lv S) wd i) (N S 6 0)
  have e := h.na
  unfold bf at e
  omega
theorem LO.put (h : LO S Y od nA mx wd i) (hS : OKS S) (hi : i < N S 6 0) (hv : lv S i = true) (hw : N S 1 i = wd) {m : Nat} (hm : 4 * m ≤ 16 * nA) (hf : free S (P0 Y) od i (4 * m) nA = true) (hl : ∀ m', m' < m → free S (P0 Y) od i (4 * m') nA = false) : LO S (upY Y 10 i (nI (4 * m))) (va_up od nA i) (nA + 1) (nI (max (maxN (fun u => if bfP S (lv S) wd i u = true then P0 Y u + N S 1 u else 0) (N S 6 0)) (4 * m + N S 1 i))) wd (i + 1) := by
  have h20 := h.a20 hS
  have q0 : bfP S (lv S) wd i i = false := by unfold bfP; simp [hw]
  have q1 : bfP S (lv S) wd (i + 1) i = true := by unfold bfP; simp [hv, hw]
  have qn : ∀ u, u ≠ i → bfP S (lv S) wd (i + 1) u = bfP S (lv S) wd i u := by
    intro u hu
    unfold bfP
    have : decide (u < i + 1) = decide (u < i) := decide_eq_decide.mpr (by omega)
    rw [this]
  have hne : ∀ k, k < nA → od k ≠ i := by
    intro k hk q
    have := (h.p2 k hk).2.1
    rw [q, q0] at this
    cases this
  have odk : ∀ k, k < nA → va_up od nA i k = od k := fun k hk => va_up_ne _ _ (by omega)
  have Pn : ∀ u, u ≠ i → P0 (upY Y 10 i (nI (4 * m))) u = P0 Y u := fun u hu => by unfold P0; rw [upY_n _ _ (Or.inr hu)]
  have Pi : P0 (upY Y 10 i (nI (4 * m))) i = 4 * m := by unfold P0; rw [upY_s, nI_clamp (by omega)]
  have fc : ∀ t g k, k ≤ nA → free S (P0 (upY Y 10 i (nI (4 * m)))) (va_up od nA i) t g k = free S (P0 Y) od t g k := fun t g k hk => free_cong (fun q hq => ⟨odk q (by omega), Pn _ (hne q (by omega))⟩)
  refine ⟨?_, fun t ht q => ?_, fun k hk => ?_, ?_, fun k hk => ?_, ?_, fun t ht => ?_⟩
  · rw [h.na]
    exact (cnt_add qn q0 q1 hi).symm
  · by_cases c : t = i
    · subst c
      rw [hw, ← h.na, va_up_self]
      exact ⟨by omega, rfl⟩
    · rw [qn t c] at q
      obtain ⟨a1, a2⟩ := h.p1 t ht q
      rw [odk _ a1]
      exact ⟨by omega, a2⟩
  · by_cases c : k = nA
    · rw [c, va_up_self, hw]
      exact ⟨hi, q1, h.na.symm⟩
    · have hk' : k < nA := by omega
      obtain ⟨a1, a2, a3⟩ := h.p2 k hk'
      rw [odk k hk', qn _ (hne k hk')]
      exact ⟨a1, a2, a3⟩
  · have e1 : sumN (fun k => N S 1 (va_up od nA i k)) (nA + 1) = sumN (fun k => N S 1 (od k)) nA + N S 1 i := by
      show sumN (fun k => N S 1 (va_up od nA i k)) nA + N S 1 (va_up od nA i nA) = _
      rw [va_up_self, sumN_cong (f := fun k => N S 1 (od k)) (fun u hu => by rw [odk u hu])]
    have e2 := sumN_add (f := fun u => if bfP S (lv S) wd i u = true then N S 1 u else 0) (f' := fun u => if bfP S (lv S) wd (i + 1) u = true then N S 1 u else 0) (i := i) (fun u hu => by rw [qn u hu]) (by show (if bfP S (lv S) wd i i = true then N S 1 i else 0) = 0; rw [q0, if_neg Bool.false_ne_true]) hi
    rw [e1, e2, h.sm]
    show _ = _ + (if bfP S (lv S) wd (i + 1) i = true then N S 1 i else 0)
    rw [q1, if_pos rfl]
  · by_cases c : k = nA
    · rw [c, va_up_self, upY_s, Pi]
      exact ⟨rfl, hm, m, rfl, by rw [fc _ _ _ (Nat.le_refl _)]; exact hf, fun m' hm' => by rw [fc _ _ _ (Nat.le_refl _)]; exact hl m' hm'⟩
    · have hk' : k < nA := by omega
      obtain ⟨a1, a2, m0, a3, a4, a5⟩ := h.pl k hk'
      rw [odk k hk', upY_n _ _ (Or.inr (hne k hk')), Pn _ (hne k hk')]
      exact ⟨a1, a2, m0, a3, by rw [fc _ _ _ (by omega)]; exact a4, fun m' hm' => by rw [fc _ _ _ (by omega)]; exact a5 m' hm'⟩
  · congr 1
    have e2 := maxN_add (f := fun u => if bfP S (lv S) wd i u = true then P0 Y u + N S 1 u else 0) (f' := fun u => if bfP S (lv S) wd (i + 1) u = true then P0 (upY Y 10 i (nI (4 * m))) u + N S 1 u else 0) (i := i) (fun u hu => by rw [qn u hu, Pn u hu]) (by show (if bfP S (lv S) wd i i = true then _ else 0) = 0; rw [q0, if_neg Bool.false_ne_true]) hi
    rw [e2]
    show _ = max _ (if bfP S (lv S) wd (i + 1) i = true then _ else 0)
    rw [q1, if_pos rfl, Pi]
  · rw [upY_n _ _ (by omega), upY_n _ _ (by omega), upY_n _ _ (by omega)]
    exact h.yy t ht
/-- a place is found in time -/
theorem LO.place (h : LO S Y od nA mx wd i) (hS : OKS S) (t : Nat) : ∃ m, 4 * m ≤ 16 * nA ∧ free S (P0 Y) od t (4 * m) nA = true ∧ ∀ m', m' < m → free S (P0 Y) od t (4 * m') nA = false := by
  have hx : free S (P0 Y) od t (4 * (4 * nA)) nA = true := by
    refine free_all (fun q hq => ?_)
    obtain ⟨a1, a2, -⟩ := h.pl q hq
    obtain ⟨b1, b2, -⟩ := h.p2 q hq
    have hl := bfP_lv b2
    have k0 : N S 0 (od q) ≠ 0 := by
      intro z
      unfold lv at hl
      simp [z] at hl
    have := hS.ln16 _ b1 k0
    unfold clash
    rw [decide_eq_false (by omega)]
    rfl
  obtain ⟨m, m1, m2⟩ := pk_least (fun m => free S (P0 Y) od t (4 * m) nA = true) ⟨_, hx⟩
  refine ⟨m, ?_, m1, fun m' hm' => Bool.eq_false_iff.mpr (m2 m' hm')⟩
  by_cases c : 4 * nA < m
  · exact absurd hx (m2 _ c)
  · omega
end LAY
section LAYC
variable {w : cW} {S : sM} {X : Nat → Nat → Nat} {cd : Nat → Nat × Nat} {el : Nat → Nat} {tl : Nat → Nat} {Y : Nat → Nat → Int32} {V : Nat → Nat → Nat → Int32} {od : Nat → Nat} {nA : Nat} {mx : Int32} {wd i : Nat}
theorem RC.meets (h : RC w S X cd el tl Y V od nA mx) {t u : Nat} (ht : t < N S 6 0) (hu : u < N S 6 0) : fT_meets (X 4 t) (X 4 u) w = some (if Y 9 u < Y 8 t ∨ Y 9 t < Y 8 u then 0 else 1, w) := by
  unfold fT_meets
  rw [ob_of (h.t8 ht), ob_of (h.t9 hu)]
  by_cases c : Y 9 u < Y 8 t
  · rw [if_pos c, if_pos (Or.inl c)]
  · rw [if_neg c, ob_of (h.t8 hu), ob_of (h.t9 ht)]
    by_cases d : Y 9 t < Y 8 u
    · rw [if_pos d, if_pos (Or.inr d)]
    · rw [if_neg d, if_neg (fun q => q.elim c d)]
theorem RC.isFree_loop (h : RC w S X cd el tl Y V od nA mx) (hS : OKS S) (hL : LO S Y od nA mx wd i) {t g : Nat} (ht : t < N S 6 0) (hv : lv S t = true) (hg : g ≤ 320) : ∀ e k fu, k + e = nA → e < fu → (∀ q, q < k → clash S (P0 Y) t g (od q) = false) → fA_isFree_l2 (X 1 0) fu (some (X 4 t)) (nI g) (nI k) w = some (if free S (P0 Y) od t g nA = true then 1 else 0, w) := by
  have hA := hL.a20 hS
  intro e
  induction e with
  | zero =>
    intro k fu h1 h2 h3
    obtain ⟨fu, rfl⟩ : ∃ k, fu = k + 1 := ⟨fu - 1, by omega⟩
    rw [fA_isFree_l2_s]
    unfold fA_isFree_b2
    rw [ob_of h.q10, ob_of h.l2, cbd_of h.z2, if_pos (nI_le (by omega) (by omega)), if_pos (free_all (fun q hq => h3 q (by omega)))]
  | succ e ih =>
    intro k fu h1 h2 h3
    obtain ⟨fu, rfl⟩ : ∃ k, fu = k + 1 := ⟨fu - 1, by omega⟩
    have hk : k < nA := by omega
    obtain ⟨a1, a2, -⟩ := hL.pl k hk
    obtain ⟨b1, b2, -⟩ := hL.p2 k hk
    have hl := bfP_lv b2
    obtain ⟨-, y1⟩ := hL.yy _ b1
    obtain ⟨-, y2⟩ := hL.yy t ht
    have lt64 := hS.ln64 t ht
    have lu64 := hS.ln64 _ b1
    have nx : clash S (P0 Y) t g (od k) = false → fA_isFree_l2 (X 1 0) fu (some (X 4 t)) (nI g) (nI (k + 1)) w = some (if free S (P0 Y) od t g nA = true then 1 else 0, w) := fun hc => ih (k + 1) fu (by omega) (by omega) (fun q hq => by
      by_cases z : q = k
      · rw [z]; exact hc
      · exact h3 q (by omega))
    rw [fA_isFree_l2_s]
    unfold fA_isFree_b2 fA_isFree_b60
    rw [ob_of h.q10, ob_of h.l2, cbd_of h.z2, if_neg (nI_ge hk (by omega)), ob_of h.q10, ob_of h.l2, cbd_of (h.g2 hk), ob_of (h.c4 b1), ob_of (h.t2 ht), ob_of (h.t10 b1), a1, hS.e1, nI_add]
    by_cases c1 : g + N S 1 t ≤ P0 Y (od k)
    · rw [if_pos (nI_le c1 (by omega)), if_neg i10, bnd_eq, nI_1]
      refine nx ?_
      unfold clash
      rw [decide_eq_false (show ¬ P0 Y (od k) < g + N S 1 t by omega)]
      simp
    · rw [if_neg (nI_ge (by omega) (by omega)), ob_of (h.t10 b1), ob_of (h.t2 b1), a1, hS.e1, nI_add]
      by_cases c2 : g < P0 Y (od k) + N S 1 (od k)
      · rw [if_pos (nI_lt c2 (by omega)), if_pos rfl, ob_some, ob_of (h.r4 ht), cbd_of (h.meets ht b1), (y1 hl).1, (y1 hl).2, (y2 hv).1, (y2 hv).2]
        by_cases c3 : edn S (od k) < bgn S t ∨ edn S t < bgn S (od k)
        · rw [if_pos c3, if_pos rfl, bnd_eq, nI_1]
          refine nx ?_
          unfold clash
          rcases c3 with z | z
          · simp [z]
          · simp [z]
        · have hc : clash S (P0 Y) t g (od k) = true := by
            unfold clash
            rw [decide_eq_true c2, decide_eq_true (show P0 Y (od k) < g + N S 1 t by omega), decide_eq_false (fun z => c3 (Or.inl z)), decide_eq_false (fun z => c3 (Or.inr z))]
            rfl
          rw [if_neg c3, if_neg i10, free_not hc hk]
          rfl
      · rw [if_neg (nI_nlt (by omega) (by omega)), if_neg i10, bnd_eq, nI_1]
        refine nx ?_
        unfold clash
        rw [decide_eq_false c2]
        rfl
theorem RC.least_loop (h : RC w S X cd el tl Y V od nA mx) (hS : OKS S) (hL : LO S Y od nA mx wd i) {t m : Nat} (ht : t < N S 6 0) (hv : lv S t = true) (hm : 4 * m < 320) (hf : free S (P0 Y) od t (4 * m) nA = true) (hl : ∀ m', m' < m → free S (P0 Y) od t (4 * m') nA = false) : ∀ e k fu, k + e = m → e < fu → fA_leastPlace_l2 (X 1 0) fu (some (X 4 t)) (nI (4 * k)) w = some (nI (4 * m), w) := by
  have hA := hL.a20 hS
  intro e
  induction e with
  | zero =>
    intro k fu h1 h2
    obtain ⟨fu, rfl⟩ : ∃ k, fu = k + 1 := ⟨fu - 1, by omega⟩
    have e : k = m := by omega
    subst e
    have s1 : fA_isFree (X 1 0) (X 4 t) (nI (4 * k)) w = _ := h.isFree_loop hS hL ht hv (g := 4 * k) (by omega) nA 0 FU (by omega) (by unfold FU; omega) (fun q hq => absurd hq (Nat.not_lt_zero q))
    rw [fA_leastPlace_l2_s]
    unfold fA_leastPlace_b2
    rw [if_neg (show ¬ (320 : Int32) ≤ nI (4 * k) from (nI_ge hm (by omega) : ¬ nI 320 ≤ nI (4 * k))), ob_some, ob_of h.r1, cbd_of s1, hf, if_pos rfl, if_neg i10]
  | succ e ih =>
    intro k fu h1 h2
    obtain ⟨fu, rfl⟩ : ∃ k, fu = k + 1 := ⟨fu - 1, by omega⟩
    have hi := ih (k + 1) fu (by omega) (by omega)
    have s1 : fA_isFree (X 1 0) (X 4 t) (nI (4 * k)) w = _ := h.isFree_loop hS hL ht hv (g := 4 * k) (by omega) nA 0 FU (by omega) (by unfold FU; omega) (fun q hq => absurd hq (Nat.not_lt_zero q))
    rw [fA_leastPlace_l2_s]
    unfold fA_leastPlace_b2
    rw [if_neg (show ¬ (320 : Int32) ≤ nI (4 * k) from (nI_ge (by omega) (by omega) : ¬ nI 320 ≤ nI (4 * k))), ob_some, ob_of h.r1, cbd_of s1, hl k (by omega), if_neg Bool.false_ne_true, if_pos rfl, bnd_eq, show nI (4 * k) + 4 = nI (4 * (k + 1)) from (nI_add (4 * k) 4)]
    exact hi
theorem RC.putA (h : RC w S X cd el tl Y V od nA mx) (hS : OKS S) (hL : LO S Y od nA mx wd i) (hi : i < N S 6 0) (hv : lv S i = true) (hw : N S 1 i = wd) : nA < 20 ∧ ∃ w' Y' mx' el' tl' cd', fA_put (X 1 0) (X 4 i) w = some ((), w') ∧ RC w' S X cd' el' tl' Y' V (va_up od nA i) (nA + 1) mx' ∧ LO S Y' (va_up od nA i) (nA + 1) mx' wd (i + 1) := by
  have h20 := hS.t20
  have hA : nA < 20 := by
    have e := hL.na
    have : bf S (lv S) wd i < N S 6 0 := cnt_lt hi (by unfold bfP; simp [hw])
    omega
  have l64 := hS.ln64 i hi
  obtain ⟨m, m1, m2, m3⟩ := hL.place hS i
  obtain ⟨M, hM⟩ : ∃ M, M = maxN (fun u => if bfP S (lv S) wd i u = true then P0 Y u + N S 1 u else 0) (N S 6 0) := ⟨_, rfl⟩
  have hMx : mx = nI M := by rw [hM]; exact hL.mxx
  have hMb : M ≤ 400 := by
    rw [hM]
    refine maxN_le _ _ _ (fun u hu => ?_)
    split
    · rename_i c
      obtain ⟨a1, a2⟩ := hL.p1 u hu c
      obtain ⟨-, b2, -⟩ := hL.pl _ a1
      rw [a2] at b2
      have := hS.ln64 u hu
      omega
    · omega
  have s1 : fA_leastPlace (X 1 0) (X 4 i) w = some (nI (4 * m), w) := h.least_loop hS hL hi hv (by omega) m2 m3 m 0 FU (by omega) (by unfold FU; omega)
  obtain ⟨w1, a1, a2, -⟩ := h.pY (k := 10) hi (by omega) (nI (4 * m))
  have t10 := a2.t10 hi
  rw [upY_s] at t10
  obtain ⟨mx', hmx'⟩ : ∃ x, x = nI (max M (4 * m + N S 1 i)) := ⟨_, rfl⟩
  have emx : (if mx < nI (4 * m) + nI (N S 1 i) then nI (4 * m) + nI (N S 1 i) else mx) = mx' := by
    rw [hMx, nI_add, hmx']
    by_cases c : M < 4 * m + N S 1 i
    · rw [if_pos (nI_lt c (by omega)), Nat.max_eq_right (by omega)]
    · rw [if_neg (nI_nlt (by omega) (by omega)), Nat.max_eq_left (by omega)]
  have b2 := a2.setM mx'
  have b1 : pI w1 (some (X 1 0)) 1 1 mx' = some (va_up w1.1 (X 1 0) (some (.inr (1, [vq (X 7 2), .int mx']))), w1.2) := pI_in a2.arn (Nat.le_of_ble_eq_true rfl)
  obtain ⟨w', el', tl', cd', c1, c2, -⟩ := b2.addA hS hi (by omega)
  refine ⟨hA, w', _, mx', el', tl', cd', ?_, c2, ?_⟩
  · unfold fA_put
    rw [ob_of h.r1, cbd_of s1, ob_of a1, ob_of a2.i11, ob_of t10, ob_of (a2.t2 hi), hS.e1, emx, ob_of b1, ob_of b2.q10, ob_of b2.l2, cbd_of c1]
  · rw [hmx', hM]
    exact hL.put hS hi hv hw m1 m2 m3
end LAYC
section LAYL
variable {S : sM} {X : Nat → Nat → Nat} {V : Nat → Nat → Nat → Int32}
theorem lay_in (hS : OKS S) {wd : Nat} (hwd : wd < 16) (rec15 : (Option Nat) → Int32 → Nat → cW → Option (Unit × cW)) : ∀ e i fu (w : cW) (cd : Nat → Nat × Nat) (el tl : Nat → Nat) (Y : Nat → Nat → Int32) (od : Nat → Nat) (nA : Nat) (mx : Int32), RC w S X cd el tl Y V od nA mx → LO S Y od nA mx (wd + 1) i → i + e = N S 6 0 → e < fu → ∃ w' cd' el' tl' Y' od' nA' mx', fA_layOut_l22 (X 1 0) rec15 fu (some (X 7 0)) (nI (wd + 1)) (nI i) nA w = rec15 (some (X 7 0)) (nI wd) nA' w' ∧ RC w' S X cd' el' tl' Y' V od' nA' mx' ∧ LO S Y' od' nA' mx' (wd + 1) (N S 6 0) := by
  have h20 := hS.t20
  intro e
  induction e with
  | zero =>
    intro i fu w cd el tl Y od nA mx h hL h1 h2
    obtain ⟨fu, rfl⟩ : ∃ k, fu = k + 1 := ⟨fu - 1, by omega⟩
    have hA := hL.a20 hS
    have e : i = N S 6 0 := by omega
    refine ⟨w, cd, el, tl, Y, od, nA, mx, ?_, h, by rw [← e]; exact hL⟩
    rw [fA_layOut_l22_s]
    unfold fA_layOut_b22
    rw [if_pos (by omega), ob_of h.l0, cbd_of h.z0, if_pos (nI_le (by omega) (by omega)), bnd_eq, pk_m1]
  | succ e ih =>
    intro i fu w cd el tl Y od nA mx h hL h1 h2
    obtain ⟨fu, rfl⟩ : ∃ k, fu = k + 1 := ⟨fu - 1, by omega⟩
    have hA := hL.a20 hS
    have hi : i < N S 6 0 := by omega
    have y7 := (hL.yy i hi).1
    rw [fA_layOut_l22_s]
    unfold fA_layOut_b22
    rw [if_pos (show nA < 21 by omega), ob_of h.l0, cbd_of h.z0, if_neg (nI_ge hi (by omega)), if_pos (show nA < 21 by omega), ob_of h.l0, cbd_of (h.g0 hi), ob_of (h.c4 hi), ob_of (h.t7 hi), y7]
    have skip : ¬ (lv S i = true ∧ N S 1 i = wd + 1) → LO S Y od nA mx (wd + 1) (i + 1) := by
      intro hn
      refine hL.cong (fun u hu => ?_)
      unfold bfP
      by_cases c : u = i
      · subst c
        cases hv : lv S u
        · rfl
        · have : ¬ N S 1 u = wd + 1 := fun z => hn ⟨hv, z⟩
          simp [this]
      · have : decide (u < i + 1) = decide (u < i) := decide_eq_decide.mpr (by omega)
        rw [this]
    cases hv : lv S i
    · rw [if_neg Bool.false_ne_true, if_pos rfl, bnd_eq, nI_1]
      exact ih (i + 1) fu w cd el tl Y od nA mx h (skip (fun z => by rw [hv] at z; exact absurd z.1 Bool.false_ne_true)) (by omega) (by omega)
    · rw [if_pos rfl, if_neg i10, ob_of (h.t2 hi), hS.e1]
      by_cases hw : N S 1 i = wd + 1
      · obtain ⟨g1, w1, Y1, mx1, el1, tl1, cd1, g2, g3, g4⟩ := h.putA hS hL hi hv hw
        rw [if_pos (by rw [hw]), ob_some, if_pos g1, ob_of h.r1, cbd_of g2, bnd_eq, nI_1]
        exact ih (i + 1) fu w1 cd1 el1 tl1 Y1 _ (nA + 1) mx1 g3 g4 (by omega) (by omega)
      · rw [if_neg (fun q => hw ((nI_eq (N_lt _ _ _) (by omega)).mp q)), bnd_eq, nI_1]
        exact ih (i + 1) fu w cd el tl Y od nA mx h (skip (fun z => hw z.2)) (by omega) (by omega)
theorem lay_out (hS : OKS S) : ∀ wd fu (w : cW) (cd : Nat → Nat × Nat) (el tl : Nat → Nat) (Y : Nat → Nat → Int32) (od : Nat → Nat) (nA : Nat) (mx : Int32), RC w S X cd el tl Y V od nA mx → LO S Y od nA mx wd 0 → wd ≤ 16 → wd < fu → ∃ w' cd' el' tl' Y' od' nA' mx', fA_layOut_l15 (X 1 0) fu (some (X 7 0)) (nI wd) nA w = some ((), w') ∧ RC w' S X cd' el' tl' Y' V od' nA' mx' ∧ LO S Y' od' nA' mx' 0 0 := by
  have h20 := hS.t20
  intro wd
  induction wd with
  | zero =>
    intro fu w cd el tl Y od nA mx h hL h1 h2
    obtain ⟨fu, rfl⟩ : ∃ k, fu = k + 1 := ⟨fu - 1, by omega⟩
    have hA := hL.a20 hS
    refine ⟨w, cd, el, tl, Y, od, nA, mx, ?_, h, hL⟩
    rw [fA_layOut_l15_s]
    unfold fA_layOut_b15
    rw [if_pos (by decide), if_pos (by omega)]
  | succ wd ih =>
    intro fu w cd el tl Y od nA mx h hL h1 h2
    obtain ⟨fu, rfl⟩ : ∃ k, fu = k + 1 := ⟨fu - 1, by omega⟩
    obtain ⟨w1, cd1, el1, tl1, Y1, od1, nA1, mx1, a1, a2, a3⟩ := lay_in hS (wd := wd) (by omega) (fA_layOut_l15 (X 1 0) fu) (N S 6 0) 0 FU w cd el tl Y od nA mx h hL (by omega) (by unfold FU; omega)
    have a4 : LO S Y1 od1 nA1 mx1 wd 0 := by
      refine a3.cong (fun u hu => ?_)
      unfold bfP
      cases lv S u
      · rfl
      · by_cases c1 : wd < N S 1 u
        · have d1 : decide (wd < N S 1 u) = true := decide_eq_true c1
          rw [d1]
          by_cases c2 : wd + 1 < N S 1 u
          · simp [c2]
          · have : N S 1 u = wd + 1 := by omega
            simp [this, hu]
        · have c2 : ¬ wd + 1 < N S 1 u := by omega
          have c3 : ¬ N S 1 u = wd + 1 := by omega
          simp [c1, c2, c3]
    obtain ⟨w', cd', el', tl', Y', od', nA', mx', b1, b2, b3⟩ := ih fu w1 cd1 el1 tl1 Y1 od1 nA1 mx1 a2 a4 (by omega) (by omega)
    refine ⟨w', cd', el', tl', Y', od', nA', mx', ?_, b2, b3⟩
    rw [fA_layOut_l15_s]
    unfold fA_layOut_b15
    rw [if_neg (show ¬ nI (wd + 1) < 1 from (nI_nlt (by omega) (by omega) : ¬ nI (wd + 1) < nI 1))]
    exact a1.trans b1
theorem layAll {w : cW} {S : sM} {X : Nat → Nat → Nat} {cd : Nat → Nat × Nat} {el : Nat → Nat} {tl : Nat → Nat} {Y : Nat → Nat → Int32} {V : Nat → Nat → Nat → Int32} {od : Nat → Nat} {nA : Nat} {mx : Int32} (h : RC w S X cd el tl Y V od nA mx) (hS : OKS S) (hy : ∀ t, t < N S 6 0 → Y 7 t = (if lv S t = true then 1 else 0) ∧ (lv S t = true → Y 8 t = bgn S t ∧ Y 9 t = edn S t)) : ∃ w' cd' el' tl' Y' od' nA' mx', fA_layOut (X 1 0) (X 7 0) w = some ((), w') ∧ RC w' S X cd' el' tl' Y' V od' nA' mx' ∧ LO S Y' od' nA' mx' 0 0 := by
  obtain ⟨w1, a1, a2⟩ := h.clearA
  have a3 := a2 od
  have b2 := a3.setM 0
  have b1 : pI w1 (some (X 1 0)) 1 1 0 = some (va_up w1.1 (X 1 0) (some (.inr (1, [vq (X 7 2), .int 0]))), w1.2) := pI_in a3.arn (Nat.le_of_ble_eq_true rfl)
  have no : ∀ u, u < N S 6 0 → bfP S (lv S) 16 0 u = false := by
    intro u hu
    unfold bfP
    cases hv : lv S u
    · rfl
    · have k0 : N S 0 u ≠ 0 := by
        intro z
        unfold lv at hv
        simp [z] at hv
      have := hS.ln16 u hu k0
      simp
      omega
  have hL : LO S Y od 0 0 16 0 := by
    refine ⟨?_, fun t ht q => ?_, fun k hk => absurd hk (Nat.not_lt_zero k), ?_, fun k hk => absurd hk (Nat.not_lt_zero k), ?_, hy⟩
    · unfold bf
      rw [cnt_cong (p := fun _ => false) no]
      exact (Nat.le_zero.mp (by
        have : ∀ n, cnt (fun _ => false) n = 0 := by
          intro n
          induction n with
          | zero => rfl
          | succ n ih => unfold cnt; rw [ih]; rfl
        rw [this]
        exact Nat.le_refl _)).symm
    · rw [no t ht] at q
      cases q
    · exact ((sumN_cong (f := fun _ => 0) (f' := fun u => if bfP S (lv S) 16 0 u = true then N S 1 u else 0) (n := N S 6 0) (fun u hu => by rw [no u hu, if_neg Bool.false_ne_true])).trans (sumN_0 _ (fun _ => rfl) _)).symm
    · rw [maxN_cong (f := fun _ => 0) (fun u hu => by rw [no u hu, if_neg Bool.false_ne_true]), maxN_0 _ (fun _ => rfl)]
      rfl
  obtain ⟨w', cd', el', tl', Y', od', nA', mx', c1, c2, c3⟩ := lay_out hS 16 FU _ cd el tl Y od 0 0 b2 hL (by omega) (by unfold FU; omega)
  refine ⟨w', cd', el', tl', Y', od', nA', mx', ?_, c2, c3⟩
  unfold fA_layOut
  rw [ob_of h.q10, ob_of h.l2, cbd_of a1, ob_of b1]
  exact c1
end LAYL
