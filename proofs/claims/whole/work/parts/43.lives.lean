/-! prepare: THE FIRST FAULT, AND LIVES -/
theorem flt_in (S : sM) (o : Nat) : flt S o = 0 ∨ flt S o = 1 ∨ flt S o = 2 ∨ flt S o = 3 := by
  unfold flt
  split
  · split
    · exact Or.inr (Or.inr (Or.inl rfl))
    · split
      · exact Or.inl rfl
      · exact Or.inr (Or.inr (Or.inr rfl))
  · exact Or.inr (Or.inl rfl)
theorem fault_ne : ∀ o, o < 14 → ¬ (-10 : Int32) * (nI o + 1) - 1 = 0 ∧ ¬ (-10 : Int32) * (nI o + 1) - 2 = 0 ∧ ¬ (-10 : Int32) * (nI o + 1) - 3 = 0 := by decide +kernel
section FAULT
variable {w : cW} {S : sM} {X : Nat → Nat → Nat} {cd : Nat → Nat × Nat} {el : Nat → Nat} {tl : Nat → Nat} {Y : Nat → Nat → Int32} {V : Nat → Nat → Nat → Int32} {od : Nat → Nat} {nA : Nat} {mx : Int32}
theorem fault1 (h : RC w S X cd el tl Y V od nA mx) (hS : OKS S) : ∀ d i fu, i + d = N S 14 0 → d < fu → (∀ o, o < i → flt S o = 0) → ((∀ o, o < N S 14 0 → flt S o = 0) ∧ fN_firstFault_l2 (X 0 0) fu (nI i) w = fN_firstFault_l40 (X 0 0) FU 0 w ∧ gM_prepare_l12 fu (nI i) S = gM_prepare_l47 FU 0 S) ∨ ∃ r, r ≠ 0 ∧ fN_firstFault_l2 (X 0 0) fu (nI i) w = some (r, w) ∧ gM_prepare_l12 fu (nI i) S = some (r, S) := by
  have h14 := hS.o14
  intro d
  induction d with
  | zero =>
    intro i fu h1 h2 h3
    obtain ⟨fu, rfl⟩ : ∃ k, fu = k + 1 := ⟨fu - 1, by omega⟩
    refine Or.inl ⟨fun o ho => h3 o (by omega), ?_, ?_⟩
    · rw [fN_firstFault_l2_s]
      unfold fN_firstFault_b2
      rw [ob_of h.q01, ob_of h.l1, cbd_of h.z1, if_pos (nI_le (by omega) (by omega))]
    · rw [gM_prepare_l12_s]
      unfold gM_prepare_b12
      rw [bnd_eq, hS.e14, if_pos (nI_le (by omega) (by omega))]
  | succ d ih =>
    intro i fu h1 h2 h3
    obtain ⟨fu, rfl⟩ : ∃ k, fu = k + 1 := ⟨fu - 1, by omega⟩
    have hi : i < N S 14 0 := by omega
    rw [fN_firstFault_l2_s, gM_prepare_l12_s]
    unfold fN_firstFault_b2 gM_prepare_b12
    rw [ob_of h.q01, ob_of h.l1, cbd_of h.z1, if_neg (nI_ge hi (by omega)), ob_of h.r0, cbd_of (h.faultOf hS hi), bnd_eq (S 14 0), hS.e14, if_neg (nI_ge hi (by omega)), cbd_of (g_fault hS hi)]
    by_cases c : flt S i = 0
    · rw [if_pos c, if_pos (by rw [c]; decide), bnd_eq, bnd_eq, nI_1]
      exact ih (i + 1) fu (by omega) (by omega) (fun o ho => by
        by_cases q : o = i
        · rw [q]; exact c
        · exact h3 o (by omega))
    · have hp : ¬ flt S i ≤ 0 := by
        rcases flt_in S i with q | q | q | q
        · exact absurd q c
        · rw [q]; decide
        · rw [q]; decide
        · rw [q]; decide
      refine Or.inr ⟨(-10 : Int32) * (nI i + 1) - flt S i, ?_, by rw [if_neg c]; rfl, by rw [if_neg hp]; rfl⟩
      have hf := fault_ne i (by omega)
      rcases flt_in S i with q | q | q | q
      · exact absurd q c
      · rw [q]; exact hf.1
      · rw [q]; exact hf.2.1
      · rw [q]; exact hf.2.2
theorem fault2 (h : RC w S X cd el tl Y V od nA mx) (hS : OKS S) : ∀ d i fu, i + d = N S 6 0 → d < fu → (fN_firstFault_l40 (X 0 0) fu (nI i) w = some (0, w) ∧ gM_prepare_l47 fu (nI i) S = gM_prepare_b86 S) ∨ (fN_firstFault_l40 (X 0 0) fu (nI i) w = some (-1000, w) ∧ gM_prepare_l47 fu (nI i) S = some (-1000, S)) := by
  have h14 := hS.o14
  have h20 := hS.t20
  intro d
  induction d with
  | zero =>
    intro i fu h1 h2
    obtain ⟨fu, rfl⟩ : ∃ k, fu = k + 1 := ⟨fu - 1, by omega⟩
    refine Or.inl ⟨?_, ?_⟩
    · rw [fN_firstFault_l40_s]
      unfold fN_firstFault_b40
      rw [ob_of h.q00, ob_of h.l0, cbd_of h.z0, if_pos (nI_le (by omega) (by omega))]
    · rw [gM_prepare_l47_s]
      unfold gM_prepare_b47
      rw [bnd_eq, hS.e6, if_pos (nI_le (by omega) (by omega))]
  | succ d ih =>
    intro i fu h1 h2
    obtain ⟨fu, rfl⟩ : ∃ k, fu = k + 1 := ⟨fu - 1, by omega⟩
    have hi : i < N S 6 0 := by omega
    have hn := ih (i + 1) fu (by omega) (by omega)
    rw [fN_firstFault_l40_s, gM_prepare_l47_s]
    unfold fN_firstFault_b40 gM_prepare_b47
    rw [ob_of h.q00, ob_of h.l0, cbd_of h.z0, if_neg (nI_ge hi (by omega)), ob_of h.q00, ob_of h.l0, cbd_of (h.g0 hi), ob_of (h.c4 hi), ob_of (h.t6 hi), bnd_eq (S 6 0), hS.e6, if_neg (nI_ge hi (by omega)), ob_of (rd20 (show i < 20 by omega) (by omega))]
    by_cases c : S 3 i = 0
    · rw [if_pos c, if_pos c, bnd_eq, bnd_eq, nI_1]
      exact hn
    · rw [if_neg c, if_neg c, ob_of h.q01, ob_of h.l1, cbd_of h.z1, ob_some, ob_of h.r0, cbd_of (h.unmade hS hi (by omega)), bnd_eq (S 14 0), hS.e14, cbd_of (g_unmade hS (by omega) h14)]
      cases cu : unm S i (N S 14 0)
      · rw [if_neg Bool.false_ne_true, if_pos rfl, if_pos rfl, bnd_eq, bnd_eq, nI_1]
        exact hn
      · exact Or.inr ⟨rfl, rfl⟩
end FAULT
/-- t has a life once the first i operators are seen; how it begins -/
def alv (S : sM) (i t : Nat) : Bool := decide (N S 0 t = 1) || (decide (N S 0 t = 2) && decide (mk S t i < i))
def bgi (S : sM) (i t : Nat) : Int32 := if N S 0 t = 1 then -1 else nI (mk S t i)
def LV (S : sM) (Y : Nat → Nat → Int32) (i : Nat) : Prop := ∀ t, t < N S 6 0 → Y 7 t = (if alv S i t = true then 1 else 0) ∧ (alv S i t = true → Y 8 t = bgi S i t ∧ Y 9 t = lu S t (bgi S i t) i)
theorem lu_none {S : sM} {t : Nat} {e : Int32} : ∀ {n : Nat}, (∀ o, o < n → N S 10 o ≠ t ∧ N S 11 o ≠ t) → lu S t e n = e
  | 0, _ => rfl
  | n + 1, h => by
    unfold lu
    have := h n (by omega)
    rw [if_neg (by omega)]
    exact lu_none (fun o ho => h o (by omega))
section LIVES
variable {S : sM} {X : Nat → Nat → Nat} {cd : Nat → Nat × Nat} {el : Nat → Nat} {tl : Nat → Nat} {V : Nat → Nat → Nat → Int32} {od : Nat → Nat} {nA : Nat} {mx : Int32}
theorem RC.pY {w : cW} {Y : Nat → Nat → Int32} (h : RC w S X cd el tl Y V od nA mx) {k t : Nat} (ht : t < N S 6 0) (hk : k = 8 ∨ k = 9 ∨ k = 10) (x : Int32) : ∃ w', pI w (some (X 4 t)) 4 k x = some w' ∧ RC w' S X cd el tl (upY Y k t x) V od nA mx ∧ w'.2 = w.2 := by
  refine ⟨_, pI_in (h.ten t ht) (by show k < 11; omega), ?_, rfl⟩
  exact h.setY ht (by omega) x rfl
theorem RC.pY7 {w : cW} {Y : Nat → Nat → Int32} (h : RC w S X cd el tl Y V od nA mx) {t : Nat} (ht : t < N S 6 0) {x : Int32} (hx : x = 0 ∨ x = 1) : ∃ w', pZ w (some (X 4 t)) 4 7 x = some w' ∧ RC w' S X cd el tl (upY Y 7 t x) V od nA mx ∧ w'.2 = w.2 := by
  refine ⟨_, pZ_in (h.ten t ht) (Nat.le_of_ble_eq_true rfl) hx, ?_, rfl⟩
  exact h.setY ht (by omega) x rfl
theorem RC.beginL {w : cW} {Y : Nat → Nat → Int32} (h : RC w S X cd el tl Y V od nA mx) {t : Nat} (ht : t < N S 6 0) (x : Int32) : ∃ w' Y', fT_beginLife (X 4 t) x w = some ((), w') ∧ RC w' S X cd el tl Y' V od nA mx ∧ Y' 7 t = 1 ∧ Y' 8 t = x ∧ Y' 9 t = x ∧ ∀ k u, u ≠ t → Y' k u = Y k u := by
  obtain ⟨w1, a1, a2, -⟩ := h.pY7 ht (Or.inr rfl)
  obtain ⟨w2, b1, b2, -⟩ := a2.pY (k := 8) ht (by omega) x
  obtain ⟨w3, c1, c2, -⟩ := b2.pY (k := 9) ht (by omega) x
  refine ⟨w3, _, ?_, c2, ?_, ?_, ?_, fun k u hu => ?_⟩
  · unfold fT_beginLife
    rw [ob_of a1, ob_of b1, ob_of c1]
  · rw [upY_n _ _ (by omega), upY_n _ _ (by omega), upY_s]
  · rw [upY_n _ _ (by omega), upY_s]
  · rw [upY_s]
  · rw [upY_n _ _ (Or.inr hu), upY_n _ _ (Or.inr hu), upY_n _ _ (Or.inr hu)]
theorem RC.resetL {w : cW} {Y : Nat → Nat → Int32} (h : RC w S X cd el tl Y V od nA mx) (hS : OKS S) {t : Nat} (ht : t < N S 6 0) : ∃ w' Y', fT_resetLife (X 4 t) w = some ((), w') ∧ RC w' S X cd el tl Y' V od nA mx ∧ Y' 7 t = (if N S 0 t = 1 then 1 else 0) ∧ (N S 0 t = 1 → Y' 8 t = -1 ∧ Y' 9 t = -1) ∧ ∀ k u, u ≠ t → Y' k u = Y k u := by
  obtain ⟨w1, a1, a2, -⟩ := h.pY7 ht (Or.inl rfl)
  unfold fT_resetLife
  rw [ob_of a1, ob_of (a2.t1 ht), hS.e0]
  by_cases c : N S 0 t = 1
  · obtain ⟨w2, Y2, b1, b2, b3, b4, b5, b6⟩ := a2.beginL ht (-1)
    rw [if_pos ((Neq1 S 0 t).mpr c), ob_of (a2.r4 ht), cbd_of b1]
    exact ⟨w2, Y2, rfl, b2, by rw [if_pos c]; exact b3, fun _ => ⟨b4, b5⟩, fun k u hu => by rw [b6 k u hu, upY_n _ _ (Or.inr hu)]⟩
  · rw [if_neg (fun q => c ((Neq1 S 0 t).mp q))]
    exact ⟨w1, _, rfl, a2, by rw [if_neg c, upY_s], fun q => absurd q c, fun k u hu => upY_n _ _ (Or.inr hu)⟩
theorem lives1 (hS : OKS S) : ∀ d i fu (w : cW) (Y : Nat → Nat → Int32), RC w S X cd el tl Y V od nA mx → i + d = N S 6 0 → d < fu → (∀ t, t < i → Y 7 t = (if N S 0 t = 1 then 1 else 0) ∧ (N S 0 t = 1 → Y 8 t = -1 ∧ Y 9 t = -1)) → ∃ w' Y', fN_giveLives_l2 (X 0 0) fu (nI i) w = fN_giveLives_l35 (X 0 0) FU 0 w' ∧ RC w' S X cd el tl Y' V od nA mx ∧ LV S Y' 0 := by
  have h20 := hS.t20
  intro d
  induction d with
  | zero =>
    intro i fu w Y h h1 h2 h3
    obtain ⟨fu, rfl⟩ : ∃ k, fu = k + 1 := ⟨fu - 1, by omega⟩
    refine ⟨w, Y, ?_, h, fun t ht => ?_⟩
    · rw [fN_giveLives_l2_s]
      unfold fN_giveLives_b2
      rw [ob_of h.q00, ob_of h.l0, cbd_of h.z0, if_pos (nI_le (by omega) (by omega))]
    · have := h3 t (by omega)
      unfold alv bgi
      by_cases c : N S 0 t = 1
      · rw [if_pos c] at this
        simp only [c, decide_true, Bool.true_or, if_true]
        exact ⟨this.1, fun _ => this.2 c⟩
      · rw [if_neg c] at this
        simp [c]
        exact this.1
  | succ d ih =>
    intro i fu w Y h h1 h2 h3
    obtain ⟨fu, rfl⟩ : ∃ k, fu = k + 1 := ⟨fu - 1, by omega⟩
    have hi : i < N S 6 0 := by omega
    obtain ⟨w1, Y1, a1, a2, a3, a4, a5⟩ := h.resetL hS hi
    obtain ⟨w', Y', b1, b2, b3⟩ := ih (i + 1) fu w1 Y1 a2 (by omega) (by omega) (fun t ht => by
      by_cases c : t = i
      · rw [c]; exact ⟨a3, a4⟩
      · rw [a5 7 t c, a5 8 t c, a5 9 t c]
        exact h3 t (by omega))
    refine ⟨w', Y', ?_, b2, b3⟩
    rw [fN_giveLives_l2_s]
    unfold fN_giveLives_b2
    rw [ob_of h.q00, ob_of h.l0, cbd_of h.z0, if_neg (nI_ge hi (by omega)), ob_of h.q00, ob_of h.l0, cbd_of (h.g0 hi), ob_of (h.c4 hi), ob_of (h.r4 hi), cbd_of a1, bnd_eq, nI_1]
    exact b1
theorem good_of {o : Nat} (h : flt S o = 0) : (N S 0 (N S 12 o) = 2 ∧ ¬ mk S (N S 12 o) o < o) ∧ (N S 0 (N S 10 o) = 2 → mk S (N S 10 o) o < o) ∧ (N S 0 (N S 11 o) = 2 → mk S (N S 11 o) o < o) := by
  unfold flt at h
  have g1 : N S 0 (N S 12 o) = 2 ∧ ¬ mk S (N S 12 o) o < o := by
    by_cases c : N S 0 (N S 12 o) = 2 ∧ ¬ mk S (N S 12 o) o < o
    · exact c
    · rw [if_neg c] at h
      exact absurd h (by decide)
  rw [if_pos g1] at h
  have g2 : ¬ (unm S (N S 10 o) o = true ∨ unm S (N S 11 o) o = true) := by
    intro c
    rw [if_pos c] at h
    exact absurd h (by decide)
  have src : ∀ t, ¬ unm S t o = true → N S 0 t = 2 → mk S t o < o := by
    intro t hu k2
    by_cases c : mk S t o < o
    · exact c
    · exact absurd (by unfold unm; simp [k2, c]) hu
  exact ⟨g1, src _ (fun q => g2 (Or.inl q)), src _ (fun q => g2 (Or.inr q))⟩
theorem mk_mono {t n m : Nat} (h : mk S t n < n) (hm : n ≤ m) : mk S t m = mk S t n := mk_of (by omega) (mk_yes h) (fun j hj => mk_no hj)
theorem mk_step {t i : Nat} (h : N S 12 i ≠ t) : (mk S t (i + 1) < i + 1 ↔ mk S t i < i) ∧ (mk S t i < i → mk S t (i + 1) = mk S t i) := by
  refine ⟨⟨fun q => ?_, fun q => ?_⟩, fun q => mk_mono q (by omega)⟩
  · have hy := mk_yes q
    have hne : mk S t (i + 1) ≠ i := fun z => h (by rw [← z]; exact hy)
    have hlt : mk S t (i + 1) < i := by omega
    rw [mk_of (n := i) hlt hy (fun j hj => mk_no hj)]
    exact hlt
  · rw [mk_mono q (by omega)]
    omega
theorem lives2 (hS : OKS S) (hg : ∀ o, o < N S 14 0 → flt S o = 0) : ∀ d i fu (w : cW) (Y : Nat → Nat → Int32), RC w S X cd el tl Y V od nA mx → i + d = N S 14 0 → d < fu → LV S Y i → ∃ w' Y', fN_giveLives_l35 (X 0 0) fu (nI i) w = fN_giveLives_l90 (X 0 0) FU 0 w' ∧ RC w' S X cd el tl Y' V od nA mx ∧ LV S Y' (N S 14 0) := by
  have h14 := hS.o14
  intro d
  induction d with
  | zero =>
    intro i fu w Y h h1 h2 h3
    obtain ⟨fu, rfl⟩ : ∃ k, fu = k + 1 := ⟨fu - 1, by omega⟩
    refine ⟨w, Y, ?_, h, ?_⟩
    · rw [fN_giveLives_l35_s]
      unfold fN_giveLives_b35
      rw [ob_of h.q01, ob_of h.l1, cbd_of h.z1, if_pos (nI_le (by omega) (by omega))]
    · have e : i = N S 14 0 := by omega
      rw [← e]
      exact h3
  | succ d ih =>
    intro i fu w Y h h1 h2 h3
    obtain ⟨fu, rfl⟩ : ∃ k, fu = k + 1 := ⟨fu - 1, by omega⟩
    have hi : i < N S 14 0 := by omega
    obtain ⟨k1, k2, k3, k4, k5⟩ := hS.opk i hi
    obtain ⟨⟨g1, g2⟩, g3, g4⟩ := good_of (hg i hi)
    obtain ⟨w1, a1, a2, -⟩ := h.pY (k := 9) k2 (by omega) (nI i)
    obtain ⟨w2, b1, b2, -⟩ := a2.pY (k := 9) k3 (by omega) (nI i)
    obtain ⟨w3, Y3, c1, c2, c3, c4, c5, c6⟩ := b2.beginL k4 (nI i)
    obtain ⟨w', Y', p1, p2, p3⟩ := ih (i + 1) fu w3 Y3 c2 (by omega) (by omega) (fun t ht => by
      by_cases c : t = N S 12 i
      · subst c
        have hm : mk S (N S 12 i) (i + 1) = i := mk_of (by omega) rfl (fun j hj q => by
          have hl := mk_le S (N S 12 i) i
          have : mk S (N S 12 i) i = i := by omega
          exact mk_no (t := N S 12 i) (n := i) (j := j) (by omega) q)
        have ha : alv S (i + 1) (N S 12 i) = true := by unfold alv; simp [g1, hm]
        have hb : bgi S (i + 1) (N S 12 i) = nI i := by
          unfold bgi
          rw [if_neg (by omega), hm]
        have hno : ∀ o, o < i → N S 10 o ≠ N S 12 i ∧ N S 11 o ≠ N S 12 i := by
          intro o ho
          obtain ⟨-, q3, q4⟩ := good_of (hg o (by omega))
          refine ⟨fun q => ?_, fun q => ?_⟩
          · rw [q] at q3
            exact g2 (by rw [mk_mono (q3 g1) (by omega)]; have := q3 g1; omega)
          · rw [q] at q4
            exact g2 (by rw [mk_mono (q4 g1) (by omega)]; have := q4 g1; omega)
        have hlu : lu S (N S 12 i) (nI i) (i + 1) = nI i := by
          unfold lu
          split
          · rfl
          · exact lu_none hno
        rw [if_pos ha, hb, hlu]
        exact ⟨c3, fun _ => ⟨c4, c5⟩⟩
      · have ms := mk_step (S := S) (t := t) (i := i) (fun q => c q.symm)
        have ea : alv S (i + 1) t = alv S i t := by
          unfold alv
          rw [decide_eq_decide.mpr ms.1]
        obtain ⟨l1, l2⟩ := h3 t ht
        have y7 : Y3 7 t = Y 7 t := by rw [c6 7 t c, upY_n _ _ (by omega), upY_n _ _ (by omega)]
        have y8 : Y3 8 t = Y 8 t := by rw [c6 8 t c, upY_n _ _ (by omega), upY_n _ _ (by omega)]
        rw [ea, y7, y8]
        refine ⟨l1, fun hal => ?_⟩
        obtain ⟨l3, l4⟩ := l2 hal
        have eb : bgi S (i + 1) t = bgi S i t := by
          unfold bgi
          by_cases k1' : N S 0 t = 1
          · rw [if_pos k1', if_pos k1']
          · have : mk S t i < i := by
              unfold alv at hal
              simp [k1'] at hal
              exact hal.2
            rw [if_neg k1', if_neg k1', ms.2 this]
        rw [eb]
        refine ⟨l3, ?_⟩
        rw [c6 9 t c]
        unfold lu
        by_cases cb : t = N S 11 i
        · rw [if_pos (Or.inr cb.symm), cb, upY_s]
        · by_cases ca : t = N S 10 i
          · rw [if_pos (Or.inl ca.symm), upY_n _ _ (Or.inr cb), ca, upY_s]
          · rw [if_neg (by omega), upY_n _ _ (Or.inr cb), upY_n _ _ (Or.inr ca)]
            exact l4)
    refine ⟨w', Y', ?_, p2, p3⟩
    rw [fN_giveLives_l35_s]
    unfold fN_giveLives_b35
    rw [ob_of h.q01, ob_of h.l1, cbd_of h.z1, if_neg (nI_ge hi (by omega)), ob_of h.q01, ob_of h.l1, cbd_of (h.g1 hi), ob_of (h.c2 hi), ob_of (h.o1 hi), ob_of a1, ob_of (a2.o2 hi), ob_of b1, ob_of (b2.o3 hi), ob_of (b2.r4 k4), cbd_of c1, bnd_eq, nI_1]
    exact p1
theorem lives3 (hS : OKS S) : ∀ d i fu (w : cW) (Y : Nat → Nat → Int32), RC w S X cd el tl Y V od nA mx → i + d = N S 6 0 → d < fu → (∀ t, t < N S 6 0 → Y 7 t = (if lv S t = true then 1 else 0) ∧ (lv S t = true → Y 8 t = bgn S t ∧ Y 9 t = (if t < i ∧ S 3 t ≠ 0 then nI (N S 14 0) else lu S t (bgn S t) (N S 14 0)))) → ∃ w' Y', fN_giveLives_l90 (X 0 0) fu (nI i) w = some ((), w') ∧ RC w' S X cd el tl Y' V od nA mx ∧ ∀ t, t < N S 6 0 → Y' 7 t = (if lv S t = true then 1 else 0) ∧ (lv S t = true → Y' 8 t = bgn S t ∧ Y' 9 t = edn S t) := by
  have h20 := hS.t20
  intro d
  induction d with
  | zero =>
    intro i fu w Y h h1 h2 h3
    obtain ⟨fu, rfl⟩ : ∃ k, fu = k + 1 := ⟨fu - 1, by omega⟩
    refine ⟨w, Y, ?_, h, fun t ht => ⟨(h3 t ht).1, fun q => ⟨((h3 t ht).2 q).1, ?_⟩⟩⟩
    · rw [fN_giveLives_l90_s]
      unfold fN_giveLives_b90
      rw [ob_of h.q00, ob_of h.l0, cbd_of h.z0, if_pos (nI_le (by omega) (by omega))]
    · rw [((h3 t ht).2 q).2]
      unfold edn
      by_cases c : S 3 t = 0
      · rw [if_neg (fun q => q.2 c), if_pos c]
      · rw [if_pos ⟨by omega, c⟩, if_neg c]
  | succ d ih =>
    intro i fu w Y h h1 h2 h3
    obtain ⟨fu, rfl⟩ : ∃ k, fu = k + 1 := ⟨fu - 1, by omega⟩
    have hi : i < N S 6 0 := by omega
    rw [fN_giveLives_l90_s]
    unfold fN_giveLives_b90
    rw [ob_of h.q00, ob_of h.l0, cbd_of h.z0, if_neg (nI_ge hi (by omega)), ob_of h.q00, ob_of h.l0, cbd_of (h.g0 hi), ob_of (h.c4 hi), ob_of (h.t6 hi)]
    by_cases c : S 3 i = 0
    · rw [if_pos c, bnd_eq, nI_1]
      refine ih (i + 1) fu w Y h (by omega) (by omega) (fun t ht => ⟨(h3 t ht).1, fun q => ⟨((h3 t ht).2 q).1, ?_⟩⟩)
      rw [((h3 t ht).2 q).2]
      by_cases z : t = i
      · subst z
        rw [if_neg (fun q => q.2 c), if_neg (fun q => q.2 c)]
      · by_cases z2 : t < i ∧ S 3 t ≠ 0
        · rw [if_pos z2, if_pos ⟨by omega, z2.2⟩]
        · rw [if_neg z2, if_neg (fun q => z2 ⟨by omega, q.2⟩)]
    · obtain ⟨w1, a1, a2, -⟩ := h.pY (k := 9) hi (by omega) (nI (N S 14 0))
      rw [if_neg c, ob_of h.q01, ob_of h.l1, cbd_of h.z1, ob_of a1, bnd_eq, nI_1]
      refine ih (i + 1) fu w1 _ a2 (by omega) (by omega) (fun t ht => ⟨by rw [upY_n _ _ (by omega)]; exact (h3 t ht).1, fun q => ⟨by rw [upY_n _ _ (by omega)]; exact ((h3 t ht).2 q).1, ?_⟩⟩)
      by_cases z : t = i
      · subst z
        rw [upY_s, if_pos ⟨by omega, c⟩]
      · rw [upY_n _ _ (Or.inr z), ((h3 t ht).2 q).2]
        by_cases z2 : t < i ∧ S 3 t ≠ 0
        · rw [if_pos z2, if_pos ⟨by omega, z2.2⟩]
        · rw [if_neg z2, if_neg (fun q => z2 ⟨by omega, q.2⟩)]
theorem lives {w : cW} {Y : Nat → Nat → Int32} (h : RC w S X cd el tl Y V od nA mx) (hS : OKS S) (hg : ∀ o, o < N S 14 0 → flt S o = 0) : ∃ w' Y', fN_giveLives (X 0 0) w = some ((), w') ∧ RC w' S X cd el tl Y' V od nA mx ∧ ∀ t, t < N S 6 0 → Y' 7 t = (if lv S t = true then 1 else 0) ∧ (lv S t = true → Y' 8 t = bgn S t ∧ Y' 9 t = edn S t) := by
  have h20 := hS.t20
  have h14 := hS.o14
  obtain ⟨w1, Y1, a1, a2, a3⟩ := lives1 hS (N S 6 0) 0 FU w Y h (by omega) (by unfold FU; omega) (fun t ht => absurd ht (Nat.not_lt_zero t))
  obtain ⟨w2, Y2, b1, b2, b3⟩ := lives2 hS hg (N S 14 0) 0 FU w1 Y1 a2 (by omega) (by unfold FU; omega) a3
  obtain ⟨w3, Y3, c1, c2, c3⟩ := lives3 hS (N S 6 0) 0 FU w2 Y2 b2 (by omega) (by unfold FU; omega) (fun t ht => by
    have hb := b3 t ht
    have e1 : alv S (N S 14 0) t = lv S t := rfl
    rw [e1] at hb
    refine ⟨hb.1, fun q => ?_⟩
    have e2 : bgi S (N S 14 0) t = bgn S t := by
      unfold bgi bgn mI
      by_cases k1 : N S 0 t = 1
      · rw [if_pos k1, if_pos k1]
      · have : mk S t (N S 14 0) < N S 14 0 := by
          unfold lv at q
          simp [k1] at q
          exact q.2
        rw [if_neg k1, if_neg k1, if_pos this]
    rw [← e2, if_neg (fun z => absurd z.1 (Nat.not_lt_zero t))]
    exact hb.2 q)
  exact ⟨w3, Y3, a1.trans (b1.trans c1), c2, c3⟩
end LIVES
