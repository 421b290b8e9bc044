/-! THE TWO CONSTRUCTORS: both sides begin with the same state S0 -/
def z0 : sM := fun _ _ => 0
def z1 : sM := sUp z0 18 (upd (z0 18) 0 (-1))
def mult : Nat → Nat → Int32
  | 0 => z1 7
  | n + 1 => upd (mult n) n 1073741824
def S0 : sM := sUp z1 7 (mult 8)
def fldM (i : Nat) : Nat := if i < 6 then i else if i < 13 then i + 1 else i + 3
def invM (j : Nat) : Nat := if j < 6 then j else if j < 14 then j - 1 else j - 3
def tabM (i : Nat) : cE := .inl (kdM (fldM i), lenM (fldM i), .inl (fun _ => 0))
/-- n of the reference's arrays are there -/
def MI (w0 w : cW) (m : Nat) (fs : List Value) (n : Nat) : Prop := w.1 m = some (.inr (5, fs)) ∧ w.2.1 = m + 1 + n ∧ w.2.2 = w0.2.2 ∧ (∀ a, a < m → w.1 a = w0.1 a) ∧ ∀ i, i < n → w.1 (m + 1 + i) = some (tabM i)
theorem MI.step {w0 w : cW} {m n k t l : Nat} {fs : List Value} {i : Int32} (h : MI w0 w m fs n) (hk : k < fs.length) (ht : tabM n = .inl (t, l, .inl (fun _ => 0))) (hl : l ≤ 1300) (hi : i = nI l) : ∃ w', MI w0 w' m (fs.set k (vq (m + 1 + n))) (n + 1) ∧ ∀ F : cW → Option (Unit × cW), ((alI w t i 1300).bind fun w1 => (pQ w1 (some m) 5 k (some w.2.1)).bind F) = F w' := by
  obtain ⟨h1, h2, h3, h4, h5⟩ := h
  subst hi
  obtain ⟨w1, hw1⟩ : ∃ w1 : cW, w1 = alC w (.inl (t, l, .inl (fun _ => 0))) := ⟨_, rfl⟩
  have e1 : alI w t (nI l) 1300 = some w1 := by
    unfold alI
    rw [if_pos ⟨nI_pos (by omega), by rw [nI_clamp (by omega)]; exact hl⟩, nI_clamp (by omega), hw1]
  have c1 : w1.1 m = some (.inr (5, fs)) := by
    rw [hw1]
    show va_up _ _ _ _ = _
    rw [va_up_ne _ _ (by omega)]
    exact h1
  have c2 : ∀ a, a ≠ w.2.1 → w1.1 a = w.1 a := by
    intro a ha
    rw [hw1]
    exact va_up_ne _ _ ha
  have c3 : w1.1 w.2.1 = some (tabM n) := by
    rw [hw1, ht]
    exact va_up_self _ _ _
  refine ⟨wS w1 m (.inr (5, fs.set k (vq (m + 1 + n)))), ⟨wS_s _ _ _, ?_, ?_, fun a ha => ?_, fun i hi => ?_⟩, fun F => ?_⟩
  · rw [hw1]
    show w.2.1 + 1 = _
    omega
  · rw [hw1]
    exact h3
  · rw [wS_n _ _ (by omega), c2 a (by omega)]
    exact h4 a ha
  · rw [wS_n _ _ (by omega)]
    by_cases c : i = n
    · rw [c, ← h2]
      exact c3
    · rw [c2 _ (by omega)]
      exact h5 i (by omega)
  · rw [ob_of e1, ob_of (pQ_in c1 hk), h2]
    rfl
theorem M_loop {m : Nat} {A : Nat → Nat} : ∀ d i fu (w : cW), i + d = 8 → d < fu → RM w m A (sUp z1 7 (mult i)) → (∀ j, arM j = true → m < A j) → ∃ w', fM_init_l133 m fu (nI i) 15 w = some ((), w') ∧ RM w' m A S0 ∧ w'.2 = w.2 ∧ ∀ a, a < m → w'.1 a = w.1 a := by
  intro d
  induction d with
  | zero =>
    intro i fu w h1 h2 h hA
    obtain ⟨fu, rfl⟩ : ∃ k, fu = k + 1 := ⟨fu - 1, by omega⟩
    have e : i = 8 := by omega
    subst e
    refine ⟨w, ?_, h, rfl, fun _ _ => rfl⟩
    show fM_init_b133 m (fM_init_l133 m fu) (nI 8) 15 w = _
    unfold fM_init_b133
    rw [if_pos (show (8 : Int32) ≤ nI 8 by decide), if_pos (by omega)]
  | succ d ih =>
    intro i fu w h1 h2 h hA
    obtain ⟨fu, rfl⟩ : ∃ k, fu = k + 1 := ⟨fu - 1, by omega⟩
    have hs := h.setA (j := 7) rfl (mult (i + 1))
    have e2 : sUp (sUp z1 7 (mult i)) 7 (mult (i + 1)) = sUp z1 7 (mult (i + 1)) := by
      funext k
      unfold sUp
      by_cases c : k = 7
      · rw [if_pos c, if_pos c]
      · rw [if_neg c, if_neg c, if_neg c]
    rw [e2] at hs
    obtain ⟨w', p1, p2, p3, p4⟩ := ih (i + 1) fu _ (by omega) (by omega) hs hA
    refine ⟨w', ?_, p2, p3, fun a ha => ?_⟩
    · show fM_init_b133 m (fM_init_l133 m fu) (nI i) 15 w = _
      unfold fM_init_b133
      have hA7 : w.1 (A 7) = some (.inl (0, 8, .inl (mult i))) := by
        have := h.arr (j := 7) rfl
        rw [sUp_s] at this
        exact this
      rw [if_neg (show ¬ (8 : Int32) ≤ nI i from (nI_ge (by omega) (by omega) : ¬ nI 8 ≤ nI i)), ob_of (gQ_in h.1 (by rfl : _ = some (va_rf (some (A 7))))), ob_of (stI_in (ty := .int) (j := i) hA7 (by decide) (by decide) rfl rfl (by omega) (by decide)), bnd_eq, nI_1]
      exact p1
    · rw [p4 a ha]
      show va_up _ _ _ _ = _
      have := hA 7 rfl
      exact va_up_ne _ _ (by omega)
set_option maxHeartbeats 1000000 in
theorem M_init {w : cW} {m : Nat} (h1 : w.1 m = some (.inr (5, dfM))) (h2 : w.2.1 = m + 1) : ∃ w', fM_init m w = some ((), w') ∧ RM w' m (fun j => m + 1 + invM j) S0 ∧ (w'.2.1 = m + 16 ∧ w'.2.2 = w.2.2) ∧ ∀ a, a < m → w'.1 a = w.1 a := by
  have g0 : MI w w m dfM 0 := ⟨h1, h2, rfl, fun _ _ => rfl, fun i hi => absurd hi (Nat.not_lt_zero i)⟩
  obtain ⟨w1, g1, e1⟩ := g0.step (k := 0) (t := 0) (l := 20) (i := 20) (by decide) rfl (by decide) rfl
  obtain ⟨w2, g2, e2⟩ := g1.step (k := 1) (t := 0) (l := 20) (i := 20) (by simp) rfl (by decide) rfl
  obtain ⟨w3, g3, e3⟩ := g2.step (k := 2) (t := 0) (l := 20) (i := 20) (by simp) rfl (by decide) rfl
  obtain ⟨w4, g4, e4⟩ := g3.step (k := 3) (t := 1) (l := 20) (i := 20) (by simp) rfl (by decide) rfl
  obtain ⟨w5, g5, e5⟩ := g4.step (k := 4) (t := 0) (l := 1280) (i := 1280) (by simp) rfl (by decide) rfl
  obtain ⟨w6, g6, e6⟩ := g5.step (k := 5) (t := 0) (l := 1280) (i := 1280) (by simp) rfl (by decide) rfl
  obtain ⟨w7, g7, e7⟩ := g6.step (k := 7) (t := 0) (l := 8) (i := 8) (by simp) rfl (by decide) rfl
  obtain ⟨w8, g8, e8⟩ := g7.step (k := 8) (t := 0) (l := 8) (i := 8) (by simp) rfl (by decide) rfl
  obtain ⟨w9, g9, e9⟩ := g8.step (k := 9) (t := 0) (l := 14) (i := 14) (by simp) rfl (by decide) rfl
  obtain ⟨w10, g10, e10⟩ := g9.step (k := 10) (t := 0) (l := 14) (i := 14) (by simp) rfl (by decide) rfl
  obtain ⟨w11, g11, e11⟩ := g10.step (k := 11) (t := 0) (l := 14) (i := 14) (by simp) rfl (by decide) rfl
  obtain ⟨w12, g12, e12⟩ := g11.step (k := 12) (t := 0) (l := 14) (i := 14) (by simp) rfl (by decide) rfl
  obtain ⟨w13, g13, e13⟩ := g12.step (k := 13) (t := 0) (l := 14) (i := 14) (by simp) rfl (by decide) rfl
  obtain ⟨w14, g14, e14⟩ := g13.step (k := 16) (t := 0) (l := 20) (i := 20) (by simp) rfl (by decide) rfl
  obtain ⟨w15, g15, e15⟩ := g14.step (k := 17) (t := 0) (l := 20) (i := 20) (by simp) rfl (by decide) rfl
  obtain ⟨q1, q2, q3, q4, q5⟩ := g15
  have hR : RM w15 m (fun j => m + 1 + invM j) z0 := by
    refine ⟨q1, fun j hj => ?_, fun i j hi hj hij => ?_⟩
    · have hj' : j < 18 ∧ j ≠ 6 ∧ j ≠ 14 ∧ j ≠ 15 := by
        unfold arM at hj
        simp at hj
        omega
      have a1 : invM j < 15 := by unfold invM; split <;> (try split) <;> omega
      have a2 : fldM (invM j) = j := by
        unfold invM
        split
        · unfold fldM
          rw [if_pos (by omega)]
        · split
          · unfold fldM
            rw [if_neg (by omega), if_pos (by omega)]
            omega
          · unfold fldM
            rw [if_neg (by omega), if_neg (by omega)]
            omega
      have := q5 _ a1
      unfold tabM at this
      rw [a2] at this
      exact this
    · have hi' : i < 18 ∧ i ≠ 6 ∧ i ≠ 14 ∧ i ≠ 15 := by
        unfold arM at hi
        simp at hi
        omega
      have hj' : j < 18 ∧ j ≠ 6 ∧ j ≠ 14 ∧ j ≠ 15 := by
        unfold arM at hj
        simp at hj
        omega
      have hij : m + 1 + invM i = m + 1 + invM j := hij
      unfold invM at hij
      split at hij <;> split at hij <;> (try split at hij) <;> (try split at hij) <;> omega
  have hR2 := hR.setN (j := 18) (by omega) (-1)
  have e0 : sUp z1 7 (mult 0) = z1 := by
    funext k
    unfold sUp
    by_cases c : k = 7
    · rw [if_pos c, c]; rfl
    · rw [if_neg c]
  have hR3 : RM (va_up w15.1 m (some (.inr (5, (fsM (fun j => m + 1 + invM j) z0).set 18 (.int (-1))))), w15.2) m (fun j => m + 1 + invM j) (sUp z1 7 (mult 0)) := by rw [e0]; exact hR2
  obtain ⟨w', p1, p2, p3, p4⟩ := M_loop 8 0 FU _ rfl (by decide) hR3 (fun j _ => by omega)
  refine ⟨w', ?_, p2, ?_, fun a ha => ?_⟩
  · unfold fM_init
    rw [e1, e2, e3, e4, e5, e6, e7, e8, e9, e10, e11, e12, e13, e14, e15, ob_of (pI_in hR.1 (Nat.le_of_ble_eq_true rfl))]
    exact p1
  · rw [p3]
    exact ⟨q2, q3⟩
  · rw [p4 a ha]
    show va_up _ _ _ _ = _
    rw [va_up_ne _ _ (by omega)]
    exact q4 a ha

/-- a list is made and put into a field -/
theorem L_new {w : cW} {b ci k : Nat} {fs : List Value} {g : Nat → Option Nat} (h1 : w.1 b = some (.inr (ci, fs))) (hb : b < w.2.1) (hk : k < fs.length) (hz : w.1 w.2.2.1 = some (rA 4 0 g)) (hzl : w.2.2.1 < w.2.1) : ∃ w', w'.1 b = some (.inr (ci, fs.set k (vq w.2.1))) ∧ cLs w' w.2.1 w.2.2.1 4 0 (fun _ => 0) ∧ w'.2.1 = w.2.1 + 1 ∧ w'.2.2 = w.2.2 ∧ (∀ a, a < w.2.1 → a ≠ b → w'.1 a = w.1 a) ∧ ∀ F : cW → Option (Unit × cW), (bnd (alC w (.inr (6, dfL))) fun w1 => cbd (fL_init w.2.1 w1) fun _ w3 => (pQ w3 (some b) ci k (some w.2.1)).bind F) = F w' := by
  have hzb : w.2.2.1 ≠ b := by
    intro q
    rw [q, h1] at hz
    cases hz
  obtain ⟨w1, hw1⟩ : ∃ w1 : cW, w1 = alC w (.inr (6, dfL)) := ⟨_, rfl⟩
  have c1 : w1.1 w.2.1 = some (.inr (6, dfL)) := by rw [hw1]; exact va_up_self _ _ _
  have c2 : ∀ a, a ≠ w.2.1 → w1.1 a = w.1 a := by
    intro a ha
    rw [hw1]
    exact va_up_ne _ _ ha
  have c3 : w1.2.2 = w.2.2 := by rw [hw1]; rfl
  have c4 : w1.2.1 = w.2.1 + 1 := by rw [hw1]; rfl
  obtain ⟨w2, d1, d2, d3, d4⟩ := cLs.new (w := w1) c1 (by rw [c3, c2 _ (by omega)]; exact hz) (fun _ => 0)
  have hb2 : w2.1 b = some (.inr (ci, fs)) := by rw [d4 b (by omega), c2 b (by omega)]; exact h1
  refine ⟨wS w2 b (.inr (ci, fs.set k (vq w.2.1))), wS_s _ _ _, ?_, ?_, ?_, fun a ha hab => ?_, fun F => ?_⟩
  · rw [c3] at d2
    exact d2.keep (wS_n _ _ (by omega)) (wS_n _ _ hzb) rfl
  · show w2.2.1 = _
    rw [d3, c4]
  · show w2.2.2 = _
    rw [d3, c3]
  · rw [wS_n _ _ hab, d4 a (by omega), c2 a (by omega)]
  · rw [bnd_eq, ← hw1, cbd_of d1, ob_of (pQ_in hb2 hk)]
    rfl
/-- i of the scales are there -/
def NI (w0 w : cW) (n i : Nat) (fs : List Value) : Prop := w.1 n = some (.inr (0, fs)) ∧ (∃ g : Nat → Option Nat, w.1 (n + 3) = some (rA 3 8 g) ∧ ∀ j, j < i → g j = some (n + 6 + j)) ∧ (∀ j, j < i → w.1 (n + 6 + j) = some (.inr (3, [.int 1073741824, .int 0]))) ∧ w.2.1 = n + 6 + i ∧ w.2.2 = w0.2.2 ∧ ∀ a, a < n + 6 → a ≠ n + 3 → w.1 a = w0.1 a
theorem N_loop {w0 : cW} {n : Nat} {fs : List Value} (hfs : fs[2]? = some (vq (n + 3))) : ∀ d i fu (w : cW), i + d = 8 → d < fu → NI w0 w n i fs → ∃ w', fN_init_l58 n fu (nI i) (5 + i) w = some ((), w') ∧ NI w0 w' n 8 fs := by
  intro d
  induction d with
  | zero =>
    intro i fu w h1 h2 h
    obtain ⟨fu, rfl⟩ : ∃ k, fu = k + 1 := ⟨fu - 1, by omega⟩
    have e : i = 8 := by omega
    subst e
    refine ⟨w, ?_, h⟩
    rw [fN_init_l58_s]
    unfold fN_init_b58
    rw [if_pos (show (8 : Int32) ≤ nI 8 by decide), if_pos (by omega)]
  | succ d ih =>
    intro i fu w h1 h2 h
    obtain ⟨fu, rfl⟩ : ∃ k, fu = k + 1 := ⟨fu - 1, by omega⟩
    obtain ⟨q1, ⟨g, q2, q3⟩, q4, q5, q6, q7⟩ := h
    obtain ⟨w2, hw2⟩ : ∃ w2 : cW, w2 = wS (w.1, w.2.1 + 1, w.2.2) w.2.1 (.inr (3, [.int 1073741824, .int 0])) := ⟨_, rfl⟩
    have e2 : fS_init w.2.1 (alC w (.inr (3, dfS))) = some ((), w2) := by
      unfold fS_init
      rw [alC_S, ob_of (pI_S _ _ _ _ _ _ (Nat.le_of_ble_eq_true rfl)), ob_of (pI_S _ _ _ _ _ _ (Nat.le_of_ble_eq_true rfl)), hw2]
      rfl
    have c1 : w2.1 w.2.1 = some (.inr (3, [.int 1073741824, .int 0])) := by rw [hw2]; exact wS_s _ _ _
    have c2 : ∀ a, a ≠ w.2.1 → w2.1 a = w.1 a := by
      intro a ha
      rw [hw2]
      exact wS_n _ _ ha
    have c3 : w2.1 (n + 3) = some (rA 3 8 g) := by rw [c2 _ (by omega)]; exact q2
    have c4 : qOk w2 3 (some w.2.1) = true := by
      unfold qOk
      dsimp only
      rw [c1]
      rfl
    have e3 := stQ_in (i := nI i) (j := i) c3 (by decide) (by decide) rfl c4 rfl (by omega) (by decide)
    have hi : NI w0 (wS w2 (n + 3) (rA 3 8 (va_up g i (some w.2.1)))) n (i + 1) fs := by
      refine ⟨by rw [wS_n _ _ (by omega), c2 _ (by omega)]; exact q1, ⟨_, wS_s _ _ _, fun j hj => ?_⟩, fun j hj => ?_, ?_, ?_, fun a ha hn => ?_⟩
      · by_cases c : j = i
        · rw [c, va_up_self, q5]
        · rw [va_up_ne _ _ c]
          exact q3 j (by omega)
      · rw [wS_n _ _ (by omega)]
        by_cases c : j = i
        · rw [c, ← q5]
          exact c1
        · rw [c2 _ (by omega)]
          exact q4 j (by omega)
      · rw [hw2]
        show w.2.1 + 1 = _
        omega
      · rw [hw2]
        exact q6
      · rw [wS_n _ _ hn, c2 a (by omega)]
        exact q7 a ha hn
    obtain ⟨w', p1, p2⟩ := ih (i + 1) fu _ (by omega) (by omega) hi
    refine ⟨w', ?_, p2⟩
    rw [fN_init_l58_s]
    unfold fN_init_b58
    rw [if_neg (show ¬ (8 : Int32) ≤ nI i from (nI_ge (by omega) (by omega) : ¬ nI 8 ≤ nI i)), ob_of (gQ_in q1 hfs), if_pos (by omega), bnd_eq, if_pos (by omega), cbd_of e2, ob_of e3, bnd_eq, nI_1]
    exact p1
def X0 (n : Nat) (s i : Nat) : Nat := if s = 0 then n else if s = 7 then (if i = 2 then n + 5 else n + 1 + i) else if s = 9 then n + 3 else if s = 1 then n + 4 else n + 6 + i
def cd0 (n : Nat) (a : Nat) : Nat × Nat := if a = n then (0, 0) else if a = n + 1 then (7, 0) else if a = n + 2 then (7, 1) else if a = n + 3 then (9, 0) else if a = n + 4 then (1, 0) else if a = n + 5 then (7, 2) else if n + 6 ≤ a then (3, a - (n + 6)) else (10, 0)
theorem mult_at : ∀ n i, i < n → mult n i = 1073741824
  | 0, i, h => absurd h (Nat.not_lt_zero i)
  | n + 1, i, h => by
    show upd (mult n) n 1073741824 i = _
    by_cases c : i = n
    · rw [c, pk_us]
    · rw [pk_un c]
      exact mult_at n i (by omega)
theorem mult_ge : ∀ n i, ¬ mult n i < 0
  | 0, i => by
    show ¬ (0 : Int32) < 0
    decide
  | n + 1, i => by
    show ¬ upd (mult n) n 1073741824 i < 0
    by_cases c : i = n
    · rw [c, pk_us]
      decide
    · rw [pk_un c]
      exact mult_ge n i
theorem S0_0 {j : Nat} (h1 : j ≠ 7) (h2 : j ≠ 18) (i : Nat) : S0 j i = 0 := by
  unfold S0
  rw [sUp_n _ _ h1]
  unfold z1
  rw [sUp_n _ _ h2]
  rfl
theorem S0_7 : S0 7 = mult 8 := sUp_s _ _ _
theorem S0_18 : S0 18 0 = -1 := rfl
theorem N0 {j : Nat} (h1 : j ≠ 7) (h2 : j ≠ 18) (i : Nat) : N S0 j i = 0 := by
  unfold N
  rw [S0_0 h1 h2]
  rfl
theorem OKS0 : OKS S0 := by
  have h6 : N S0 6 0 = 0 := N0 (by decide) (by decide) 0
  have h14 : N S0 14 0 = 0 := N0 (by decide) (by decide) 0
  have b0 : By 0 := by unfold By; decide
  refine ⟨fun j i hj => ?_, by omega, by omega, fun t ht => by omega, fun t ht => by omega, fun t ht => by omega, fun t ht => by omega, fun t => Or.inl (S0_0 (by decide) (by decide) t), fun t _ => S0_0 (by decide) (by decide) t, fun t j _ _ => S0_0 (by decide) (by decide) _, fun k => ?_, fun k => ?_, fun i => ?_, fun i => ?_, fun o ho => by omega, Or.inl (S0_0 (by decide) (by decide) 0), Or.inl S0_18, fun q => ?_⟩
  · rw [S0_0 (by omega) (by omega)]
    decide
  · rw [S0_0 (by decide) (by decide)]
    exact b0
  · rw [S0_0 (by decide) (by decide)]
    exact b0
  · rw [S0_7]
    exact mult_ge 8 i
  · rw [N0 (by decide) (by decide)]
    omega
  · rw [S0_0 (by decide) (by decide)] at q
    exact absurd q (by decide)

set_option maxHeartbeats 1000000 in
theorem N_init {w : cW} {n : Nat} {g : Nat → Option Nat} (h1 : w.1 n = some (.inr (0, dfN))) (h2 : w.2.1 = n + 1) (hz : w.1 w.2.2.1 = some (rA 4 0 g)) (hzl : w.2.2.1 < n) : ∃ w', fN_init n w = some ((), w') ∧ INV w' n S0 ∧ (w'.2.1 = n + 14 ∧ w'.2.2 = w.2.2) ∧ ∀ a, a < n → w'.1 a = w.1 a := by
  obtain ⟨w1, a1, a2, a3, a4, a5, a6⟩ := L_new (k := 0) h1 (by omega) (by decide) hz (by omega)
  rw [h2] at a1 a2 a3 a5
  obtain ⟨w2, b1, b2, b3, b4, b5, b6⟩ := L_new (k := 1) (g := g) a1 (by omega) (by simp) (by rw [a4, a5 _ (by omega) (by omega)]; exact hz) (by rw [a4]; omega)
  rw [a3, a4] at b2
  rw [a3] at b1 b3 b5
  rw [a4] at b4
  obtain ⟨w3, hw3⟩ : ∃ w3 : cW, w3 = alC w2 (rA 3 8 (fun _ => none)) := ⟨_, rfl⟩
  have c0 : alQ w2 3 (8 : Int32) 8 = some w3 := by rw [hw3]; rfl
  have c1 : w3.1 (n + 3) = some (rA 3 8 (fun _ => none)) := by
    rw [hw3, show n + 3 = w2.2.1 by omega]
    exact va_up_self _ _ _
  have c2 : ∀ a, a ≠ n + 3 → w3.1 a = w2.1 a := by
    intro a ha
    rw [hw3]
    exact va_up_ne _ _ (by omega)
  have c3 : w3.2.1 = n + 4 := by
    rw [hw3]
    show w2.2.1 + 1 = _
    omega
  have c4 : w3.2.2 = w.2.2 := by
    rw [hw3]
    exact b4
  have c5 : w3.1 n = _ := (c2 n (by omega)).trans b1
  obtain ⟨w4, hw4⟩ : ∃ w4 : cW, w4 = wS w3 n (.inr (0, (((dfN.set 0 (vq (n + 1))).set 1 (vq (n + 1 + 1))).set 2 (vq (n + 3))))) := ⟨_, rfl⟩
  have d0 : pQ w3 (some n) 0 2 (some w2.2.1) = some w4 := by
    rw [pQ_in c5 (by simp), hw4, b3]
    rfl
  have d1 : w4.1 n = some (.inr (0, (((dfN.set 0 (vq (n + 1))).set 1 (vq (n + 1 + 1))).set 2 (vq (n + 3))))) := by rw [hw4]; exact wS_s _ _ _
  have d2 : ∀ a, a ≠ n → w4.1 a = w3.1 a := by
    intro a ha
    rw [hw4]
    exact wS_n _ _ ha
  have d3 : w4.2 = w3.2 := by rw [hw4]; rfl
  obtain ⟨w5, hw5⟩ : ∃ w5 : cW, w5 = alC w4 (.inr (1, dfA)) := ⟨_, rfl⟩
  have e1 : w5.1 (n + 4) = some (.inr (1, dfA)) := by
    rw [hw5, show n + 4 = w4.2.1 by rw [d3]; omega]
    exact va_up_self _ _ _
  have e2 : ∀ a, a ≠ n + 4 → w5.1 a = w4.1 a := by
    intro a ha
    rw [hw5]
    exact va_up_ne _ _ (by rw [d3]; omega)
  have e3 : w5.2.1 = n + 5 := by
    rw [hw5]
    show w4.2.1 + 1 = _
    rw [d3]
    omega
  have e4 : w5.2.2 = w.2.2 := by
    rw [hw5]
    show w4.2.2 = _
    rw [d3]
    exact c4
  obtain ⟨w6, f1, f2, f3, f4, f5, f6⟩ := L_new (w := w5) (b := n + 4) (ci := 1) (k := 0) (g := g) e1 (by omega) (by decide) (by rw [e4, e2 _ (by omega), d2 _ (by omega), c2 _ (by omega), b5 _ (by omega) (by omega), a5 _ (by omega) (by omega)]; exact hz) (by rw [e4]; omega)
  rw [e3, e4] at f2
  rw [e3] at f1 f3 f5
  rw [e4] at f4
  obtain ⟨w7, hw7⟩ : ∃ w7 : cW, w7 = wS w6 (n + 4) (.inr (1, [vq (n + 5), .int 0])) := ⟨_, rfl⟩
  have p0 : fA_init (n + 4) w5 = some ((), w7) := by
    unfold fA_init
    rw [f6, ob_of (pI_in f1 (by simp)), hw7]
    rfl
  have p1 : w7.1 (n + 4) = some (.inr (1, [vq (n + 5), .int 0])) := by rw [hw7]; exact wS_s _ _ _
  have p2 : ∀ a, a ≠ n + 4 → w7.1 a = w6.1 a := by
    intro a ha
    rw [hw7]
    exact wS_n _ _ ha
  have p3 : w7.2 = w6.2 := by rw [hw7]; rfl
  have p4 : w7.1 n = some (.inr (0, (((dfN.set 0 (vq (n + 1))).set 1 (vq (n + 1 + 1))).set 2 (vq (n + 3))))) := by rw [p2 _ (by omega), f5 _ (by omega) (by omega), e2 _ (by omega)]; exact d1
  obtain ⟨fs, hfs⟩ : ∃ fs : List Value, fs = [vq (n + 1), vq (n + 2), vq (n + 3), vq (n + 4), .int 0, .int (-1)] := ⟨_, rfl⟩
  obtain ⟨w8, hw8⟩ : ∃ w8 : cW, w8 = wS w7 n (.inr (0, fs)) := ⟨_, rfl⟩
  have q0 : ∀ F : cW → Option (Unit × cW), ((pQ w7 (some n) 0 3 (some (n + 4))).bind fun w14 => (pZ w14 (some n) 0 4 (0 : Int32)).bind fun w15 => (pI w15 (some n) 0 5 (-1 : Int32)).bind F) = F w8 := by
    intro F
    rw [ob_of (pQ_in p4 (by simp))]
    show ((pZ (wS w7 n _) (some n) 0 4 (0 : Int32)).bind fun w15 => (pI w15 (some n) 0 5 (-1 : Int32)).bind F) = F w8
    rw [ob_of (pZ_S _ _ _ _ _ _ (by simp) (Or.inl rfl)), ob_of (pI_S _ _ _ _ _ _ (by simp)), hw8, hfs]
    rfl
  have q1 : w8.1 n = some (.inr (0, fs)) := by rw [hw8]; exact wS_s _ _ _
  have q2 : ∀ a, a ≠ n → w8.1 a = w7.1 a := by
    intro a ha
    rw [hw8]
    exact wS_n _ _ ha
  have q3 : w8.2 = w7.2 := by rw [hw8]; rfl
  have q4 : w8.2.2 = w.2.2 := by rw [q3, p3, f4]
  have hN : NI w8 w8 n 0 fs := by
    refine ⟨q1, ⟨fun _ => none, ?_, fun j hj => absurd hj (Nat.not_lt_zero j)⟩, fun j hj => absurd hj (Nat.not_lt_zero j), ?_, rfl, fun _ _ _ => rfl⟩
    · rw [q2 _ (by omega), p2 _ (by omega), f5 _ (by omega) (by omega), e2 _ (by omega), d2 _ (by omega)]
      exact c1
    · rw [q3, p3, f3]
  obtain ⟨w', r1, r2, ⟨g', r3, r4⟩, r5, r6, r7, r8⟩ := N_loop (by rw [hfs]; rfl) 8 0 FU w8 rfl (by decide) hN
  have hlow : ∀ a, a < n → w'.1 a = w.1 a := by
    intro a ha
    rw [r8 a (by omega) (by omega), q2 _ (by omega), p2 _ (by omega), f5 _ (by omega) (by omega), e2 _ (by omega), d2 _ (by omega), c2 _ (by omega), b5 _ (by omega) (by omega), a5 _ (by omega) (by omega)]
  have h6 : N S0 6 0 = 0 := N0 (by decide) (by decide) 0
  have h14 : N S0 14 0 = 0 := N0 (by decide) (by decide) 0
  have z1' : w'.2.2 = w.2.2 := r7.trans q4
  refine ⟨w', ?_, ⟨X0 n, cd0 n, fun _ => w.2.2.1, fun _ => 4, fun _ _ => 0, fun _ _ _ => 0, fun _ => 0, 0, 0, rfl, ⟨?_, ?_, fun t ht => by omega, fun t ht => by omega, fun i hi => ?_, ⟨g', r3, r4⟩, fun t ht => by omega, fun t ht => by omega, ?_, ?_, ?_, fun s i hl => ?_, fun j hj => ?_, fun k hk => by omega⟩, OKS0, fun t ht => by omega, fun q => ?_, fun d hd q => ?_⟩, ⟨r6, z1'⟩, hlow⟩
  · unfold fN_init
    rw [h2] at a6
    rw [a3] at b6
    rw [e3] at f6
    rw [h2, a6, a3, b6, ob_of c0, ob_of d0, bnd_eq, show w4.2.1 = n + 4 by rw [d3, c3], ← hw5, cbd_of p0, q0]
    exact r1
  · show w'.1 n = _
    rw [r2, hfs]
    rfl
  · show w'.1 (n + 4) = _
    rw [r8 _ (by omega) (by omega), q2 _ (by omega)]
    exact p1
  · show w'.1 (n + 6 + i) = _
    rw [r5 i hi, S0_7, mult_at 8 i hi, S0_0 (by decide) (by decide)]
  · rw [h6]
    show cLs w' (n + 1) w.2.2.1 4 0 _
    refine (a2.keep ?_ ?_ (z1'.trans a4.symm)).cong (fun i hi => absurd hi (Nat.not_lt_zero i))
    · rw [r8 _ (by omega) (by omega), q2 _ (by omega), p2 _ (by omega), f5 _ (by omega) (by omega), e2 _ (by omega), d2 _ (by omega), c2 _ (by omega), b5 _ (by omega) (by omega)]
    · rw [r8 _ (by omega) (by omega), q2 _ (by omega), p2 _ (by omega), f5 _ (by omega) (by omega), e2 _ (by omega), d2 _ (by omega), c2 _ (by omega), b5 _ (by omega) (by omega)]
  · rw [h14]
    show cLs w' (n + 2) w.2.2.1 4 0 _
    refine (cLs.keep (b2 : cLs w2 (n + 2) w.2.2.1 4 0 (fun _ => 0)) ?_ ?_ (z1'.trans b4.symm)).cong (fun i hi => absurd hi (Nat.not_lt_zero i))
    · rw [r8 _ (by omega) (by omega), q2 _ (by omega), p2 _ (by omega), f5 _ (by omega) (by omega), e2 _ (by omega), d2 _ (by omega), c2 _ (by omega)]
    · rw [r8 _ (by omega) (by omega), q2 _ (by omega), p2 _ (by omega), f5 _ (by omega) (by omega), e2 _ (by omega), d2 _ (by omega), c2 _ (by omega)]
  · show cLs w' (n + 5) w.2.2.1 4 0 _
    refine (f2.keep ?_ ?_ (z1'.trans f4.symm)).cong (fun i hi => absurd hi (Nat.not_lt_zero i))
    · rw [r8 _ (by omega) (by omega), q2 _ (by omega), p2 _ (by omega)]
    · rw [r8 _ (by omega) (by omega), q2 _ (by omega), p2 _ (by omega)]
  · rw [r6]
    unfold live at hl
    rw [h6, h14] at hl
    rcases hl with ⟨rfl, rfl⟩ | ⟨rfl, rfl⟩ | ⟨-, q⟩ | ⟨rfl, q⟩ | ⟨-, q⟩ | ⟨-, q⟩ | ⟨-, q, -⟩ | ⟨rfl, q⟩ | ⟨rfl, rfl⟩
    · show cd0 n n = _ ∧ n < _
      refine ⟨?_, by omega⟩
      unfold cd0
      rw [if_pos rfl]
    · show cd0 n (n + 4) = _ ∧ n + 4 < _
      refine ⟨?_, by omega⟩
      unfold cd0
      rw [if_neg (by omega), if_neg (by omega), if_neg (by omega), if_neg (by omega), if_pos rfl]
    · exact absurd q (Nat.not_lt_zero i)
    · show cd0 n (n + 6 + i) = _ ∧ n + 6 + i < _
      refine ⟨?_, by omega⟩
      unfold cd0
      rw [if_neg (by omega), if_neg (by omega), if_neg (by omega), if_neg (by omega), if_neg (by omega), if_neg (by omega), if_pos (by omega), Nat.add_sub_cancel_left]
    · exact absurd q (Nat.not_lt_zero i)
    · exact absurd q (Nat.not_lt_zero i)
    · exact absurd q (Nat.not_lt_zero i)
    · rcases (show i = 0 ∨ i = 1 ∨ i = 2 by omega) with rfl | rfl | rfl
      · show cd0 n (n + 1) = _ ∧ n + 1 < _
        refine ⟨?_, by omega⟩
        unfold cd0
        rw [if_neg (by omega), if_pos rfl]
      · show cd0 n (n + 2) = _ ∧ n + 2 < _
        refine ⟨?_, by omega⟩
        unfold cd0
        rw [if_neg (by omega), if_neg (by omega), if_pos rfl]
      · show cd0 n (n + 5) = _ ∧ n + 5 < _
        refine ⟨?_, by omega⟩
        unfold cd0
        rw [if_neg (by omega), if_neg (by omega), if_neg (by omega), if_neg (by omega), if_neg (by omega), if_pos rfl]
    · show cd0 n (n + 3) = _ ∧ n + 3 < _
      refine ⟨?_, by omega⟩
      unfold cd0
      rw [if_neg (by omega), if_neg (by omega), if_neg (by omega), if_pos rfl]
  · show cd0 n w.2.2.1 = (if 4 = 2 then (8, j) else (10, 0)) ∧ w.2.2.1 < w'.2.1
    rw [r6]
    refine ⟨?_, by omega⟩
    rw [if_neg (show ¬ 4 = 2 by decide)]
    unfold cd0
    rw [if_neg (by omega), if_neg (by omega), if_neg (by omega), if_neg (by omega), if_neg (by omega), if_neg (by omega), if_neg (by omega)]
  · rw [S0_0 (by decide) (by decide)] at q
    exact absurd q (by decide)
  · rw [h14] at hd
    have e : d = 0 := by omega
    rw [e, S0_18] at q
    exact absurd q (by decide)
