/-! THE REFERENCE OVER ITS STATE. S j i: what its j-th field holds at i (a number: at 0). RM: the world holds the reference at m with that state. Lf f g: the function g over states is kept by the function f over worlds. -/
abbrev sM : Type := Nat → Nat → Int32
def lenM (j : Nat) : Nat := if j = 4 ∨ j = 5 then 1280 else if j = 7 ∨ j = 8 then 8 else if 9 ≤ j ∧ j ≤ 13 then 14 else 20
def arM (j : Nat) : Bool := decide (j < 18) && !(j == 6 || (j == 14 || j == 15))
def kdM (j : Nat) : Nat := if j = 3 then 1 else 0
abbrev fsM (A : Nat → Nat) (S : sM) : List Value := [va_rf (some (A 0)), va_rf (some (A 1)), va_rf (some (A 2)), va_rf (some (A 3)), va_rf (some (A 4)), va_rf (some (A 5)), .int (S 6 0), va_rf (some (A 7)), va_rf (some (A 8)), va_rf (some (A 9)), va_rf (some (A 10)), va_rf (some (A 11)), va_rf (some (A 12)), va_rf (some (A 13)), .int (S 14 0), .int (S 15 0), va_rf (some (A 16)), va_rf (some (A 17)), .int (S 18 0)]
def RM (w : cW) (m : Nat) (A : Nat → Nat) (S : sM) : Prop := w.1 m = some (.inr (5, fsM A S)) ∧ (∀ j, arM j = true → w.1 (A j) = some (.inl (kdM j, lenM j, .inl (S j)))) ∧ ∀ i j, arM i = true → arM j = true → A i = A j → i = j
def sUp (S : sM) (j : Nat) (f : Nat → Int32) : sM := fun k => if k = j then f else S k
def rdS (S : sM) (j : Nat) (i : Int32) : Option Int32 := if ¬ (i < 0 ∨ lenM j ≤ i.toNatClampNeg) then some (S j i.toNatClampNeg) else none
def wrS (S : sM) (j : Nat) (i x : Int32) : Option sM := if ¬ (i < 0 ∨ lenM j ≤ i.toNatClampNeg) then some (sUp S j (upd (S j) i.toNatClampNeg x)) else none
def ptI (S : sM) (j : Nat) (x : Int32) : sM := sUp S j (upd (S j) 0 x)
def ptZ (S : sM) (j : Nat) (x : Int32) : Option sM := if x = 0 ∨ x = 1 then some (sUp S j (upd (S j) 0 x)) else none
def Lf {α : Type} (m : Nat) (A : Nat → Nat) (f : cW → Option (α × cW)) (g : sM → Option (α × sM)) : Prop := ∀ (w : cW) (S : sM) (r : α) (S' : sM), RM w m A S → g S = some (r, S') → ∃ w', f w = some (r, w') ∧ RM w' m A S' ∧ w'.2 = w.2
section LF
variable {α : Type} {m : Nat} {A : Nat → Nat}
theorem L_none {f : cW → Option (α × cW)} : Lf m A f (fun _ => none) := fun _ _ _ _ _ h => by cases h
theorem L_ret (x : α) : Lf m A (fun w => some (x, w)) (fun S => some (x, S)) := by
  intro w S r S' h hg
  cases hg
  exact ⟨w, rfl, h, rfl⟩
theorem L_if {c : Prop} [Decidable c] {f1 f2 : cW → Option (α × cW)} {g1 g2 : sM → Option (α × sM)} (h1 : Lf m A f1 g1) (h2 : Lf m A f2 g2) : Lf m A (fun w => if c then f1 w else f2 w) (fun S => if c then g1 S else g2 S) := by
  intro w S r S' h hg
  dsimp only at hg ⊢
  by_cases hc : c
  · rw [if_pos hc] at hg ⊢
    exact h1 w S r S' h hg
  · rw [if_neg hc] at hg ⊢
    exact h2 w S r S' h hg
theorem L_bnd {β : Type} {x : β} {F : β → cW → Option (α × cW)} {G : β → sM → Option (α × sM)} (h1 : ∀ y, Lf m A (F y) (G y)) : Lf m A (fun w => bnd x (fun y => F y w)) (fun S => bnd x (fun y => G y S)) := fun w S r S' h hg => h1 x w S r S' h hg
theorem L_gQ {F : Option Nat → cW → Option (α × cW)} {G : sM → Option (α × sM)} (j : Nat) (hj : ∀ S : sM, (fsM A S)[j]? = some (va_rf (some (A j)))) (h1 : Lf m A (F (some (A j))) G) : Lf m A (fun w => (gQ w (some m) 5 j).bind (fun r => F r w)) G := by
  intro w S r S' h hg
  dsimp only
  rw [ob_of (gQ_in h.1 (hj S))]
  exact h1 w S r S' h hg
theorem L_gI {F : Int32 → cW → Option (α × cW)} {G : Int32 → sM → Option (α × sM)} (j : Nat) (hj : ∀ S : sM, (fsM A S)[j]? = some (.int (S j 0))) (h1 : ∀ x, Lf m A (F x) (G x)) : Lf m A (fun w => (gI w (some m) 5 j).bind (fun x => F x w)) (fun S => bnd (S j 0) (fun x => G x S)) := by
  intro w S r S' h hg
  dsimp only
  rw [ob_of (gI_in h.1 (hj S))]
  exact h1 _ w S r S' h hg
theorem RM.arr {w : cW} {S : sM} (h : RM w m A S) {j : Nat} (hj : arM j = true) : w.1 (A j) = some (.inl (kdM j, lenM j, .inl (S j))) := h.2.1 j hj
theorem aTy_kd {j : Nat} : aTy (kdM j) = if j = 3 then .boolean else .int := by
  unfold kdM
  by_cases h : j = 3
  · rw [if_pos h, if_pos h]; rfl
  · rw [if_neg h, if_neg h]; rfl
theorem kdM_lt (j : Nat) : kdM j < aRO ∧ kdM j < aN := by
  unfold kdM
  by_cases h : j = 3
  · rw [if_pos h]; decide
  · rw [if_neg h]; decide
theorem L_ld {F : Int32 → cW → Option (α × cW)} {G : Int32 → sM → Option (α × sM)} {i : Int32} {ty : FieldType} (j : Nat) (hj : arM j = true) (hty : (if j = 3 then FieldType.boolean else FieldType.int) = ty) (h1 : ∀ x, Lf m A (F x) (G x)) : Lf m A (fun w => (ldI w (some (A j)) ty i).bind (fun x => F x w)) (fun S => (rdS S j i).bind (fun x => G x S)) := by
  intro w S r S' h hg
  dsimp only at hg ⊢
  obtain ⟨x, hx, hg⟩ := ob hg
  unfold rdS at hx
  by_cases hc : ¬ (i < 0 ∨ lenM j ≤ i.toNatClampNeg)
  · rw [if_pos hc] at hx
    cases hx
    have e : ldI w (some (A j)) ty i = some (S j i.toNatClampNeg) := by
      unfold ldI
      rw [ob_of (cArr_in (h.arr hj))]
      dsimp only
      rw [if_pos ⟨(kdM_lt j).2, by rw [aTy_kd]; exact hty, hc⟩]
    rw [ob_of e]
    exact h1 _ w S r S' h hg
  · rw [if_neg hc] at hx
    cases hx
theorem RM.ne {w : cW} {S : sM} (h : RM w m A S) {j : Nat} (hj : arM j = true) : A j ≠ m := by
  intro e
  have h1 := h.arr hj
  rw [e, h.1] at h1
  cases h1
theorem RM.setA {w : cW} {S : sM} (h : RM w m A S) {j : Nat} (hj : arM j = true) (f : Nat → Int32) : RM (va_up w.1 (A j) (some (.inl (kdM j, lenM j, .inl f))), w.2) m A (sUp S j f) := by
  have hs : ∀ k, arM k = false → sUp S j f k = S k := by
    intro k hk
    unfold sUp
    rw [if_neg]
    intro e
    rw [e, hj] at hk
    cases hk
  refine ⟨?_, fun k hk => ?_, h.2.2⟩
  · show va_up w.1 (A j) _ m = _
    rw [va_up_ne _ _ (fun e => h.ne hj e.symm), h.1]
    unfold fsM
    rw [hs 6 rfl, hs 14 rfl, hs 15 rfl, hs 18 rfl]
  · show va_up w.1 (A j) _ (A k) = _
    by_cases e : k = j
    · subst e
      rw [va_up_self]
      unfold sUp
      rw [if_pos rfl]
    · rw [va_up_ne _ _ (fun q => e (h.2.2 k j hk hj q)), h.arr hk]
      unfold sUp
      rw [if_neg e]
theorem L_st {F : cW → Option (α × cW)} {G : sM → Option (α × sM)} {i x : Int32} {ty : FieldType} (j : Nat) (hj : arM j = true) (hty : (if j = 3 then FieldType.boolean else FieldType.int) = ty) (h1 : Lf m A F G) : Lf m A (fun w => (stI w (some (A j)) ty i x).bind (fun w' => F w')) (fun S => (wrS S j i (vp_nar ty x)).bind (fun S' => G S')) := by
  intro w S r S' h hg
  dsimp only at hg ⊢
  obtain ⟨S1, hx, hg⟩ := ob hg
  unfold wrS at hx
  by_cases hc : ¬ (i < 0 ∨ lenM j ≤ i.toNatClampNeg)
  · rw [if_pos hc] at hx
    cases hx
    have e : stI w (some (A j)) ty i x = some (va_up w.1 (A j) (some (.inl (kdM j, lenM j, .inl (upd (S j) i.toNatClampNeg (vp_nar ty x))))), w.2) := by
      unfold stI
      rw [ob_of (cArr_in (h.arr hj))]
      dsimp only
      rw [if_pos ⟨(kdM_lt j).1, (kdM_lt j).2, by rw [aTy_kd]; exact hty, hc⟩]
    rw [ob_of e]
    exact h1 _ _ r S' (h.setA hj _) hg
  · rw [if_neg hc] at hx
    cases hx
theorem RM.setN {w : cW} {S : sM} (h : RM w m A S) {j : Nat} (hj : j = 6 ∨ j = 14 ∨ j = 15 ∨ j = 18) (x : Int32) : RM (va_up w.1 m (some (.inr (5, (fsM A S).set j (.int x)))), w.2) m A (sUp S j (upd (S j) 0 x)) := by
  refine ⟨?_, fun k hk => ?_, h.2.2⟩
  · show va_up w.1 m _ m = _
    rw [va_up_self]
    rcases hj with rfl | rfl | rfl | rfl <;> rfl
  · show va_up w.1 m _ (A k) = _
    rw [va_up_ne _ _ (h.ne hk), h.arr hk]
    unfold sUp
    rw [if_neg]
    intro e
    subst e
    rcases hj with rfl | rfl | rfl | rfl <;> cases hk
theorem L_pI {F : cW → Option (α × cW)} {G : sM → Option (α × sM)} {x : Int32} (j : Nat) (hj : j = 6 ∨ j = 14 ∨ j = 15 ∨ j = 18) (h1 : Lf m A F G) : Lf m A (fun w => (pI w (some m) 5 j x).bind (fun w' => F w')) (fun S => bnd (ptI S j x) (fun S' => G S')) := by
  intro w S r S' h hg
  dsimp only at hg ⊢
  rw [ob_of (pI_in h.1 (by rcases hj with rfl | rfl | rfl | rfl <;> exact Nat.le_of_ble_eq_true rfl))]
  exact h1 _ _ r S' (h.setN hj x) hg
theorem L_pZ {F : cW → Option (α × cW)} {G : sM → Option (α × sM)} {x : Int32} (j : Nat) (hj : j = 6 ∨ j = 14 ∨ j = 15 ∨ j = 18) (h1 : Lf m A F G) : Lf m A (fun w => (pZ w (some m) 5 j x).bind (fun w' => F w')) (fun S => (ptZ S j x).bind (fun S' => G S')) := by
  intro w S r S' h hg
  dsimp only at hg ⊢
  obtain ⟨S1, hx, hg⟩ := ob hg
  unfold ptZ at hx
  by_cases hc : x = 0 ∨ x = 1
  · rw [if_pos hc] at hx
    cases hx
    rw [ob_of (pZ_in h.1 (by rcases hj with rfl | rfl | rfl | rfl <;> exact Nat.le_of_ble_eq_true rfl) hc)]
    exact h1 _ _ r S' (h.setN hj x) hg
  · rw [if_neg hc] at hx
    cases hx
theorem L_call {β : Type} {fc : Nat → cW → Option (β × cW)} {gc : sM → Option (β × sM)} {F : β → cW → Option (α × cW)} {G : β → sM → Option (α × sM)} (h0 : Lf m A (fun w => fc m w) gc) (h1 : ∀ x, Lf m A (F x) (G x)) : Lf m A (fun w => (cRcv w (some m) 5).bind (fun b => cbd (fc b w) (fun x w' => F x w'))) (fun S => cbd (gc S) (fun x S' => G x S')) := by
  intro w S r S' h hg
  dsimp only at hg ⊢
  obtain ⟨x, S1, hx, hg⟩ := obc hg
  obtain ⟨w1, e1, h2, e2⟩ := h0 w S x S1 h hx
  rw [ob_of (cRcv_in h.1)]
  dsimp only at e1
  rw [e1]
  obtain ⟨w2, e3, h3, e4⟩ := h1 x w1 S1 r S' h2 hg
  exact ⟨w2, e3, h3, e4.trans e2⟩
end LF
