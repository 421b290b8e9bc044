/-! A WORLD'S CELLS ONLY GROW: new ones lie behind the old -/
def dml (w w' : cW) : Prop := w.2.1 ≤ w'.2.1 ∧ w'.2.2 = w.2.2 ∧ (∀ a, w'.1 a ≠ none → w.1 a ≠ none ∨ (w.2.1 ≤ a ∧ a < w'.2.1)) ∧ ∀ a x, a < w.2.1 → w.1 a = some (.inl (5, x)) → w'.1 a = some (.inl (5, x))
theorem dml.rf (w : cW) : dml w w := ⟨Nat.le_refl _, rfl, fun _ h => Or.inl h, fun _ _ _ h => h⟩
theorem dml.trans {u v w : cW} (h1 : dml u v) (h2 : dml v w) : dml u w := by
  refine ⟨Nat.le_trans h1.1 h2.1, h2.2.1.trans h1.2.1, fun a ha => ?_, fun a x ha hx => h2.2.2.2 a x (Nat.lt_of_lt_of_le ha h1.1) (h1.2.2.2 a x ha hx)⟩
  rcases h2.2.2.1 a ha with h | h
  · rcases h1.2.2.1 a h with g | g
    · exact Or.inl g
    · exact Or.inr ⟨g.1, Nat.lt_of_lt_of_le g.2 h2.1⟩
  · exact Or.inr ⟨Nat.le_trans h1.1 h.1, h.2⟩
def Dm {α : Type} (f : cW → Option (α × cW)) : Prop := ∀ (w : cW) (r : α) (w' : cW), f w = some (r, w') → dml w w'
section DM
variable {α : Type}
theorem D_none : Dm (fun _ => (none : Option (α × cW))) := fun _ _ _ h => by cases h
theorem D_ret (x : cW → α) : Dm (fun w => some (x w, w)) := fun w r w' h => by cases h; exact dml.rf w
theorem D_rd {β : Type} {o : cW → Option β} {F : β → cW → Option (α × cW)} (h : ∀ x, Dm (F x)) : Dm (fun w => (o w).bind (fun x => F x w)) := by
  intro w r w' hf
  obtain ⟨x, -, hf⟩ := ob hf
  exact h x w r w' hf
theorem D_bn {β : Type} {e : cW → β} {F : β → cW → Option (α × cW)} (h : ∀ x, Dm (F x)) : Dm (fun w => bnd (e w) (fun x => F x w)) := fun w r w' hf => h (e w) w r w' hf
theorem D_wr {p : cW → Option cW} {F : cW → cW → Option (α × cW)} (hp : ∀ w w', p w = some w' → dml w w') (h : ∀ w0, Dm (F w0)) : Dm (fun w => (p w).bind (fun w' => F w w')) := by
  intro w r w' hf
  obtain ⟨w1, h1, hf⟩ := ob hf
  exact (hp w w1 h1).trans (h w w1 r w' hf)
theorem dm_alC (w : cW) (e : cE) : dml w (alC w e) := by
  refine ⟨Nat.le_succ _, rfl, fun a ha => ?_, fun a x ha hx => (va_up_ne _ _ (Nat.ne_of_lt ha)).trans hx⟩
  have ha : va_up w.1 w.2.1 (some e) a ≠ none := ha
  by_cases c : a = w.2.1
  · refine Or.inr ⟨by rw [c]; exact Nat.le_refl _, ?_⟩
    show a < w.2.1 + 1
    omega
  · rw [va_up_ne _ _ c] at ha
    exact Or.inl ha
theorem D_al {e : cE} {F : cW → cW → Option (α × cW)} (h : ∀ w0, Dm (F w0)) : Dm (fun w => bnd (alC w e) (fun w' => F w w')) := fun w r w' hf => (dm_alC w e).trans (h w (alC w e) r w' hf)
theorem D_cl {β : Type} {fc : cW → Option (β × cW)} {F : cW → β → cW → Option (α × cW)} (h0 : Dm fc) (h : ∀ w0 x, Dm (F w0 x)) : Dm (fun w => cbd (fc w) (fun x w' => F w x w')) := by
  intro w r w' hf
  obtain ⟨x, w1, h1, hf⟩ := obc hf
  exact (h0 w x w1 h1).trans (h w x w1 r w' hf)
theorem D_if {c : cW → Prop} [∀ w, Decidable (c w)] {F G : cW → Option (α × cW)} (h1 : Dm F) (h2 : Dm G) : Dm (fun w => if c w then F w else G w) := by
  intro w r w' hf
  dsimp only at hf
  by_cases hc : c w
  · rw [if_pos hc] at hf
    exact h1 w r w' hf
  · rw [if_neg hc] at hf
    exact h2 w r w' hf
theorem D_ifn {c : cW → Prop} [∀ w, Decidable (c w)] {F : cW → Option (α × cW)} (h1 : Dm F) : Dm (fun w => if c w then F w else none) := D_if h1 D_none
theorem D_nif {c : cW → Prop} [∀ w, Decidable (c w)] {F : cW → Option (α × cW)} (h1 : Dm F) : Dm (fun w => if c w then none else F w) := D_if D_none h1
theorem dm_up {w : cW} {a : Nat} {e0 e : cE} (h : w.1 a = some e0) (hn : ∀ x, e0 ≠ .inl (5, x)) : dml w (va_up w.1 a (some e), w.2) := by
  refine ⟨Nat.le_refl _, rfl, fun q hq => ?_, fun q x _ hx => (va_up_ne _ _ (fun c => hn x (by rw [c, h] at hx; exact Option.some.inj hx))).trans hx⟩
  have hq : va_up w.1 a (some e) q ≠ none := hq
  by_cases c : q = a
  · subst c
    rw [h]
    exact Or.inl (fun z => by cases z)
  · rw [va_up_ne _ _ c] at hq
    exact Or.inl hq
theorem dm_pF {w w' : cW} {r : Option Nat} {ci k : Nat} {v : Value} (h : pF w r ci k v = some w') : dml w w' := by
  obtain ⟨a, fs, -, ha, -, rfl⟩ := pF_of h
  exact dm_up ha (fun x q => by cases q)
theorem dm_pI {r : Option Nat} {ci k : Nat} {x : Int32} (w w' : cW) (h : pI w r ci k x = some w') : dml w w' := dm_pF h
theorem dm_pQ {r : Option Nat} {ci k : Nat} {x : Option Nat} (w w' : cW) (h : pQ w r ci k x = some w') : dml w w' := dm_pF h
theorem dm_pZ {r : Option Nat} {ci k : Nat} {x : Int32} (w w' : cW) (h : pZ w r ci k x = some w') : dml w w' := dm_pF (pZ_of h).2
theorem dm_stI {r : Option Nat} {ty : FieldType} {i x : Int32} (w w' : cW) (h : stI w r ty i x = some w') : dml w w' := by
  obtain ⟨a, t, N, f, -, ha, ht, -, -, -, rfl⟩ := stI_of h
  exact dm_up ha (fun x q => by cases q; exact absurd ht (by decide))
theorem dm_stQ {r : Option Nat} {i : Int32} {x : Option Nat} (w w' : cW) (h : stQ w r i x = some w') : dml w w' := by
  obtain ⟨a, t, N, f, -, ha, ht, -, -, -, -, rfl⟩ := stQ_of h
  exact dm_up ha (fun x q => by cases q; exact absurd ht (by decide))
theorem dm_cpI {rs rd : Option Nat} {sp dp i : Int32} (w w' : cW) (h : cpI w rs sp rd dp i = some w') : dml w w' := by
  obtain ⟨a0, a, n0, n1, f, g, -, -, -, ha, -, -, -, -, -, rfl⟩ := cpI_of h
  exact dm_up ha (fun x q => by cases q)
theorem dm_cpQ {rs rd : Option Nat} {sp dp i : Int32} (w w' : cW) (h : cpQ w rs sp rd dp i = some w') : dml w w' := by
  obtain ⟨a0, a, n0, n1, f, g, -, -, -, ha, -, -, -, -, -, -, rfl⟩ := cpQ_of h
  exact dm_up ha (fun x q => by cases q)
theorem dm_alI {t b : Nat} {i : Int32} (w w' : cW) (h : alI w t i b = some w') : dml w w' := by
  unfold alI at h
  by_cases c : ¬ i < 0 ∧ i.toNatClampNeg ≤ b
  · rw [if_pos c] at h
    cases h
    exact dm_alC w _
  · rw [if_neg c] at h
    cases h
theorem dm_alQ {t b : Nat} {i : Int32} (w w' : cW) (h : alQ w t i b = some w') : dml w w' := by
  unfold alQ at h
  by_cases c : ¬ i < 0 ∧ i.toNatClampNeg ≤ b
  · rw [if_pos c] at h
    cases h
    exact dm_alC w _
  · rw [if_neg c] at h
    cases h
end DM
theorem nC_init (b : Nat)   : Dm (fun w => fC_init b   w) := by
  unfold fC_init
  exact D_ret _
theorem nB_init (b : Nat)   : Dm (fun w => fB_init b   w) := by
  unfold fB_init
  refine D_cl (fun _ _ _ h => nC_init _ _ _ _ h) (fun _ _ => ?_)
  refine D_wr (fun _ _ h => dm_pI _ _ h) (fun _ => ?_)
  exact D_ret _
theorem nL_init (b : Nat)   : Dm (fun w => fL_init b   w) := by
  unfold fL_init
  refine D_cl (fun _ _ _ h => nB_init _ _ _ _ h) (fun _ _ => ?_)
  refine D_wr (fun _ _ h => dm_pQ _ _ h) (fun _ => ?_)
  exact D_ret _
theorem nL_size (b : Nat)   : Dm (fun w => fL_size b   w) := by
  unfold fL_size
  refine D_rd (fun _ => ?_)
  exact D_ret _
theorem nP_checkIndex   (a0 : Int32) (a1 : Int32) : Dm (fun w => fP_checkIndex   a0 a1 w) := by
  unfold fP_checkIndex
  refine D_if ?_ ?_
  · exact D_none
  · refine D_if ?_ ?_
    · exact D_ret _
    · exact D_none
theorem nJ_checkIndex   (a0 : Int32) (a1 : Int32) : Dm (fun w => fJ_checkIndex   a0 a1 w) := by
  unfold fJ_checkIndex
  refine D_cl (fun _ _ _ h => nP_checkIndex _ _ _ _ _ h) (fun _ _ => ?_)
  exact D_ret _
theorem nL_elementData (b : Nat)  (a1 : Int32) : Dm (fun w => fL_elementData b  a1 w) := by
  unfold fL_elementData
  refine D_rd (fun _ => ?_)
  refine D_rd (fun _ => ?_)
  exact D_ret _
theorem nL_get (b : Nat)  (a1 : Int32) : Dm (fun w => fL_get b  a1 w) := by
  unfold fL_get
  refine D_rd (fun _ => ?_)
  refine D_cl (fun _ _ _ h => nJ_checkIndex _ _ _ _ _ h) (fun _ _ => ?_)
  refine D_rd (fun _ => D_cl (fun _ _ _ h => nL_elementData _ _ _ _ _ h) (fun _ _ => ?_))
  exact D_ret _
theorem nU_newLength   (a0 : Int32) (a1 : Int32) (a2 : Int32) : Dm (fun w => fU_newLength   a0 a1 a2 w) := by
  unfold fU_newLength
  refine D_bn (fun _ => ?_)
  refine D_if ?_ ?_
  · exact D_none
  · refine D_if ?_ ?_
    · exact D_none
    · exact D_ret _
theorem nY_copyOf   (a0 : Nat) (a1 : Int32) (a2 : Nat) : Dm (fun w => fY_copyOf   a0 a1 a2 w) := by
  unfold fY_copyOf
  refine D_if ?_ ?_
  · refine D_wr (fun _ _ h => dm_alQ _ _ h) (fun _ => ?_)
    refine D_rd (fun _ => ?_)
    refine D_wr (fun _ _ h => dm_cpQ _ _ h) (fun _ => ?_)
    exact D_ret _
  · exact D_none
theorem nY_copyOf2   (a0 : Nat) (a1 : Int32) : Dm (fun w => fY_copyOf2   a0 a1 w) := by
  unfold fY_copyOf2
  refine D_rd (fun _ => ?_)
  refine D_cl (fun _ _ _ h => nY_copyOf _ _ _ _ _ _ h) (fun _ _ => ?_)
  exact D_ret _
theorem nL_grow_b20 {b : Nat}  (a1 : Int32) (a2 : Int32) (c : Nat) : Dm (fun w => fL_grow_b20 b  a1 a2 c w) := by
  unfold fL_grow_b20
  refine D_ifn ?_
  refine D_cl (fun _ _ _ h => nU_newLength _ _ _ _ _ _ h) (fun _ _ => ?_)
  refine D_rd (fun _ => ?_)
  refine D_rd (fun _ => ?_)
  refine D_ifn ?_
  refine D_cl (fun _ _ _ h => nY_copyOf2 _ _ _ _ _ h) (fun _ _ => ?_)
  refine D_wr (fun _ _ h => dm_pQ _ _ h) (fun _ => ?_)
  refine D_ifn ?_
  exact D_ret _
theorem nL_grow (b : Nat)  (a1 : Int32) : Dm (fun w => fL_grow b  a1 w) := by
  unfold fL_grow
  refine D_rd (fun _ => ?_)
  refine D_rd (fun _ => ?_)
  refine D_if ?_ ?_
  · exact nL_grow_b20  _ _ _
  · refine D_rd (fun _ => ?_)
    refine D_if ?_ ?_
    · refine D_wr (fun _ _ h => dm_alQ _ _ h) (fun _ => ?_)
      refine D_wr (fun _ _ h => dm_pQ _ _ h) (fun _ => ?_)
      exact D_ret _
    · exact nL_grow_b20  _ _ _
theorem nL_grow2 (b : Nat)   : Dm (fun w => fL_grow2 b   w) := by
  unfold fL_grow2
  refine D_rd (fun _ => ?_)
  refine D_rd (fun _ => D_cl (fun _ _ _ h => nL_grow _ _ _ _ _ h) (fun _ _ => ?_))
  exact D_ret _
theorem nL_add_b11 {b : Nat}  (a1 : Option Nat) (a2 : Option Nat) (a3 : Int32) (c : Nat) : Dm (fun w => fL_add_b11 b  a1 a2 a3 c w) := by
  unfold fL_add_b11
  refine D_wr (fun _ _ h => dm_stQ _ _ h) (fun _ => ?_)
  refine D_wr (fun _ _ h => dm_pI _ _ h) (fun _ => ?_)
  refine D_ifn ?_
  exact D_ret _
theorem nL_add (b : Nat)  (a1 : Nat) (a2 : Nat) (a3 : Int32) : Dm (fun w => fL_add b  a1 a2 a3 w) := by
  unfold fL_add
  refine D_rd (fun _ => ?_)
  refine D_if ?_ ?_
  · refine D_rd (fun _ => D_cl (fun _ _ _ h => nL_grow2 _ _ _ _ h) (fun _ _ => ?_))
    exact nL_add_b11  _ _ _ _
  · exact nL_add_b11  _ _ _ _
theorem nL_add2 (b : Nat)  (a1 : Nat) : Dm (fun w => fL_add2 b  a1 w) := by
  unfold fL_add2
  refine D_rd (fun _ => ?_)
  refine D_wr (fun _ _ h => dm_pI _ _ h) (fun _ => ?_)
  refine D_rd (fun _ => ?_)
  refine D_rd (fun _ => ?_)
  refine D_rd (fun _ => ?_)
  refine D_rd (fun _ => D_cl (fun _ _ _ h => nL_add _ _ _ _ _ _ _ h) (fun _ _ => ?_))
  exact D_ret _
theorem nL_clear_l27 {b : Nat}  (n : Nat) : ∀ (a1 : Option Nat) (a2 : Int32) (a3 : Int32), Dm (fun w => fL_clear_l27 b  n a1 a2 a3 w) := by
  induction n with
  | zero =>
    intro a1 a2 a3
    exact D_none
  | succ n ih =>
    intro a1 a2 a3
    show Dm (fun w => fL_clear_b27 b  (fL_clear_l27 b  n) a1 a2 a3 w)
    generalize fL_clear_l27 b  n = rec27 at ih ⊢
    have hrec27 := ih
    unfold fL_clear_b27
    refine D_if ?_ ?_
    · exact D_ret _
    · refine D_wr (fun _ _ h => dm_stQ _ _ h) (fun _ => ?_)
      refine D_bn (fun _ => ?_)
      exact hrec27 _ _ _
theorem nL_clear (b : Nat)   : Dm (fun w => fL_clear b   w) := by
  unfold fL_clear
  refine D_rd (fun _ => ?_)
  refine D_wr (fun _ _ h => dm_pI _ _ h) (fun _ => ?_)
  refine D_rd (fun _ => ?_)
  refine D_rd (fun _ => ?_)
  refine D_wr (fun _ _ h => dm_pI _ _ h) (fun _ => ?_)
  exact nL_clear_l27  _ _ _ _
theorem nN_isWithin   (a0 : Int32) (a1 : Int32) (a2 : Int32) : Dm (fun w => fN_isWithin   a0 a1 a2 w) := by
  unfold fN_isWithin
  refine D_if ?_ ?_
  · exact D_ret _
  · refine D_if ?_ ?_
    · exact D_ret _
    · exact D_ret _
theorem nN_isScale   (a0 : Int32) : Dm (fun w => fN_isScale   a0 w) := by
  unfold fN_isScale
  refine D_cl (fun _ _ _ h => nN_isWithin _ _ _ _ _ _ h) (fun _ _ => ?_)
  exact D_ifn (D_ret _)
theorem nN_isCellValue   (a0 : Int32) : Dm (fun w => fN_isCellValue   a0 w) := by
  unfold fN_isCellValue
  refine D_cl (fun _ _ _ h => nN_isWithin _ _ _ _ _ _ h) (fun _ _ => ?_)
  exact D_ifn (D_ret _)
theorem nN_rounded   (a0 : Int64) (a2 : Int64) : Dm (fun w => fN_rounded   a0 a2 w) := by
  unfold fN_rounded
  refine D_nif ?_
  refine D_bn (fun _ => ?_)
  refine D_if ?_ ?_
  · exact D_ret _
  · exact D_ret _
theorem nT_init (b : Nat)  (a1 : Int32) (a2 : Int32) (a3 : Int32) (a4 : Int32) : Dm (fun w => fT_init b  a1 a2 a3 a4 w) := by
  unfold fT_init
  refine D_wr (fun _ _ h => dm_pZ _ _ h) (fun _ => ?_)
  refine D_wr (fun _ _ h => dm_pZ _ _ h) (fun _ => ?_)
  refine D_wr (fun _ _ h => dm_pI _ _ h) (fun _ => ?_)
  refine D_wr (fun _ _ h => dm_pI _ _ h) (fun _ => ?_)
  refine D_wr (fun _ _ h => dm_pI _ _ h) (fun _ => ?_)
  refine D_wr (fun _ _ h => dm_pI _ _ h) (fun _ => ?_)
  refine D_wr (fun _ _ h => dm_pI _ _ h) (fun _ => ?_)
  refine D_wr (fun _ _ h => dm_pI _ _ h) (fun _ => ?_)
  refine D_wr (fun _ _ h => dm_pI _ _ h) (fun _ => ?_)
  refine D_wr (fun _ _ h => dm_alI _ _ h) (fun _ => ?_)
  refine D_wr (fun _ _ h => dm_pQ _ _ h) (fun _ => ?_)
  refine D_if ?_ ?_
  · refine D_wr (fun _ _ h => dm_alI _ _ h) (fun _ => ?_)
    refine D_wr (fun _ _ h => dm_pQ _ _ h) (fun _ => ?_)
    exact D_ret _
  · refine D_rd (fun _ => ?_)
    refine D_wr (fun _ _ h => dm_pQ _ _ h) (fun _ => ?_)
    exact D_ret _
theorem nT_greatestLength   (a0 : Int32) : Dm (fun w => fT_greatestLength   a0 w) := by
  unfold fT_greatestLength
  refine D_if ?_ ?_
  · exact D_ret _
  · exact D_ret _
theorem nT_hasCell (b : Nat)  (a1 : Int32) : Dm (fun w => fT_hasCell b  a1 w) := by
  unfold fT_hasCell
  refine D_if ?_ ?_
  · exact D_ret _
  · refine D_rd (fun _ => ?_)
    refine D_if ?_ ?_
    · exact D_ret _
    · exact D_ret _
theorem nT_takeGiven (b : Nat)   : Dm (fun w => fT_takeGiven b   w) := by
  unfold fT_takeGiven
  refine D_rd (fun _ => ?_)
  refine D_if ?_ ?_
  · refine D_rd (fun _ => ?_)
    refine D_rd (fun _ => ?_)
    refine D_rd (fun _ => ?_)
    refine D_wr (fun _ _ h => dm_cpI _ _ h) (fun _ => ?_)
    exact D_ret _
  · exact D_ret _
theorem nT_beginLife (b : Nat)  (a1 : Int32) : Dm (fun w => fT_beginLife b  a1 w) := by
  unfold fT_beginLife
  refine D_wr (fun _ _ h => dm_pZ _ _ h) (fun _ => ?_)
  refine D_wr (fun _ _ h => dm_pI _ _ h) (fun _ => ?_)
  refine D_wr (fun _ _ h => dm_pI _ _ h) (fun _ => ?_)
  exact D_ret _
theorem nT_resetLife (b : Nat)   : Dm (fun w => fT_resetLife b   w) := by
  unfold fT_resetLife
  refine D_wr (fun _ _ h => dm_pZ _ _ h) (fun _ => ?_)
  refine D_rd (fun _ => ?_)
  refine D_if ?_ ?_
  · refine D_rd (fun _ => D_cl (fun _ _ _ h => nT_beginLife _ _ _ _ _ h) (fun _ _ => ?_))
    exact D_ret _
  · exact D_ret _
theorem nT_livesAfter (b : Nat)  (a1 : Int32) : Dm (fun w => fT_livesAfter b  a1 w) := by
  unfold fT_livesAfter
  refine D_rd (fun _ => ?_)
  refine D_if ?_ ?_
  · exact D_ret _
  · refine D_rd (fun _ => ?_)
    refine D_if ?_ ?_
    · exact D_ret _
    · refine D_rd (fun _ => ?_)
      refine D_if ?_ ?_
      · exact D_ret _
      · exact D_ret _
theorem nT_meets (b : Nat)  (a1 : Nat) : Dm (fun w => fT_meets b  a1 w) := by
  unfold fT_meets
  refine D_rd (fun _ => ?_)
  refine D_rd (fun _ => ?_)
  refine D_if ?_ ?_
  · exact D_ret _
  · refine D_rd (fun _ => ?_)
    refine D_rd (fun _ => ?_)
    refine D_if ?_ ?_
    · exact D_ret _
    · exact D_ret _
theorem nT_distance (b : Nat)  (a1 : Int32) : Dm (fun w => fT_distance b  a1 w) := by
  unfold fT_distance
  refine D_rd (fun _ => ?_)
  refine D_rd (fun _ => ?_)
  refine D_rd (fun _ => ?_)
  exact D_ret _
theorem nS_init (b : Nat)   : Dm (fun w => fS_init b   w) := by
  unfold fS_init
  refine D_wr (fun _ _ h => dm_pI _ _ h) (fun _ => ?_)
  refine D_wr (fun _ _ h => dm_pI _ _ h) (fun _ => ?_)
  exact D_ret _
theorem nS_applied (b : Nat)  (a1 : Int64) : Dm (fun w => fS_applied b  a1 w) := by
  unfold fS_applied
  refine D_rd (fun _ => ?_)
  refine D_cl (fun _ _ _ h => nN_rounded _ _ _ _ _ h) (fun _ _ => ?_)
  refine D_rd (fun _ => ?_)
  refine D_cl (fun _ _ _ h => nN_rounded _ _ _ _ _ h) (fun _ _ => ?_)
  exact D_ret _
theorem nO_init (b : Nat)  (a1 : Int32) (a2 : Nat) (a3 : Nat) (a4 : Nat) (a5 : Int32) : Dm (fun w => fO_init b  a1 a2 a3 a4 a5 w) := by
  unfold fO_init
  refine D_wr (fun _ _ h => dm_pI _ _ h) (fun _ => ?_)
  refine D_wr (fun _ _ h => dm_pQ _ _ h) (fun _ => ?_)
  refine D_wr (fun _ _ h => dm_pQ _ _ h) (fun _ => ?_)
  refine D_wr (fun _ _ h => dm_pQ _ _ h) (fun _ => ?_)
  refine D_wr (fun _ _ h => dm_pI _ _ h) (fun _ => ?_)
  exact D_ret _
theorem nO_fits (b : Nat)   : Dm (fun w => fO_fits b   w) := by
  unfold fO_fits
  refine D_rd (fun _ => ?_)
  refine D_if ?_ ?_
  · refine D_rd (fun _ => ?_)
    refine D_rd (fun _ => ?_)
    refine D_if ?_ ?_
    · refine D_rd (fun _ => ?_)
      refine D_rd (fun _ => ?_)
      refine D_rd (fun _ => ?_)
      refine D_rd (fun _ => ?_)
      refine D_rd (fun _ => ?_)
      refine D_rd (fun _ => ?_)
      refine D_if ?_ ?_
      · exact D_ret _
      · exact D_ret _
    · exact D_ret _
  · refine D_if ?_ ?_
    · refine D_rd (fun _ => ?_)
      refine D_rd (fun _ => ?_)
      refine D_rd (fun _ => ?_)
      refine D_rd (fun _ => ?_)
      refine D_if ?_ ?_
      · refine D_rd (fun _ => ?_)
        refine D_rd (fun _ => ?_)
        refine D_rd (fun _ => ?_)
        refine D_rd (fun _ => ?_)
        refine D_if ?_ ?_
        · exact D_ret _
        · exact D_ret _
      · exact D_ret _
    · refine D_if ?_ ?_
      · refine D_rd (fun _ => ?_)
        refine D_rd (fun _ => ?_)
        refine D_rd (fun _ => ?_)
        refine D_rd (fun _ => ?_)
        refine D_if ?_ ?_
        · refine D_rd (fun _ => ?_)
          refine D_rd (fun _ => ?_)
          refine D_rd (fun _ => ?_)
          refine D_rd (fun _ => ?_)
          refine D_if ?_ ?_
          · exact D_ret _
          · exact D_ret _
        · exact D_ret _
      · refine D_if ?_ ?_
        · refine D_rd (fun _ => ?_)
          refine D_rd (fun _ => ?_)
          refine D_if ?_ ?_
          · refine D_rd (fun _ => ?_)
            refine D_cl (fun _ _ _ h => nN_isWithin _ _ _ _ _ _ h) (fun _ _ => ?_)
            refine D_if ?_ ?_
            · exact D_ret _
            · refine D_rd (fun _ => ?_)
              refine D_rd (fun _ => ?_)
              refine D_rd (fun _ => ?_)
              refine D_rd (fun _ => ?_)
              refine D_rd (fun _ => ?_)
              refine D_if ?_ ?_
              · refine D_rd (fun _ => ?_)
                refine D_rd (fun _ => ?_)
                refine D_rd (fun _ => ?_)
                refine D_rd (fun _ => ?_)
                refine D_if ?_ ?_
                · exact D_ret _
                · exact D_ret _
              · exact D_ret _
          · exact D_ret _
        · refine D_if ?_ ?_
          · refine D_rd (fun _ => ?_)
            refine D_rd (fun _ => ?_)
            refine D_if ?_ ?_
            · refine D_rd (fun _ => ?_)
              refine D_cl (fun _ _ _ h => nN_isWithin _ _ _ _ _ _ h) (fun _ _ => ?_)
              refine D_if ?_ ?_
              · exact D_ret _
              · refine D_rd (fun _ => ?_)
                refine D_rd (fun _ => ?_)
                refine D_rd (fun _ => ?_)
                refine D_rd (fun _ => ?_)
                refine D_rd (fun _ => ?_)
                refine D_if ?_ ?_
                · refine D_rd (fun _ => ?_)
                  refine D_rd (fun _ => ?_)
                  refine D_rd (fun _ => ?_)
                  refine D_rd (fun _ => ?_)
                  refine D_if ?_ ?_
                  · exact D_ret _
                  · exact D_ret _
                · exact D_ret _
            · exact D_ret _
          · refine D_if ?_ ?_
            · refine D_rd (fun _ => ?_)
              refine D_if ?_ ?_
              · refine D_rd (fun _ => ?_)
                refine D_rd (fun _ => ?_)
                refine D_if ?_ ?_
                · refine D_rd (fun _ => ?_)
                  refine D_rd (fun _ => ?_)
                  refine D_if ?_ ?_
                  · refine D_rd (fun _ => ?_)
                    refine D_rd (fun _ => ?_)
                    refine D_rd (fun _ => ?_)
                    refine D_rd (fun _ => ?_)
                    refine D_if ?_ ?_
                    · refine D_rd (fun _ => ?_)
                      refine D_rd (fun _ => ?_)
                      refine D_rd (fun _ => ?_)
                      refine D_rd (fun _ => ?_)
                      refine D_if ?_ ?_
                      · exact D_ret _
                      · exact D_ret _
                    · exact D_ret _
                  · exact D_ret _
                · exact D_ret _
              · exact D_ret _
            · refine D_if ?_ ?_
              · refine D_rd (fun _ => ?_)
                refine D_if ?_ ?_
                · refine D_rd (fun _ => ?_)
                  refine D_rd (fun _ => ?_)
                  refine D_rd (fun _ => ?_)
                  refine D_rd (fun _ => ?_)
                  refine D_rd (fun _ => ?_)
                  refine D_rd (fun _ => ?_)
                  refine D_if ?_ ?_
                  · refine D_rd (fun _ => ?_)
                    refine D_rd (fun _ => ?_)
                    refine D_rd (fun _ => ?_)
                    refine D_rd (fun _ => ?_)
                    refine D_if ?_ ?_
                    · refine D_rd (fun _ => ?_)
                      refine D_rd (fun _ => ?_)
                      refine D_rd (fun _ => ?_)
                      refine D_rd (fun _ => ?_)
                      refine D_if ?_ ?_
                      · exact D_ret _
                      · exact D_ret _
                    · exact D_ret _
                  · exact D_ret _
                · exact D_ret _
              · refine D_if ?_ ?_
                · refine D_rd (fun _ => ?_)
                  refine D_if ?_ ?_
                  · refine D_rd (fun _ => ?_)
                    refine D_rd (fun _ => ?_)
                    refine D_if ?_ ?_
                    · refine D_rd (fun _ => ?_)
                      refine D_rd (fun _ => ?_)
                      refine D_rd (fun _ => ?_)
                      refine D_rd (fun _ => ?_)
                      refine D_if ?_ ?_
                      · refine D_rd (fun _ => ?_)
                        refine D_rd (fun _ => ?_)
                        refine D_rd (fun _ => ?_)
                        refine D_rd (fun _ => ?_)
                        refine D_if ?_ ?_
                        · exact D_ret _
                        · exact D_ret _
                      · exact D_ret _
                    · exact D_ret _
                  · exact D_ret _
                · exact D_ret _
theorem nO_clampedResult (b : Nat)  (a1 : Int32) : Dm (fun w => fO_clampedResult b  a1 w) := by
  unfold fO_clampedResult
  refine D_rd (fun _ => ?_)
  refine D_rd (fun _ => ?_)
  exact D_ret _
theorem nO_denseSum_l4 {b : Nat}  (n : Nat) : ∀ (a1 : Int32) (a2 : Int32) (a3 : Int32), Dm (fun w => fO_denseSum_l4 b  n a1 a2 a3 w) := by
  induction n with
  | zero =>
    intro a1 a2 a3
    exact D_none
  | succ n ih =>
    intro a1 a2 a3
    show Dm (fun w => fO_denseSum_b4 b  (fO_denseSum_l4 b  n) a1 a2 a3 w)
    generalize fO_denseSum_l4 b  n = rec4 at ih ⊢
    have hrec4 := ih
    unfold fO_denseSum_b4
    refine D_rd (fun _ => ?_)
    refine D_rd (fun _ => ?_)
    refine D_if ?_ ?_
    · exact D_ret _
    · refine D_rd (fun _ => ?_)
      refine D_rd (fun _ => D_cl (fun _ _ _ h => nT_distance _ _ _ _ _ h) (fun _ _ => ?_))
      refine D_rd (fun _ => ?_)
      refine D_rd (fun _ => ?_)
      refine D_rd (fun _ => ?_)
      refine D_rd (fun _ => D_cl (fun _ _ _ h => nT_distance _ _ _ _ _ h) (fun _ _ => ?_))
      refine D_bn (fun _ => ?_)
      refine D_bn (fun _ => ?_)
      exact hrec4 _ _ _
theorem nO_denseSum (b : Nat)  (a1 : Int32) : Dm (fun w => fO_denseSum b  a1 w) := by
  unfold fO_denseSum
  exact nO_denseSum_l4  _ _ _ _
theorem nO_greatestOfGroup_l5 {b : Nat}  (n : Nat) : ∀ (a1 : Int32) (a2 : Int32) (a3 : Int32), Dm (fun w => fO_greatestOfGroup_l5 b  n a1 a2 a3 w) := by
  induction n with
  | zero =>
    intro a1 a2 a3
    exact D_none
  | succ n ih =>
    intro a1 a2 a3
    show Dm (fun w => fO_greatestOfGroup_b5 b  (fO_greatestOfGroup_l5 b  n) a1 a2 a3 w)
    generalize fO_greatestOfGroup_l5 b  n = rec5 at ih ⊢
    have hrec5 := ih
    unfold fO_greatestOfGroup_b5
    refine D_rd (fun _ => ?_)
    refine D_if ?_ ?_
    · exact D_ret _
    · refine D_rd (fun _ => ?_)
      refine D_rd (fun _ => ?_)
      refine D_rd (fun _ => ?_)
      refine D_rd (fun _ => ?_)
      refine D_bn (fun _ => ?_)
      refine D_bn (fun _ => ?_)
      exact hrec5 _ _ _
theorem nO_greatestOfGroup (b : Nat)  (a1 : Int32) : Dm (fun w => fO_greatestOfGroup b  a1 w) := by
  unfold fO_greatestOfGroup
  exact nO_greatestOfGroup_l5  _ _ _ _
theorem nO_sumOfGroup_l4 {b : Nat}  (n : Nat) : ∀ (a1 : Int32) (a2 : Int32) (a3 : Int32), Dm (fun w => fO_sumOfGroup_l4 b  n a1 a2 a3 w) := by
  induction n with
  | zero =>
    intro a1 a2 a3
    exact D_none
  | succ n ih =>
    intro a1 a2 a3
    show Dm (fun w => fO_sumOfGroup_b4 b  (fO_sumOfGroup_l4 b  n) a1 a2 a3 w)
    generalize fO_sumOfGroup_l4 b  n = rec4 at ih ⊢
    have hrec4 := ih
    unfold fO_sumOfGroup_b4
    refine D_rd (fun _ => ?_)
    refine D_if ?_ ?_
    · exact D_ret _
    · refine D_rd (fun _ => ?_)
      refine D_rd (fun _ => ?_)
      refine D_rd (fun _ => ?_)
      refine D_rd (fun _ => ?_)
      refine D_bn (fun _ => ?_)
      refine D_bn (fun _ => ?_)
      exact hrec4 _ _ _
theorem nO_sumOfGroup (b : Nat)  (a1 : Int32) : Dm (fun w => fO_sumOfGroup b  a1 w) := by
  unfold fO_sumOfGroup
  exact nO_sumOfGroup_l4  _ _ _ _
theorem nO_resultCell (b : Nat)  (a1 : Int32) (a2 : Nat) : Dm (fun w => fO_resultCell b  a1 a2 w) := by
  unfold fO_resultCell
  refine D_rd (fun _ => ?_)
  refine D_if ?_ ?_
  · refine D_rd (fun _ => D_cl (fun _ _ _ h => nO_denseSum _ _ _ _ _ h) (fun _ _ => ?_))
    refine D_rd (fun _ => D_cl (fun _ _ _ h => nS_applied _ _ _ _ _ h) (fun _ _ => ?_))
    refine D_rd (fun _ => D_cl (fun _ _ _ h => nO_clampedResult _ _ _ _ _ h) (fun _ _ => ?_))
    exact D_ret _
  · refine D_if ?_ ?_
    · refine D_rd (fun _ => ?_)
      refine D_rd (fun _ => D_cl (fun _ _ _ h => nT_distance _ _ _ _ _ h) (fun _ _ => ?_))
      refine D_rd (fun _ => ?_)
      refine D_rd (fun _ => D_cl (fun _ _ _ h => nT_distance _ _ _ _ _ h) (fun _ _ => ?_))
      refine D_rd (fun _ => D_cl (fun _ _ _ h => nS_applied _ _ _ _ _ h) (fun _ _ => ?_))
      refine D_rd (fun _ => D_cl (fun _ _ _ h => nO_clampedResult _ _ _ _ _ h) (fun _ _ => ?_))
      exact D_ret _
    · refine D_if ?_ ?_
      · refine D_rd (fun _ => ?_)
        refine D_rd (fun _ => D_cl (fun _ _ _ h => nT_distance _ _ _ _ _ h) (fun _ _ => ?_))
        refine D_rd (fun _ => ?_)
        refine D_rd (fun _ => D_cl (fun _ _ _ h => nT_distance _ _ _ _ _ h) (fun _ _ => ?_))
        refine D_rd (fun _ => D_cl (fun _ _ _ h => nS_applied _ _ _ _ _ h) (fun _ _ => ?_))
        refine D_rd (fun _ => D_cl (fun _ _ _ h => nO_clampedResult _ _ _ _ _ h) (fun _ _ => ?_))
        exact D_ret _
      · refine D_if ?_ ?_
        · refine D_rd (fun _ => D_cl (fun _ _ _ h => nO_greatestOfGroup _ _ _ _ _ h) (fun _ _ => ?_))
          exact D_ret _
        · refine D_if ?_ ?_
          · refine D_rd (fun _ => D_cl (fun _ _ _ h => nO_sumOfGroup _ _ _ _ _ h) (fun _ _ => ?_))
            refine D_rd (fun _ => ?_)
            refine D_cl (fun _ _ _ h => nN_rounded _ _ _ _ _ h) (fun _ _ => ?_)
            exact D_ret _
          · refine D_if ?_ ?_
            · refine D_rd (fun _ => ?_)
              refine D_rd (fun _ => ?_)
              refine D_rd (fun _ => ?_)
              refine D_rd (fun _ => ?_)
              refine D_rd (fun _ => ?_)
              refine D_rd (fun _ => ?_)
              exact D_ret _
            · refine D_if ?_ ?_
              · refine D_rd (fun _ => ?_)
                refine D_rd (fun _ => ?_)
                refine D_if ?_ ?_
                · refine D_rd (fun _ => ?_)
                  refine D_rd (fun _ => ?_)
                  refine D_rd (fun _ => ?_)
                  refine D_rd (fun _ => ?_)
                  refine D_rd (fun _ => ?_)
                  exact D_ret _
                · refine D_rd (fun _ => ?_)
                  refine D_rd (fun _ => ?_)
                  refine D_rd (fun _ => ?_)
                  exact D_ret _
              · refine D_if ?_ ?_
                · refine D_rd (fun _ => ?_)
                  refine D_rd (fun _ => ?_)
                  refine D_rd (fun _ => ?_)
                  refine D_rd (fun _ => ?_)
                  refine D_rd (fun _ => ?_)
                  exact D_ret _
                · exact D_ret _
theorem nO_makeResult_l2 {b : Nat}  (n : Nat) : ∀ (a1 : Option Nat) (a2 : Int32), Dm (fun w => fO_makeResult_l2 b  n a1 a2 w) := by
  induction n with
  | zero =>
    intro a1 a2
    exact D_none
  | succ n ih =>
    intro a1 a2
    show Dm (fun w => fO_makeResult_b2 b  (fO_makeResult_l2 b  n) a1 a2 w)
    generalize fO_makeResult_l2 b  n = rec2 at ih ⊢
    have hrec2 := ih
    unfold fO_makeResult_b2
    refine D_rd (fun _ => ?_)
    refine D_rd (fun _ => ?_)
    refine D_if ?_ ?_
    · exact D_ret _
    · refine D_rd (fun _ => ?_)
      refine D_rd (fun _ => ?_)
      refine D_rd (fun _ => ?_)
      refine D_rd (fun _ => D_cl (fun _ _ _ h => nO_resultCell _ _ _ _ _ _ h) (fun _ _ => ?_))
      refine D_wr (fun _ _ h => dm_stI _ _ h) (fun _ => ?_)
      refine D_bn (fun _ => ?_)
      exact hrec2 _ _
theorem nO_makeResult (b : Nat)  (a1 : Nat) : Dm (fun w => fO_makeResult b  a1 w) := by
  unfold fO_makeResult
  exact nO_makeResult_l2  _ _ _
theorem nA_init (b : Nat)   : Dm (fun w => fA_init b   w) := by
  unfold fA_init
  refine D_al (fun _ => ?_)
  refine D_cl (fun _ _ _ h => nL_init _ _ _ _ h) (fun _ _ => ?_)
  refine D_wr (fun _ _ h => dm_pQ _ _ h) (fun _ => ?_)
  refine D_wr (fun _ _ h => dm_pI _ _ h) (fun _ => ?_)
  exact D_ret _
theorem nA_isFree_b60 {b : Nat} {rec2 : (Option Nat) → Int32 → Int32 → cW → Option (Int32 × cW)} (hrec2 : ∀ (a1 : Option Nat) (a2 : Int32) (a3 : Int32), Dm (fun w => rec2 a1 a2 a3 w)) (a1 : Option Nat) (a2 : Int32) (a3 : Int32) (a4 : Option Nat) (s0 : Int32) : Dm (fun w => fA_isFree_b60 b rec2 a1 a2 a3 a4 s0 w) := by
  unfold fA_isFree_b60
  refine D_if ?_ ?_
  · refine D_rd (fun _ => ?_)
    refine D_rd (fun _ => D_cl (fun _ _ _ h => nT_meets _ _ _ _ _ h) (fun _ _ => ?_))
    refine D_if ?_ ?_
    · refine D_bn (fun _ => ?_)
      exact hrec2 _ _ _
    · exact D_ret _
  · refine D_bn (fun _ => ?_)
    exact hrec2 _ _ _
theorem nA_isFree_l2 {b : Nat}  (n : Nat) : ∀ (a1 : Option Nat) (a2 : Int32) (a3 : Int32), Dm (fun w => fA_isFree_l2 b  n a1 a2 a3 w) := by
  induction n with
  | zero =>
    intro a1 a2 a3
    exact D_none
  | succ n ih =>
    intro a1 a2 a3
    show Dm (fun w => fA_isFree_b2 b  (fA_isFree_l2 b  n) a1 a2 a3 w)
    generalize fA_isFree_l2 b  n = rec2 at ih ⊢
    have hrec2 := ih
    unfold fA_isFree_b2
    refine D_rd (fun _ => ?_)
    refine D_rd (fun _ => D_cl (fun _ _ _ h => nL_size _ _ _ _ h) (fun _ _ => ?_))
    refine D_if ?_ ?_
    · exact D_ret _
    · refine D_rd (fun _ => ?_)
      refine D_rd (fun _ => D_cl (fun _ _ _ h => nL_get _ _ _ _ _ h) (fun _ _ => ?_))
      refine D_rd (fun _ => ?_)
      refine D_rd (fun _ => ?_)
      refine D_rd (fun _ => ?_)
      refine D_if ?_ ?_
      · exact nA_isFree_b60 hrec2 _ _ _ _ _
      · refine D_rd (fun _ => ?_)
        refine D_rd (fun _ => ?_)
        refine D_if ?_ ?_
        · exact nA_isFree_b60 hrec2 _ _ _ _ _
        · exact nA_isFree_b60 hrec2 _ _ _ _ _
theorem nA_isFree (b : Nat)  (a1 : Nat) (a2 : Int32) : Dm (fun w => fA_isFree b  a1 a2 w) := by
  unfold fA_isFree
  exact nA_isFree_l2  _ _ _ _
theorem nA_leastPlace_l2 {b : Nat}  (n : Nat) : ∀ (a1 : Option Nat) (a2 : Int32), Dm (fun w => fA_leastPlace_l2 b  n a1 a2 w) := by
  induction n with
  | zero =>
    intro a1 a2
    exact D_none
  | succ n ih =>
    intro a1 a2
    show Dm (fun w => fA_leastPlace_b2 b  (fA_leastPlace_l2 b  n) a1 a2 w)
    generalize fA_leastPlace_l2 b  n = rec2 at ih ⊢
    have hrec2 := ih
    unfold fA_leastPlace_b2
    refine D_if ?_ ?_
    · exact D_ret _
    · refine D_rd (fun _ => ?_)
      refine D_rd (fun _ => D_cl (fun _ _ _ h => nA_isFree _ _ _ _ _ _ h) (fun _ _ => ?_))
      refine D_if ?_ ?_
      · refine D_bn (fun _ => ?_)
        exact hrec2 _ _
      · exact D_ret _
theorem nA_leastPlace (b : Nat)  (a1 : Nat) : Dm (fun w => fA_leastPlace b  a1 w) := by
  unfold fA_leastPlace
  exact nA_leastPlace_l2  _ _ _
theorem nA_put (b : Nat)  (a1 : Nat) : Dm (fun w => fA_put b  a1 w) := by
  unfold fA_put
  refine D_rd (fun _ => D_cl (fun _ _ _ h => nA_leastPlace _ _ _ _ _ h) (fun _ _ => ?_))
  refine D_wr (fun _ _ h => dm_pI _ _ h) (fun _ => ?_)
  refine D_rd (fun _ => ?_)
  refine D_rd (fun _ => ?_)
  refine D_rd (fun _ => ?_)
  refine D_wr (fun _ _ h => dm_pI _ _ h) (fun _ => ?_)
  refine D_rd (fun _ => ?_)
  refine D_rd (fun _ => D_cl (fun _ _ _ h => nL_add2 _ _ _ _ _ h) (fun _ _ => ?_))
  exact D_ret _
theorem nA_layOut_l22 {b : Nat} {rec15 : (Option Nat) → Int32 → Nat → cW → Option (Unit × cW)} (hrec15 : ∀ (a1 : Option Nat) (a2 : Int32) (c : Nat), Dm (fun w => rec15 a1 a2 c w)) (n : Nat) : ∀ (a1 : Option Nat) (a2 : Int32) (a3 : Int32) (c : Nat), Dm (fun w => fA_layOut_l22 b rec15 n a1 a2 a3 c w) := by
  induction n with
  | zero =>
    intro a1 a2 a3 c
    exact D_none
  | succ n ih =>
    intro a1 a2 a3 c
    show Dm (fun w => fA_layOut_b22 b rec15 (fA_layOut_l22 b rec15 n) a1 a2 a3 c w)
    generalize fA_layOut_l22 b rec15 n = rec22 at ih ⊢
    have hrec22 := ih
    unfold fA_layOut_b22
    refine D_ifn ?_
    refine D_rd (fun _ => D_cl (fun _ _ _ h => nL_size _ _ _ _ h) (fun _ _ => ?_))
    refine D_if ?_ ?_
    · refine D_bn (fun _ => ?_)
      exact hrec15 _ _ _
    · refine D_ifn ?_
      refine D_rd (fun _ => D_cl (fun _ _ _ h => nL_get _ _ _ _ _ h) (fun _ _ => ?_))
      refine D_rd (fun _ => ?_)
      refine D_rd (fun _ => ?_)
      refine D_if ?_ ?_
      · refine D_bn (fun _ => ?_)
        exact hrec22 _ _ _ _
      · refine D_rd (fun _ => ?_)
        refine D_if ?_ ?_
        · refine D_rd (fun _ => ?_)
          refine D_ifn ?_
          refine D_rd (fun _ => D_cl (fun _ _ _ h => nA_put _ _ _ _ _ h) (fun _ _ => ?_))
          refine D_bn (fun _ => ?_)
          exact hrec22 _ _ _ _
        · refine D_bn (fun _ => ?_)
          exact hrec22 _ _ _ _
theorem nA_layOut_l15 {b : Nat}  (n : Nat) : ∀ (a1 : Option Nat) (a2 : Int32) (c : Nat), Dm (fun w => fA_layOut_l15 b  n a1 a2 c w) := by
  induction n with
  | zero =>
    intro a1 a2 c
    exact D_none
  | succ n ih =>
    intro a1 a2 c
    show Dm (fun w => fA_layOut_b15 b  (fA_layOut_l15 b  n) a1 a2 c w)
    generalize fA_layOut_l15 b  n = rec15 at ih ⊢
    have hrec15 := ih
    unfold fA_layOut_b15
    refine D_if ?_ ?_
    · refine D_ifn ?_
      exact D_ret _
    · exact nA_layOut_l22 hrec15 _ _ _ _ _
theorem nA_layOut (b : Nat)  (a1 : Nat) : Dm (fun w => fA_layOut b  a1 w) := by
  unfold fA_layOut
  refine D_rd (fun _ => ?_)
  refine D_rd (fun _ => D_cl (fun _ _ _ h => nL_clear _ _ _ _ h) (fun _ _ => ?_))
  refine D_wr (fun _ _ h => dm_pI _ _ h) (fun _ => ?_)
  exact nA_layOut_l15  _ _ _ _
theorem nA_sumOfLengths_l4 {b : Nat}  (n : Nat) : ∀ (a1 : Int32) (a2 : Int32), Dm (fun w => fA_sumOfLengths_l4 b  n a1 a2 w) := by
  induction n with
  | zero =>
    intro a1 a2
    exact D_none
  | succ n ih =>
    intro a1 a2
    show Dm (fun w => fA_sumOfLengths_b4 b  (fA_sumOfLengths_l4 b  n) a1 a2 w)
    generalize fA_sumOfLengths_l4 b  n = rec4 at ih ⊢
    have hrec4 := ih
    unfold fA_sumOfLengths_b4
    refine D_rd (fun _ => ?_)
    refine D_rd (fun _ => D_cl (fun _ _ _ h => nL_size _ _ _ _ h) (fun _ _ => ?_))
    refine D_if ?_ ?_
    · exact D_ret _
    · refine D_rd (fun _ => ?_)
      refine D_rd (fun _ => D_cl (fun _ _ _ h => nL_get _ _ _ _ _ h) (fun _ _ => ?_))
      refine D_rd (fun _ => ?_)
      refine D_rd (fun _ => ?_)
      refine D_bn (fun _ => ?_)
      refine D_bn (fun _ => ?_)
      exact hrec4 _ _
theorem nA_sumOfLengths (b : Nat)   : Dm (fun w => fA_sumOfLengths b   w) := by
  unfold fA_sumOfLengths
  exact nA_sumOfLengths_l4  _ _ _
theorem nN_init_l58 {b : Nat}  (n : Nat) : ∀ (a1 : Int32) (c : Nat), Dm (fun w => fN_init_l58 b  n a1 c w) := by
  induction n with
  | zero =>
    intro a1 c
    exact D_none
  | succ n ih =>
    intro a1 c
    show Dm (fun w => fN_init_b58 b  (fN_init_l58 b  n) a1 c w)
    generalize fN_init_l58 b  n = rec58 at ih ⊢
    have hrec58 := ih
    unfold fN_init_b58
    refine D_if ?_ ?_
    · refine D_ifn ?_
      exact D_ret _
    · refine D_rd (fun _ => ?_)
      refine D_ifn ?_
      refine D_al (fun _ => ?_)
      refine D_ifn ?_
      refine D_cl (fun _ _ _ h => nS_init _ _ _ _ h) (fun _ _ => ?_)
      refine D_wr (fun _ _ h => dm_stQ _ _ h) (fun _ => ?_)
      refine D_bn (fun _ => ?_)
      exact hrec58 _ _
theorem nN_init (b : Nat)   : Dm (fun w => fN_init b   w) := by
  unfold fN_init
  refine D_al (fun _ => ?_)
  refine D_cl (fun _ _ _ h => nL_init _ _ _ _ h) (fun _ _ => ?_)
  refine D_wr (fun _ _ h => dm_pQ _ _ h) (fun _ => ?_)
  refine D_al (fun _ => ?_)
  refine D_cl (fun _ _ _ h => nL_init _ _ _ _ h) (fun _ _ => ?_)
  refine D_wr (fun _ _ h => dm_pQ _ _ h) (fun _ => ?_)
  refine D_wr (fun _ _ h => dm_alQ _ _ h) (fun _ => ?_)
  refine D_wr (fun _ _ h => dm_pQ _ _ h) (fun _ => ?_)
  refine D_al (fun _ => ?_)
  refine D_cl (fun _ _ _ h => nA_init _ _ _ _ h) (fun _ _ => ?_)
  refine D_wr (fun _ _ h => dm_pQ _ _ h) (fun _ => ?_)
  refine D_wr (fun _ _ h => dm_pZ _ _ h) (fun _ => ?_)
  refine D_wr (fun _ _ h => dm_pI _ _ h) (fun _ => ?_)
  exact nN_init_l58  _ _ _
theorem nN_tensorAt (b : Nat)  (a1 : Int32) : Dm (fun w => fN_tensorAt b  a1 w) := by
  unfold fN_tensorAt
  refine D_if ?_ ?_
  · exact D_ret _
  · refine D_rd (fun _ => ?_)
    refine D_rd (fun _ => D_cl (fun _ _ _ h => nL_size _ _ _ _ h) (fun _ _ => ?_))
    refine D_if ?_ ?_
    · exact D_ret _
    · refine D_rd (fun _ => ?_)
      refine D_rd (fun _ => D_cl (fun _ _ _ h => nL_get _ _ _ _ _ h) (fun _ _ => ?_))
      refine D_rd (fun _ => ?_)
      exact D_ret _
theorem nN_livingTensorAt (b : Nat)  (a1 : Int32) : Dm (fun w => fN_livingTensorAt b  a1 w) := by
  unfold fN_livingTensorAt
  refine D_rd (fun _ => D_cl (fun _ _ _ h => nN_tensorAt _ _ _ _ _ h) (fun _ _ => ?_))
  refine D_rd (fun _ => ?_)
  refine D_if ?_ ?_
  · exact D_ret _
  · refine D_if ?_ ?_
    · exact D_ret _
    · refine D_rd (fun _ => ?_)
      refine D_if ?_ ?_
      · exact D_ret _
      · exact D_ret _
theorem nN_isUnmadeBefore_l12 {b : Nat}  (n : Nat) : ∀ (a1 : Int32) (a2 : Option Nat) (a3 : Int32), Dm (fun w => fN_isUnmadeBefore_l12 b  n a1 a2 a3 w) := by
  induction n with
  | zero =>
    intro a1 a2 a3
    exact D_none
  | succ n ih =>
    intro a1 a2 a3
    show Dm (fun w => fN_isUnmadeBefore_b12 b  (fN_isUnmadeBefore_l12 b  n) a1 a2 a3 w)
    generalize fN_isUnmadeBefore_l12 b  n = rec12 at ih ⊢
    have hrec12 := ih
    unfold fN_isUnmadeBefore_b12
    refine D_if ?_ ?_
    · exact D_ret _
    · refine D_rd (fun _ => ?_)
      refine D_rd (fun _ => D_cl (fun _ _ _ h => nL_get _ _ _ _ _ h) (fun _ _ => ?_))
      refine D_rd (fun _ => ?_)
      refine D_rd (fun _ => ?_)
      refine D_if ?_ ?_
      · exact D_ret _
      · refine D_bn (fun _ => ?_)
        exact hrec12 _ _ _
theorem nN_isUnmadeBefore (b : Nat)  (a1 : Int32) (a2 : Nat) : Dm (fun w => fN_isUnmadeBefore b  a1 a2 w) := by
  unfold fN_isUnmadeBefore
  refine D_rd (fun _ => ?_)
  refine D_if ?_ ?_
  · exact nN_isUnmadeBefore_l12  _ _ _ _
  · exact D_ret _
theorem nN_faultOf (b : Nat)  (a1 : Int32) : Dm (fun w => fN_faultOf b  a1 w) := by
  unfold fN_faultOf
  refine D_rd (fun _ => ?_)
  refine D_rd (fun _ => D_cl (fun _ _ _ h => nL_get _ _ _ _ _ h) (fun _ _ => ?_))
  refine D_rd (fun _ => ?_)
  refine D_rd (fun _ => ?_)
  refine D_rd (fun _ => ?_)
  refine D_rd (fun _ => D_cl (fun _ _ _ h => nN_isUnmadeBefore _ _ _ _ _ _ h) (fun _ _ => ?_))
  refine D_if ?_ ?_
  · exact D_ret _
  · refine D_rd (fun _ => ?_)
    refine D_rd (fun _ => ?_)
    refine D_rd (fun _ => D_cl (fun _ _ _ h => nN_isUnmadeBefore _ _ _ _ _ _ h) (fun _ _ => ?_))
    refine D_if ?_ ?_
    · refine D_rd (fun _ => ?_)
      refine D_rd (fun _ => ?_)
      refine D_rd (fun _ => D_cl (fun _ _ _ h => nN_isUnmadeBefore _ _ _ _ _ _ h) (fun _ _ => ?_))
      refine D_if ?_ ?_
      · refine D_rd (fun _ => D_cl (fun _ _ _ h => nO_fits _ _ _ _ h) (fun _ _ => ?_))
        refine D_if ?_ ?_
        · exact D_ret _
        · exact D_ret _
      · exact D_ret _
    · exact D_ret _
theorem nN_firstFault_l40 {b : Nat}  (n : Nat) : ∀ (a1 : Int32), Dm (fun w => fN_firstFault_l40 b  n a1 w) := by
  induction n with
  | zero =>
    intro a1
    exact D_none
  | succ n ih =>
    intro a1
    show Dm (fun w => fN_firstFault_b40 b  (fN_firstFault_l40 b  n) a1 w)
    generalize fN_firstFault_l40 b  n = rec40 at ih ⊢
    have hrec40 := ih
    unfold fN_firstFault_b40
    refine D_rd (fun _ => ?_)
    refine D_rd (fun _ => D_cl (fun _ _ _ h => nL_size _ _ _ _ h) (fun _ _ => ?_))
    refine D_if ?_ ?_
    · exact D_ret _
    · refine D_rd (fun _ => ?_)
      refine D_rd (fun _ => D_cl (fun _ _ _ h => nL_get _ _ _ _ _ h) (fun _ _ => ?_))
      refine D_rd (fun _ => ?_)
      refine D_rd (fun _ => ?_)
      refine D_if ?_ ?_
      · refine D_bn (fun _ => ?_)
        exact hrec40 _
      · refine D_rd (fun _ => ?_)
        refine D_rd (fun _ => D_cl (fun _ _ _ h => nL_size _ _ _ _ h) (fun _ _ => ?_))
        refine D_rd (fun _ => ?_)
        refine D_rd (fun _ => D_cl (fun _ _ _ h => nN_isUnmadeBefore _ _ _ _ _ _ h) (fun _ _ => ?_))
        refine D_if ?_ ?_
        · refine D_bn (fun _ => ?_)
          exact hrec40 _
        · exact D_ret _
theorem nN_firstFault_b23 {b : Nat}  (a1 : Int32) (a2 : Int32) : Dm (fun w => fN_firstFault_b23 b  a1 a2 w) := by
  unfold fN_firstFault_b23
  exact D_ret _
theorem nN_firstFault_l2 {b : Nat}  (n : Nat) : ∀ (a1 : Int32), Dm (fun w => fN_firstFault_l2 b  n a1 w) := by
  induction n with
  | zero =>
    intro a1
    exact D_none
  | succ n ih =>
    intro a1
    show Dm (fun w => fN_firstFault_b2 b  (fN_firstFault_l2 b  n) a1 w)
    generalize fN_firstFault_l2 b  n = rec2 at ih ⊢
    have hrec2 := ih
    unfold fN_firstFault_b2
    refine D_rd (fun _ => ?_)
    refine D_rd (fun _ => D_cl (fun _ _ _ h => nL_size _ _ _ _ h) (fun _ _ => ?_))
    refine D_if ?_ ?_
    · exact nN_firstFault_l40  _ _
    · refine D_rd (fun _ => D_cl (fun _ _ _ h => nN_faultOf _ _ _ _ _ h) (fun _ _ => ?_))
      refine D_if ?_ ?_
      · refine D_bn (fun _ => ?_)
        exact hrec2 _
      · exact nN_firstFault_b23  _ _
theorem nN_firstFault (b : Nat)   : Dm (fun w => fN_firstFault b   w) := by
  unfold fN_firstFault
  exact nN_firstFault_l2  _ _
theorem nN_giveLives_l90 {b : Nat}  (n : Nat) : ∀ (a1 : Int32), Dm (fun w => fN_giveLives_l90 b  n a1 w) := by
  induction n with
  | zero =>
    intro a1
    exact D_none
  | succ n ih =>
    intro a1
    show Dm (fun w => fN_giveLives_b90 b  (fN_giveLives_l90 b  n) a1 w)
    generalize fN_giveLives_l90 b  n = rec90 at ih ⊢
    have hrec90 := ih
    unfold fN_giveLives_b90
    refine D_rd (fun _ => ?_)
    refine D_rd (fun _ => D_cl (fun _ _ _ h => nL_size _ _ _ _ h) (fun _ _ => ?_))
    refine D_if ?_ ?_
    · exact D_ret _
    · refine D_rd (fun _ => ?_)
      refine D_rd (fun _ => D_cl (fun _ _ _ h => nL_get _ _ _ _ _ h) (fun _ _ => ?_))
      refine D_rd (fun _ => ?_)
      refine D_rd (fun _ => ?_)
      refine D_if ?_ ?_
      · refine D_bn (fun _ => ?_)
        exact hrec90 _
      · refine D_rd (fun _ => ?_)
        refine D_rd (fun _ => D_cl (fun _ _ _ h => nL_size _ _ _ _ h) (fun _ _ => ?_))
        refine D_wr (fun _ _ h => dm_pI _ _ h) (fun _ => ?_)
        refine D_bn (fun _ => ?_)
        exact hrec90 _
theorem nN_giveLives_l35 {b : Nat}  (n : Nat) : ∀ (a1 : Int32), Dm (fun w => fN_giveLives_l35 b  n a1 w) := by
  induction n with
  | zero =>
    intro a1
    exact D_none
  | succ n ih =>
    intro a1
    show Dm (fun w => fN_giveLives_b35 b  (fN_giveLives_l35 b  n) a1 w)
    generalize fN_giveLives_l35 b  n = rec35 at ih ⊢
    have hrec35 := ih
    unfold fN_giveLives_b35
    refine D_rd (fun _ => ?_)
    refine D_rd (fun _ => D_cl (fun _ _ _ h => nL_size _ _ _ _ h) (fun _ _ => ?_))
    refine D_if ?_ ?_
    · exact nN_giveLives_l90  _ _
    · refine D_rd (fun _ => ?_)
      refine D_rd (fun _ => D_cl (fun _ _ _ h => nL_get _ _ _ _ _ h) (fun _ _ => ?_))
      refine D_rd (fun _ => ?_)
      refine D_rd (fun _ => ?_)
      refine D_wr (fun _ _ h => dm_pI _ _ h) (fun _ => ?_)
      refine D_rd (fun _ => ?_)
      refine D_wr (fun _ _ h => dm_pI _ _ h) (fun _ => ?_)
      refine D_rd (fun _ => ?_)
      refine D_rd (fun _ => D_cl (fun _ _ _ h => nT_beginLife _ _ _ _ _ h) (fun _ _ => ?_))
      refine D_bn (fun _ => ?_)
      exact hrec35 _
theorem nN_giveLives_l2 {b : Nat}  (n : Nat) : ∀ (a1 : Int32), Dm (fun w => fN_giveLives_l2 b  n a1 w) := by
  induction n with
  | zero =>
    intro a1
    exact D_none
  | succ n ih =>
    intro a1
    show Dm (fun w => fN_giveLives_b2 b  (fN_giveLives_l2 b  n) a1 w)
    generalize fN_giveLives_l2 b  n = rec2 at ih ⊢
    have hrec2 := ih
    unfold fN_giveLives_b2
    refine D_rd (fun _ => ?_)
    refine D_rd (fun _ => D_cl (fun _ _ _ h => nL_size _ _ _ _ h) (fun _ _ => ?_))
    refine D_if ?_ ?_
    · exact nN_giveLives_l35  _ _
    · refine D_rd (fun _ => ?_)
      refine D_rd (fun _ => D_cl (fun _ _ _ h => nL_get _ _ _ _ _ h) (fun _ _ => ?_))
      refine D_rd (fun _ => ?_)
      refine D_rd (fun _ => D_cl (fun _ _ _ h => nT_resetLife _ _ _ _ h) (fun _ _ => ?_))
      refine D_bn (fun _ => ?_)
      exact hrec2 _
theorem nN_giveLives (b : Nat)   : Dm (fun w => fN_giveLives b   w) := by
  unfold fN_giveLives
  exact nN_giveLives_l2  _ _
theorem nN_doNext (b : Nat)   : Dm (fun w => fN_doNext b   w) := by
  unfold fN_doNext
  refine D_rd (fun _ => ?_)
  refine D_rd (fun _ => ?_)
  refine D_rd (fun _ => D_cl (fun _ _ _ h => nL_get _ _ _ _ _ h) (fun _ _ => ?_))
  refine D_rd (fun _ => ?_)
  refine D_rd (fun _ => ?_)
  refine D_rd (fun _ => ?_)
  refine D_rd (fun _ => ?_)
  refine D_rd (fun _ => ?_)
  refine D_rd (fun _ => D_cl (fun _ _ _ h => nO_makeResult _ _ _ _ _ h) (fun _ _ => ?_))
  refine D_rd (fun _ => ?_)
  refine D_wr (fun _ _ h => dm_pI _ _ h) (fun _ => ?_)
  exact D_ret _
theorem nN_tensor (b : Nat)  (a1 : Int32) (a2 : Int32) (a3 : Int32) : Dm (fun w => fN_tensor b  a1 a2 a3 w) := by
  unfold fN_tensor
  refine D_cl (fun _ _ _ h => nN_isWithin _ _ _ _ _ _ h) (fun _ _ => ?_)
  refine D_if ?_ ?_
  · exact D_ret _
  · refine D_cl (fun _ _ _ h => nT_greatestLength _ _ _ _ h) (fun _ _ => ?_)
    refine D_cl (fun _ _ _ h => nN_isWithin _ _ _ _ _ _ h) (fun _ _ => ?_)
    refine D_if ?_ ?_
    · exact D_ret _
    · refine D_cl (fun _ _ _ h => nN_isCellValue _ _ _ _ h) (fun _ _ => ?_)
      refine D_if ?_ ?_
      · exact D_ret _
      · refine D_rd (fun _ => ?_)
        refine D_if ?_ ?_
        · refine D_rd (fun _ => ?_)
          refine D_rd (fun _ => D_cl (fun _ _ _ h => nL_size _ _ _ _ h) (fun _ _ => ?_))
          refine D_if ?_ ?_
          · refine D_rd (fun _ => ?_)
            refine D_rd (fun _ => D_cl (fun _ _ _ h => nL_size _ _ _ _ h) (fun _ _ => ?_))
            refine D_rd (fun _ => ?_)
            refine D_al (fun _ => ?_)
            refine D_cl (fun _ _ _ h => nT_init _ _ _ _ _ _ _ _ h) (fun _ _ => ?_)
            refine D_rd (fun _ => D_cl (fun _ _ _ h => nL_add2 _ _ _ _ _ h) (fun _ _ => ?_))
            exact D_ret _
          · exact D_ret _
        · exact D_ret _
theorem nN_set (b : Nat)  (a1 : Int32) (a2 : Int32) (a3 : Int32) : Dm (fun w => fN_set b  a1 a2 a3 w) := by
  unfold fN_set
  refine D_rd (fun _ => D_cl (fun _ _ _ h => nN_tensorAt _ _ _ _ _ h) (fun _ _ => ?_))
  refine D_if ?_ ?_
  · exact D_ret _
  · refine D_rd (fun _ => ?_)
    refine D_if ?_ ?_
    · exact D_ret _
    · refine D_rd (fun _ => D_cl (fun _ _ _ h => nT_hasCell _ _ _ _ _ h) (fun _ _ => ?_))
      refine D_if ?_ ?_
      · exact D_ret _
      · refine D_cl (fun _ _ _ h => nN_isCellValue _ _ _ _ h) (fun _ _ => ?_)
        refine D_if ?_ ?_
        · exact D_ret _
        · refine D_rd (fun _ => ?_)
          refine D_if ?_ ?_
          · refine D_rd (fun _ => ?_)
            refine D_wr (fun _ _ h => dm_stI _ _ h) (fun _ => ?_)
            exact D_ret _
          · refine D_rd (fun _ => ?_)
            refine D_if ?_ ?_
            · exact D_ret _
            · refine D_rd (fun _ => ?_)
              refine D_wr (fun _ _ h => dm_stI _ _ h) (fun _ => ?_)
              exact D_ret _
theorem nN_scale (b : Nat)  (a1 : Int32) (a2 : Int32) (a3 : Int32) : Dm (fun w => fN_scale b  a1 a2 a3 w) := by
  unfold fN_scale
  refine D_cl (fun _ _ _ h => nN_isScale _ _ _ _ h) (fun _ _ => ?_)
  refine D_if ?_ ?_
  · exact D_ret _
  · refine D_if ?_ ?_
    · exact D_ret _
    · refine D_cl (fun _ _ _ h => nN_isWithin _ _ _ _ _ _ h) (fun _ _ => ?_)
      refine D_if ?_ ?_
      · exact D_ret _
      · refine D_rd (fun _ => ?_)
        refine D_if ?_ ?_
        · refine D_rd (fun _ => ?_)
          refine D_rd (fun _ => ?_)
          refine D_wr (fun _ _ h => dm_pI _ _ h) (fun _ => ?_)
          refine D_rd (fun _ => ?_)
          refine D_rd (fun _ => ?_)
          refine D_wr (fun _ _ h => dm_pI _ _ h) (fun _ => ?_)
          exact D_ret _
        · exact D_ret _
theorem nN_operator (b : Nat)  (a1 : Int32) (a2 : Int32) (a3 : Int32) (a4 : Int32) (a5 : Int32) : Dm (fun w => fN_operator b  a1 a2 a3 a4 a5 w) := by
  unfold fN_operator
  refine D_rd (fun _ => D_cl (fun _ _ _ h => nN_tensorAt _ _ _ _ _ h) (fun _ _ => ?_))
  refine D_rd (fun _ => D_cl (fun _ _ _ h => nN_tensorAt _ _ _ _ _ h) (fun _ _ => ?_))
  refine D_rd (fun _ => D_cl (fun _ _ _ h => nN_tensorAt _ _ _ _ _ h) (fun _ _ => ?_))
  refine D_cl (fun _ _ _ h => nN_isWithin _ _ _ _ _ _ h) (fun _ _ => ?_)
  refine D_if ?_ ?_
  · exact D_ret _
  · refine D_if ?_ ?_
    · exact D_ret _
    · refine D_if ?_ ?_
      · exact D_ret _
      · refine D_if ?_ ?_
        · exact D_ret _
        · refine D_cl (fun _ _ _ h => nN_isScale _ _ _ _ h) (fun _ _ => ?_)
          refine D_if ?_ ?_
          · exact D_ret _
          · refine D_rd (fun _ => ?_)
            refine D_if ?_ ?_
            · refine D_rd (fun _ => ?_)
              refine D_rd (fun _ => D_cl (fun _ _ _ h => nL_size _ _ _ _ h) (fun _ _ => ?_))
              refine D_if ?_ ?_
              · refine D_rd (fun _ => ?_)
                refine D_al (fun _ => ?_)
                refine D_rd (fun _ => ?_)
                refine D_rd (fun _ => ?_)
                refine D_rd (fun _ => ?_)
                refine D_cl (fun _ _ _ h => nO_init _ _ _ _ _ _ _ _ _ h) (fun _ _ => ?_)
                refine D_rd (fun _ => D_cl (fun _ _ _ h => nL_add2 _ _ _ _ _ h) (fun _ _ => ?_))
                refine D_rd (fun _ => ?_)
                refine D_rd (fun _ => D_cl (fun _ _ _ h => nL_size _ _ _ _ h) (fun _ _ => ?_))
                exact D_ret _
              · exact D_ret _
            · exact D_ret _
theorem nN_keep (b : Nat)  (a1 : Int32) (a2 : Int32) : Dm (fun w => fN_keep b  a1 a2 w) := by
  unfold fN_keep
  refine D_rd (fun _ => D_cl (fun _ _ _ h => nN_tensorAt _ _ _ _ _ h) (fun _ _ => ?_))
  refine D_if ?_ ?_
  · exact D_ret _
  · refine D_rd (fun _ => ?_)
    refine D_if ?_ ?_
    · exact D_ret _
    · refine D_rd (fun _ => ?_)
      refine D_if ?_ ?_
      · refine D_wr (fun _ _ h => dm_pZ _ _ h) (fun _ => ?_)
        exact D_ret _
      · exact D_ret _
theorem nN_prepare (b : Nat)   : Dm (fun w => fN_prepare b   w) := by
  unfold fN_prepare
  refine D_rd (fun _ => ?_)
  refine D_if ?_ ?_
  · refine D_rd (fun _ => D_cl (fun _ _ _ h => nN_firstFault _ _ _ _ h) (fun _ _ => ?_))
    refine D_if ?_ ?_
    · refine D_rd (fun _ => D_cl (fun _ _ _ h => nN_giveLives _ _ _ _ h) (fun _ _ => ?_))
      refine D_rd (fun _ => ?_)
      refine D_rd (fun _ => ?_)
      refine D_rd (fun _ => ?_)
      refine D_rd (fun _ => D_cl (fun _ _ _ h => nA_layOut _ _ _ _ _ h) (fun _ _ => ?_))
      refine D_wr (fun _ _ h => dm_pZ _ _ h) (fun _ => ?_)
      refine D_rd (fun _ => ?_)
      refine D_rd (fun _ => ?_)
      exact D_ret _
    · exact D_ret _
  · exact D_ret _
theorem nN_reopen (b : Nat)   : Dm (fun w => fN_reopen b   w) := by
  unfold fN_reopen
  refine D_rd (fun _ => ?_)
  refine D_if ?_ ?_
  · exact D_ret _
  · refine D_wr (fun _ _ h => dm_pZ _ _ h) (fun _ => ?_)
    refine D_wr (fun _ _ h => dm_pI _ _ h) (fun _ => ?_)
    exact D_ret _
theorem nN_start_b43 {b : Nat}   : Dm (fun w => fN_start_b43 b   w) := by
  unfold fN_start_b43
  refine D_wr (fun _ _ h => dm_pI _ _ h) (fun _ => ?_)
  refine D_rd (fun _ => ?_)
  refine D_rd (fun _ => D_cl (fun _ _ _ h => nL_size _ _ _ _ h) (fun _ _ => ?_))
  exact D_ret _
theorem nN_start_l12 {b : Nat}  (n : Nat) : ∀ (a1 : Int32), Dm (fun w => fN_start_l12 b  n a1 w) := by
  induction n with
  | zero =>
    intro a1
    exact D_none
  | succ n ih =>
    intro a1
    show Dm (fun w => fN_start_b12 b  (fN_start_l12 b  n) a1 w)
    generalize fN_start_l12 b  n = rec12 at ih ⊢
    have hrec12 := ih
    unfold fN_start_b12
    refine D_rd (fun _ => ?_)
    refine D_rd (fun _ => D_cl (fun _ _ _ h => nL_size _ _ _ _ h) (fun _ _ => ?_))
    refine D_if ?_ ?_
    · exact nN_start_b43  
    · refine D_rd (fun _ => ?_)
      refine D_rd (fun _ => D_cl (fun _ _ _ h => nL_get _ _ _ _ _ h) (fun _ _ => ?_))
      refine D_rd (fun _ => ?_)
      refine D_rd (fun _ => D_cl (fun _ _ _ h => nT_takeGiven _ _ _ _ h) (fun _ _ => ?_))
      refine D_bn (fun _ => ?_)
      exact hrec12 _
theorem nN_start (b : Nat)   : Dm (fun w => fN_start b   w) := by
  unfold fN_start
  refine D_rd (fun _ => ?_)
  refine D_if ?_ ?_
  · exact D_ret _
  · exact nN_start_l12  _ _
theorem nN_step (b : Nat)   : Dm (fun w => fN_step b   w) := by
  unfold fN_step
  refine D_rd (fun _ => ?_)
  refine D_if ?_ ?_
  · exact D_ret _
  · refine D_rd (fun _ => ?_)
    refine D_rd (fun _ => ?_)
    refine D_rd (fun _ => D_cl (fun _ _ _ h => nL_size _ _ _ _ h) (fun _ _ => ?_))
    refine D_if ?_ ?_
    · refine D_rd (fun _ => D_cl (fun _ _ _ h => nN_doNext _ _ _ _ h) (fun _ _ => ?_))
      refine D_rd (fun _ => ?_)
      exact D_ret _
    · exact D_ret _
theorem nN_finish_l26 {b : Nat}  (n : Nat) : ∀ (a1 : Int32) (a2 : Int32), Dm (fun w => fN_finish_l26 b  n a1 a2 w) := by
  induction n with
  | zero =>
    intro a1 a2
    exact D_none
  | succ n ih =>
    intro a1 a2
    show Dm (fun w => fN_finish_b26 b  (fN_finish_l26 b  n) a1 a2 w)
    generalize fN_finish_l26 b  n = rec26 at ih ⊢
    have hrec26 := ih
    unfold fN_finish_b26
    refine D_if ?_ ?_
    · exact D_ret _
    · refine D_rd (fun _ => D_cl (fun _ _ _ h => nN_doNext _ _ _ _ h) (fun _ _ => ?_))
      refine D_bn (fun _ => ?_)
      exact hrec26 _ _
theorem nN_finish (b : Nat)   : Dm (fun w => fN_finish b   w) := by
  unfold fN_finish
  refine D_rd (fun _ => ?_)
  refine D_if ?_ ?_
  · exact D_ret _
  · refine D_rd (fun _ => ?_)
    refine D_rd (fun _ => D_cl (fun _ _ _ h => nL_size _ _ _ _ h) (fun _ _ => ?_))
    refine D_rd (fun _ => ?_)
    refine D_bn (fun _ => ?_)
    exact nN_finish_l26  _ _ _
theorem nN_cell (b : Nat)  (a1 : Int32) (a2 : Int32) : Dm (fun w => fN_cell b  a1 a2 w) := by
  unfold fN_cell
  refine D_rd (fun _ => D_cl (fun _ _ _ h => nN_tensorAt _ _ _ _ _ h) (fun _ _ => ?_))
  refine D_if ?_ ?_
  · exact D_ret _
  · refine D_rd (fun _ => D_cl (fun _ _ _ h => nT_hasCell _ _ _ _ _ h) (fun _ _ => ?_))
    refine D_if ?_ ?_
    · exact D_ret _
    · refine D_rd (fun _ => ?_)
      refine D_if ?_ ?_
      · refine D_rd (fun _ => ?_)
        refine D_rd (fun _ => ?_)
        exact D_ret _
      · refine D_rd (fun _ => ?_)
        refine D_if ?_ ?_
        · exact D_ret _
        · refine D_rd (fun _ => ?_)
          refine D_rd (fun _ => D_cl (fun _ _ _ h => nT_livesAfter _ _ _ _ _ h) (fun _ _ => ?_))
          refine D_if ?_ ?_
          · exact D_ret _
          · refine D_rd (fun _ => ?_)
            refine D_rd (fun _ => ?_)
            exact D_ret _
theorem nN_offset (b : Nat)  (a1 : Int32) : Dm (fun w => fN_offset b  a1 w) := by
  unfold fN_offset
  refine D_rd (fun _ => D_cl (fun _ _ _ h => nN_livingTensorAt _ _ _ _ _ h) (fun _ _ => ?_))
  refine D_if ?_ ?_
  · exact D_ret _
  · refine D_rd (fun _ => ?_)
    exact D_ret _
theorem nN_life (b : Nat)  (a1 : Int32) (a2 : Int32) : Dm (fun w => fN_life b  a1 a2 w) := by
  unfold fN_life
  refine D_rd (fun _ => D_cl (fun _ _ _ h => nN_livingTensorAt _ _ _ _ _ h) (fun _ _ => ?_))
  refine D_if ?_ ?_
  · exact D_ret _
  · refine D_if ?_ ?_
    · refine D_rd (fun _ => ?_)
      exact D_ret _
    · refine D_rd (fun _ => ?_)
      exact D_ret _
theorem nN_placed (b : Nat)  (a1 : Int32) : Dm (fun w => fN_placed b  a1 w) := by
  unfold fN_placed
  refine D_rd (fun _ => ?_)
  refine D_if ?_ ?_
  · exact D_ret _
  · refine D_if ?_ ?_
    · exact D_ret _
    · refine D_rd (fun _ => ?_)
      refine D_rd (fun _ => ?_)
      refine D_rd (fun _ => D_cl (fun _ _ _ h => nL_size _ _ _ _ h) (fun _ _ => ?_))
      refine D_if ?_ ?_
      · refine D_rd (fun _ => ?_)
        refine D_rd (fun _ => ?_)
        refine D_rd (fun _ => D_cl (fun _ _ _ h => nL_get _ _ _ _ _ h) (fun _ _ => ?_))
        refine D_rd (fun _ => ?_)
        refine D_rd (fun _ => ?_)
        exact D_ret _
      · exact D_ret _
theorem nN_scaled (b : Nat)  (a1 : Int32) (a2 : Int32) : Dm (fun w => fN_scaled b  a1 a2 w) := by
  unfold fN_scaled
  refine D_cl (fun _ _ _ h => nN_isScale _ _ _ _ h) (fun _ _ => ?_)
  refine D_if ?_ ?_
  · exact D_ret _
  · refine D_cl (fun _ _ _ h => nN_isWithin _ _ _ _ _ _ h) (fun _ _ => ?_)
    refine D_if ?_ ?_
    · exact D_ret _
    · refine D_rd (fun _ => ?_)
      refine D_rd (fun _ => ?_)
      refine D_rd (fun _ => D_cl (fun _ _ _ h => nS_applied _ _ _ _ _ h) (fun _ _ => ?_))
      exact D_ret _
theorem nN_count (b : Nat)  (a1 : Int32) : Dm (fun w => fN_count b  a1 w) := by
  unfold fN_count
  refine D_if ?_ ?_
  · refine D_rd (fun _ => ?_)
    refine D_rd (fun _ => D_cl (fun _ _ _ h => nL_size _ _ _ _ h) (fun _ _ => ?_))
    exact D_ret _
  · refine D_if ?_ ?_
    · refine D_rd (fun _ => ?_)
      refine D_rd (fun _ => D_cl (fun _ _ _ h => nL_size _ _ _ _ h) (fun _ _ => ?_))
      exact D_ret _
    · refine D_if ?_ ?_
      · refine D_rd (fun _ => ?_)
        refine D_if ?_ ?_
        · exact D_ret _
        · exact D_ret _
      · refine D_if ?_ ?_
        · refine D_rd (fun _ => ?_)
          exact D_ret _
        · refine D_if ?_ ?_
          · refine D_rd (fun _ => ?_)
            refine D_if ?_ ?_
            · exact D_ret _
            · refine D_rd (fun _ => ?_)
              refine D_rd (fun _ => ?_)
              exact D_ret _
          · refine D_if ?_ ?_
            · refine D_rd (fun _ => ?_)
              refine D_if ?_ ?_
              · exact D_ret _
              · refine D_rd (fun _ => ?_)
                refine D_rd (fun _ => D_cl (fun _ _ _ h => nA_sumOfLengths _ _ _ _ h) (fun _ _ => ?_))
                exact D_ret _
            · exact D_ret _
