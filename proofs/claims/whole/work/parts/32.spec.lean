/-! WHAT BOTH SIDES ANSWER, as functions of the reference's state; the reference's side -/
theorem nI_N {x : Int32} (h : ¬ x < 0) : x = nI x.toNatClampNeg := by
  obtain ⟨j, hj, rfl⟩ := nI_of h
  rw [nI_clamp hj]
theorem Neq0 (S : sM) (j i : Nat) : nI (N S j i) = (0 : Int32) ↔ N S j i = 0 := nI_eq (N_lt S j i) (by decide)
theorem Nge0 (S : sM) (j i : Nat) : (0 : Int32) ≤ nI (N S j i) ↔ 0 ≤ N S j i := nI_leI (by decide) (N_lt S j i)
theorem Nlt0 (S : sM) (j i : Nat) : nI (N S j i) < (0 : Int32) ↔ N S j i < 0 := nI_ltI (N_lt S j i) (by decide)
theorem Ngt0 (S : sM) (j i : Nat) : (0 : Int32) < nI (N S j i) ↔ 0 < N S j i := nI_ltI (by decide) (N_lt S j i)
theorem Neq1 (S : sM) (j i : Nat) : nI (N S j i) = (1 : Int32) ↔ N S j i = 1 := nI_eq (N_lt S j i) (by decide)
theorem Nge1 (S : sM) (j i : Nat) : (1 : Int32) ≤ nI (N S j i) ↔ 1 ≤ N S j i := nI_leI (by decide) (N_lt S j i)
theorem Nlt1 (S : sM) (j i : Nat) : nI (N S j i) < (1 : Int32) ↔ N S j i < 1 := nI_ltI (N_lt S j i) (by decide)
theorem Ngt1 (S : sM) (j i : Nat) : (1 : Int32) < nI (N S j i) ↔ 1 < N S j i := nI_ltI (by decide) (N_lt S j i)
theorem Neq2 (S : sM) (j i : Nat) : nI (N S j i) = (2 : Int32) ↔ N S j i = 2 := nI_eq (N_lt S j i) (by decide)
theorem Nge2 (S : sM) (j i : Nat) : (2 : Int32) ≤ nI (N S j i) ↔ 2 ≤ N S j i := nI_leI (by decide) (N_lt S j i)
theorem Nlt2 (S : sM) (j i : Nat) : nI (N S j i) < (2 : Int32) ↔ N S j i < 2 := nI_ltI (N_lt S j i) (by decide)
theorem Ngt2 (S : sM) (j i : Nat) : (2 : Int32) < nI (N S j i) ↔ 2 < N S j i := nI_ltI (by decide) (N_lt S j i)
theorem Neq3 (S : sM) (j i : Nat) : nI (N S j i) = (3 : Int32) ↔ N S j i = 3 := nI_eq (N_lt S j i) (by decide)
theorem Nge3 (S : sM) (j i : Nat) : (3 : Int32) ≤ nI (N S j i) ↔ 3 ≤ N S j i := nI_leI (by decide) (N_lt S j i)
theorem Nlt3 (S : sM) (j i : Nat) : nI (N S j i) < (3 : Int32) ↔ N S j i < 3 := nI_ltI (N_lt S j i) (by decide)
theorem Ngt3 (S : sM) (j i : Nat) : (3 : Int32) < nI (N S j i) ↔ 3 < N S j i := nI_ltI (by decide) (N_lt S j i)
theorem Neq4 (S : sM) (j i : Nat) : nI (N S j i) = (4 : Int32) ↔ N S j i = 4 := nI_eq (N_lt S j i) (by decide)
theorem Nge4 (S : sM) (j i : Nat) : (4 : Int32) ≤ nI (N S j i) ↔ 4 ≤ N S j i := nI_leI (by decide) (N_lt S j i)
theorem Nlt4 (S : sM) (j i : Nat) : nI (N S j i) < (4 : Int32) ↔ N S j i < 4 := nI_ltI (N_lt S j i) (by decide)
theorem Ngt4 (S : sM) (j i : Nat) : (4 : Int32) < nI (N S j i) ↔ 4 < N S j i := nI_ltI (by decide) (N_lt S j i)
theorem Neq5 (S : sM) (j i : Nat) : nI (N S j i) = (5 : Int32) ↔ N S j i = 5 := nI_eq (N_lt S j i) (by decide)
theorem Nge5 (S : sM) (j i : Nat) : (5 : Int32) ≤ nI (N S j i) ↔ 5 ≤ N S j i := nI_leI (by decide) (N_lt S j i)
theorem Nlt5 (S : sM) (j i : Nat) : nI (N S j i) < (5 : Int32) ↔ N S j i < 5 := nI_ltI (N_lt S j i) (by decide)
theorem Ngt5 (S : sM) (j i : Nat) : (5 : Int32) < nI (N S j i) ↔ 5 < N S j i := nI_ltI (by decide) (N_lt S j i)
theorem Neq6 (S : sM) (j i : Nat) : nI (N S j i) = (6 : Int32) ↔ N S j i = 6 := nI_eq (N_lt S j i) (by decide)
theorem Nge6 (S : sM) (j i : Nat) : (6 : Int32) ≤ nI (N S j i) ↔ 6 ≤ N S j i := nI_leI (by decide) (N_lt S j i)
theorem Nlt6 (S : sM) (j i : Nat) : nI (N S j i) < (6 : Int32) ↔ N S j i < 6 := nI_ltI (N_lt S j i) (by decide)
theorem Ngt6 (S : sM) (j i : Nat) : (6 : Int32) < nI (N S j i) ↔ 6 < N S j i := nI_ltI (by decide) (N_lt S j i)
theorem Neq7 (S : sM) (j i : Nat) : nI (N S j i) = (7 : Int32) ↔ N S j i = 7 := nI_eq (N_lt S j i) (by decide)
theorem Nge7 (S : sM) (j i : Nat) : (7 : Int32) ≤ nI (N S j i) ↔ 7 ≤ N S j i := nI_leI (by decide) (N_lt S j i)
theorem Nlt7 (S : sM) (j i : Nat) : nI (N S j i) < (7 : Int32) ↔ N S j i < 7 := nI_ltI (N_lt S j i) (by decide)
theorem Ngt7 (S : sM) (j i : Nat) : (7 : Int32) < nI (N S j i) ↔ 7 < N S j i := nI_ltI (by decide) (N_lt S j i)
theorem Neq8 (S : sM) (j i : Nat) : nI (N S j i) = (8 : Int32) ↔ N S j i = 8 := nI_eq (N_lt S j i) (by decide)
theorem Nge8 (S : sM) (j i : Nat) : (8 : Int32) ≤ nI (N S j i) ↔ 8 ≤ N S j i := nI_leI (by decide) (N_lt S j i)
theorem Nlt8 (S : sM) (j i : Nat) : nI (N S j i) < (8 : Int32) ↔ N S j i < 8 := nI_ltI (N_lt S j i) (by decide)
theorem Ngt8 (S : sM) (j i : Nat) : (8 : Int32) < nI (N S j i) ↔ 8 < N S j i := nI_ltI (by decide) (N_lt S j i)
theorem Neq14 (S : sM) (j i : Nat) : nI (N S j i) = (14 : Int32) ↔ N S j i = 14 := nI_eq (N_lt S j i) (by decide)
theorem Nge14 (S : sM) (j i : Nat) : (14 : Int32) ≤ nI (N S j i) ↔ 14 ≤ N S j i := nI_leI (by decide) (N_lt S j i)
theorem Nlt14 (S : sM) (j i : Nat) : nI (N S j i) < (14 : Int32) ↔ N S j i < 14 := nI_ltI (N_lt S j i) (by decide)
theorem Ngt14 (S : sM) (j i : Nat) : (14 : Int32) < nI (N S j i) ↔ 14 < N S j i := nI_ltI (by decide) (N_lt S j i)
theorem Neq16 (S : sM) (j i : Nat) : nI (N S j i) = (16 : Int32) ↔ N S j i = 16 := nI_eq (N_lt S j i) (by decide)
theorem Nge16 (S : sM) (j i : Nat) : (16 : Int32) ≤ nI (N S j i) ↔ 16 ≤ N S j i := nI_leI (by decide) (N_lt S j i)
theorem Nlt16 (S : sM) (j i : Nat) : nI (N S j i) < (16 : Int32) ↔ N S j i < 16 := nI_ltI (N_lt S j i) (by decide)
theorem Ngt16 (S : sM) (j i : Nat) : (16 : Int32) < nI (N S j i) ↔ 16 < N S j i := nI_ltI (by decide) (N_lt S j i)
theorem Neq20 (S : sM) (j i : Nat) : nI (N S j i) = (20 : Int32) ↔ N S j i = 20 := nI_eq (N_lt S j i) (by decide)
theorem Nge20 (S : sM) (j i : Nat) : (20 : Int32) ≤ nI (N S j i) ↔ 20 ≤ N S j i := nI_leI (by decide) (N_lt S j i)
theorem Nlt20 (S : sM) (j i : Nat) : nI (N S j i) < (20 : Int32) ↔ N S j i < 20 := nI_ltI (N_lt S j i) (by decide)
theorem Ngt20 (S : sM) (j i : Nat) : (20 : Int32) < nI (N S j i) ↔ 20 < N S j i := nI_ltI (by decide) (N_lt S j i)
theorem NeqN (S : sM) (j i j' i' : Nat) : nI (N S j i) = nI (N S j' i') ↔ N S j i = N S j' i' := nI_eq (N_lt S j i) (N_lt S j' i')
def By (x : Int32) : Prop := -128 ≤ x.toInt ∧ x.toInt ≤ 127
/-- the first number below n that p lets in, or n -/
def fs1 (p : Nat → Bool) : Nat → Nat
  | 0 => 0
  | n + 1 => if fs1 p n < n then fs1 p n else if p n = true then n else n + 1
theorem fs1_le (p : Nat → Bool) : ∀ n, fs1 p n ≤ n
  | 0 => Nat.le_refl _
  | n + 1 => by
    have h := fs1_le p n
    unfold fs1
    split
    · omega
    · split <;> omega
theorem fs1_no (p : Nat → Bool) : ∀ n j, j < fs1 p n → p j = false
  | 0, j, h => absurd h (Nat.not_lt_zero j)
  | n + 1, j, h => by
    unfold fs1 at h
    split at h
    · exact fs1_no p n j h
    · rename_i c
      have hl := fs1_le p n
      have e : fs1 p n = n := by omega
      split at h
      · exact fs1_no p n j (by omega)
      · rename_i c2
        by_cases q : j = n
        · rw [q]; exact Bool.eq_false_iff.mpr c2
        · exact fs1_no p n j (by omega)
theorem fs1_yes (p : Nat → Bool) : ∀ n, fs1 p n < n → p (fs1 p n) = true
  | 0, h => absurd h (Nat.not_lt_zero _)
  | n + 1, h => by
    unfold fs1 at h ⊢
    split
    · rename_i c
      exact fs1_yes p n c
    · rename_i c
      rw [if_neg c] at h
      split
      · rename_i c2; exact c2
      · rename_i c2
        rw [if_neg c2] at h
        omega
theorem fs1_of {p : Nat → Bool} {n o : Nat} (ho : o < n) (h1 : p o = true) (h2 : ∀ j, j < o → p j = false) : fs1 p n = o := by
  have hl := fs1_le p n
  by_cases c : fs1 p n < o
  · have := fs1_yes p n (by omega)
    rw [h2 _ c] at this
    cases this
  · by_cases c2 : o < fs1 p n
    · rw [fs1_no p n o c2] at h1
      cases h1
    · omega
theorem fs1_none {p : Nat → Bool} {n : Nat} (h : ∀ j, j < n → p j = false) : fs1 p n = n := by
  have hl := fs1_le p n
  by_cases c : fs1 p n < n
  · have := fs1_yes p n c
    rw [h _ c] at this
    cases this
  · omega
/-- which operator makes t, of the first n; n if none does -/
def mk (S : sM) (t n : Nat) : Nat := fs1 (fun o => N S 12 o == t) n
theorem mk_yes {S : sM} {t n : Nat} (h : mk S t n < n) : N S 12 (mk S t n) = t := eq_of_beq (fs1_yes _ n h)
theorem mk_no {S : sM} {t n j : Nat} (h : j < mk S t n) : N S 12 j ≠ t := fun q => by
  have := fs1_no _ n j h
  rw [q] at this
  simp at this
theorem mk_le (S : sM) (t n : Nat) : mk S t n ≤ n := fs1_le _ n
theorem mk_of {S : sM} {t n o : Nat} (ho : o < n) (h1 : N S 12 o = t) (h2 : ∀ j, j < o → N S 12 j ≠ t) : mk S t n = o := fs1_of ho (by rw [h1]; exact beq_self_eq_true t) (fun j hj => beq_eq_false_iff_ne.mpr (h2 j hj))
theorem mk_none {S : sM} {t n : Nat} (h : ∀ j, j < n → N S 12 j ≠ t) : mk S t n = n := fs1_none (fun j hj => beq_eq_false_iff_ne.mpr (h j hj))
def mI (S : sM) (t n : Nat) : Int32 := if mk S t n < n then nI (mk S t n) else -1
def unm (S : sM) (t n : Nat) : Bool := decide (N S 0 t = 2) && !decide (mk S t n < n)
def bgn (S : sM) (t : Nat) : Int32 := if N S 0 t = 1 then -1 else mI S t (N S 14 0)
/-- the last of the first n operators that reads t; e if none does -/
def lu (S : sM) (t : Nat) (e : Int32) : Nat → Int32
  | 0 => e
  | o + 1 => if N S 10 o = t ∨ N S 11 o = t then nI o else lu S t e o
def edn (S : sM) (t : Nat) : Int32 := if S 3 t = 0 then lu S t (bgn S t) (N S 14 0) else nI (N S 14 0)
def lv (S : sM) (t : Nat) : Bool := decide (N S 0 t = 1) || (decide (N S 0 t = 2) && decide (mk S t (N S 14 0) < N S 14 0))
def fitB (S : sM) (o : Nat) : Bool :=
  if N S 9 o = 0 then decide (N S 0 (N S 11 o) = 0 ∧ N S 1 (N S 11 o) = N S 1 (N S 10 o) * N S 1 (N S 12 o))
  else if N S 9 o < 3 then decide (N S 1 (N S 10 o) = N S 1 (N S 11 o) ∧ N S 1 (N S 11 o) = N S 1 (N S 12 o))
  else if N S 9 o < 5 then decide (N S 10 o = N S 11 o ∧ 2 ≤ N S 13 o ∧ N S 13 o ≤ 4 ∧ N S 1 (N S 10 o) = N S 1 (N S 12 o) * N S 13 o ∧ S 2 (N S 10 o) = S 2 (N S 12 o))
  else if N S 9 o = 5 then decide (N S 13 o = 0 ∧ N S 0 (N S 11 o) = 0 ∧ N S 1 (N S 11 o) = 16 ∧ N S 1 (N S 10 o) = N S 1 (N S 12 o) ∧ S 2 (N S 11 o) = S 2 (N S 12 o))
  else if N S 9 o = 6 then decide (N S 13 o = 0 ∧ N S 1 (N S 12 o) = N S 1 (N S 10 o) + N S 1 (N S 11 o) ∧ S 2 (N S 10 o) = S 2 (N S 12 o) ∧ S 2 (N S 11 o) = S 2 (N S 12 o))
  else decide (N S 13 o = 0 ∧ N S 10 o = N S 11 o ∧ N S 1 (N S 10 o) = N S 1 (N S 12 o) ∧ S 2 (N S 10 o) = S 2 (N S 12 o))
def flt (S : sM) (o : Nat) : Int32 := if N S 0 (N S 12 o) = 2 ∧ ¬ mk S (N S 12 o) o < o then (if unm S (N S 10 o) o = true ∨ unm S (N S 11 o) o = true then 2 else if fitB S o = true then 0 else 3) else 1
def OKS (S : sM) : Prop := (∀ j i, (j = 0 ∨ j = 1 ∨ j = 6 ∨ j = 8 ∨ j = 9 ∨ j = 10 ∨ j = 11 ∨ j = 12 ∨ j = 13 ∨ j = 14) → ¬ S j i < 0) ∧ (N S 6 0 ≤ 20) ∧ (N S 14 0 ≤ 14) ∧ (∀ t, t < N S 6 0 → N S 0 t ≤ 2) ∧ (∀ t, t < N S 6 0 → 1 ≤ N S 1 t) ∧ (∀ t, t < N S 6 0 → N S 1 t ≤ 64) ∧ (∀ t, t < N S 6 0 → N S 0 t ≠ 0 → N S 1 t ≤ 16) ∧ (∀ t, S 3 t = 0 ∨ S 3 t = 1) ∧ (∀ t, N S 6 0 ≤ t → S 3 t = 0) ∧ (∀ t j, N S 6 0 ≤ t → j < 64 → S 4 (t * 64 + j) = 0) ∧ (∀ k, By (S 4 k)) ∧ (∀ k, By (S 5 k)) ∧ (∀ i, ¬ S 7 i < 0) ∧ (∀ i, N S 8 i ≤ 30) ∧ (∀ o, o < N S 14 0 → N S 9 o ≤ 7 ∧ N S 10 o < N S 6 0 ∧ N S 11 o < N S 6 0 ∧ N S 12 o < N S 6 0 ∧ N S 13 o ≤ 7) ∧ (S 15 0 = 0 ∨ S 15 0 = 1) ∧ (S 18 0 = -1 ∨ (S 15 0 = 1 ∧ ∃ d, d ≤ N S 14 0 ∧ S 18 0 = nI d)) ∧ (S 15 0 = 1 → ∀ o, o < N S 14 0 → flt S o = 0)
theorem OKS.nn {S : sM} (h : OKS S) : ∀ j i, (j = 0 ∨ j = 1 ∨ j = 6 ∨ j = 8 ∨ j = 9 ∨ j = 10 ∨ j = 11 ∨ j = 12 ∨ j = 13 ∨ j = 14) → ¬ S j i < 0 := h.1
theorem OKS.t20 {S : sM} (h : OKS S) : N S 6 0 ≤ 20 := h.2.1
theorem OKS.o14 {S : sM} (h : OKS S) : N S 14 0 ≤ 14 := h.2.2.1
theorem OKS.kdl {S : sM} (h : OKS S) : ∀ t, t < N S 6 0 → N S 0 t ≤ 2 := h.2.2.2.1
theorem OKS.ln1 {S : sM} (h : OKS S) : ∀ t, t < N S 6 0 → 1 ≤ N S 1 t := h.2.2.2.2.1
theorem OKS.ln64 {S : sM} (h : OKS S) : ∀ t, t < N S 6 0 → N S 1 t ≤ 64 := h.2.2.2.2.2.1
theorem OKS.ln16 {S : sM} (h : OKS S) : ∀ t, t < N S 6 0 → N S 0 t ≠ 0 → N S 1 t ≤ 16 := h.2.2.2.2.2.2.1
theorem OKS.kp {S : sM} (h : OKS S) : ∀ t, S 3 t = 0 ∨ S 3 t = 1 := h.2.2.2.2.2.2.2.1
theorem OKS.kz {S : sM} (h : OKS S) : ∀ t, N S 6 0 ≤ t → S 3 t = 0 := h.2.2.2.2.2.2.2.2.1
theorem OKS.gz {S : sM} (h : OKS S) : ∀ t j, N S 6 0 ≤ t → j < 64 → S 4 (t * 64 + j) = 0 := h.2.2.2.2.2.2.2.2.2.1
theorem OKS.by4 {S : sM} (h : OKS S) : ∀ k, By (S 4 k) := h.2.2.2.2.2.2.2.2.2.2.1
theorem OKS.by5 {S : sM} (h : OKS S) : ∀ k, By (S 5 k) := h.2.2.2.2.2.2.2.2.2.2.2.1
theorem OKS.mp {S : sM} (h : OKS S) : ∀ i, ¬ S 7 i < 0 := h.2.2.2.2.2.2.2.2.2.2.2.2.1
theorem OKS.sh {S : sM} (h : OKS S) : ∀ i, N S 8 i ≤ 30 := h.2.2.2.2.2.2.2.2.2.2.2.2.2.1
theorem OKS.opk {S : sM} (h : OKS S) : ∀ o, o < N S 14 0 → N S 9 o ≤ 7 ∧ N S 10 o < N S 6 0 ∧ N S 11 o < N S 6 0 ∧ N S 12 o < N S 6 0 ∧ N S 13 o ≤ 7 := h.2.2.2.2.2.2.2.2.2.2.2.2.2.2.1
theorem OKS.pr {S : sM} (h : OKS S) : S 15 0 = 0 ∨ S 15 0 = 1 := h.2.2.2.2.2.2.2.2.2.2.2.2.2.2.2.1
theorem OKS.dn {S : sM} (h : OKS S) : S 18 0 = -1 ∨ (S 15 0 = 1 ∧ ∃ d, d ≤ N S 14 0 ∧ S 18 0 = nI d) := h.2.2.2.2.2.2.2.2.2.2.2.2.2.2.2.2.1
theorem OKS.gd {S : sM} (h : OKS S) : S 15 0 = 1 → ∀ o, o < N S 14 0 → flt S o = 0 := h.2.2.2.2.2.2.2.2.2.2.2.2.2.2.2.2.2
section SPEC
variable {S : sM}
theorem OKS.at (h : OKS S) {j : Nat} (i : Nat) (hj : j = 0 ∨ j = 1 ∨ j = 6 ∨ j = 8 ∨ j = 9 ∨ j = 10 ∨ j = 11 ∨ j = 12 ∨ j = 13 ∨ j = 14) : S j i = nI (N S j i) := nI_N (h.nn j i hj)
theorem OKS.e0 (h : OKS S) (i : Nat) : S 0 i = nI (N S 0 i) := h.at i (by omega)
theorem OKS.e1 (h : OKS S) (i : Nat) : S 1 i = nI (N S 1 i) := h.at i (by omega)
theorem OKS.e6 (h : OKS S) : S 6 0 = nI (N S 6 0) := h.at 0 (by omega)
theorem OKS.e8 (h : OKS S) (i : Nat) : S 8 i = nI (N S 8 i) := h.at i (by omega)
theorem OKS.e9 (h : OKS S) (i : Nat) : S 9 i = nI (N S 9 i) := h.at i (by omega)
theorem OKS.e10 (h : OKS S) (i : Nat) : S 10 i = nI (N S 10 i) := h.at i (by omega)
theorem OKS.e11 (h : OKS S) (i : Nat) : S 11 i = nI (N S 11 i) := h.at i (by omega)
theorem OKS.e12 (h : OKS S) (i : Nat) : S 12 i = nI (N S 12 i) := h.at i (by omega)
theorem OKS.e13 (h : OKS S) (i : Nat) : S 13 i = nI (N S 13 i) := h.at i (by omega)
theorem OKS.e14 (h : OKS S) : S 14 0 = nI (N S 14 0) := h.at 0 (by omega)
theorem rdS_in {j i : Nat} (h : i < lenM j) (hl : lenM j ≤ 1280) : rdS S j (nI i) = some (S j i) := by
  unfold rdS
  rw [if_pos (nI_in h (by omega)), nI_clamp (by omega)]
theorem rd20 {j i : Nat} (h : i < 20) (hj : j = 0 ∨ j = 1 ∨ j = 2 ∨ j = 3 ∨ j = 16 ∨ j = 17) : rdS S j (nI i) = some (S j i) := by
  rcases hj with rfl | rfl | rfl | rfl | rfl | rfl <;> exact rdS_in h (by decide)
theorem rd14 {j i : Nat} (h : i < 14) (hj : j = 9 ∨ j = 10 ∨ j = 11 ∨ j = 12 ∨ j = 13) : rdS S j (nI i) = some (S j i) := by
  rcases hj with rfl | rfl | rfl | rfl | rfl <;> exact rdS_in h (by decide)
theorem rd8 {j i : Nat} (h : i < 8) (hj : j = 7 ∨ j = 8) : rdS S j (nI i) = some (S j i) := by
  rcases hj with rfl | rfl <;> exact rdS_in h (by decide)
theorem rd1280 {j i : Nat} (h : i < 1280) (hj : j = 4 ∨ j = 5) : rdS S j (nI i) = some (S j i) := by
  rcases hj with rfl | rfl <;> exact rdS_in h (by decide)
theorem wrS_in {j i : Nat} {x : Int32} (h : i < lenM j) (hl : lenM j ≤ 1280) : wrS S j (nI i) x = some (sUp S j (upd (S j) i x)) := by
  unfold wrS
  rw [if_pos (nI_in h (by omega)), nI_clamp (by omega)]
theorem maker_loop (h : OKS S) {t n : Nat} (ht : t < 2 ^ 31) (hn : n ≤ 14) : ∀ d i fu, i + d = n → d < fu → (∀ o, o < i → N S 12 o ≠ t) → gM_maker_l2 fu (nI t) (nI n) (nI i) S = some (mI S t n, S) := by
  intro d
  induction d with
  | zero =>
    intro i fu h1 h2 h3
    obtain ⟨fu, rfl⟩ : ∃ k, fu = k + 1 := ⟨fu - 1, by omega⟩
    rw [gM_maker_l2_s]
    unfold gM_maker_b2
    have e : mk S t n = n := mk_none (fun j hj => h3 j (by omega))
    rw [if_pos (nI_le (by omega) (by omega))]
    unfold mI
    rw [if_neg (by omega)]
  | succ d ih =>
    intro i fu h1 h2 h3
    obtain ⟨fu, rfl⟩ : ∃ k, fu = k + 1 := ⟨fu - 1, by omega⟩
    rw [gM_maker_l2_s]
    unfold gM_maker_b2
    rw [if_neg (nI_ge (by omega) (by omega)), ob_of (rd14 (by omega) (by omega)), h.e12]
    by_cases c : N S 12 i = t
    · rw [if_pos (by rw [c])]
      have e : mk S t n = i := mk_of (by omega) c h3
      unfold mI
      rw [if_pos (by omega), e]
    · rw [if_neg (fun q => c ((nI_eq (N_lt S 12 i) ht).mp q)), bnd_eq, nI_1]
      refine ih (i + 1) fu (by omega) (by omega) (fun o ho => ?_)
      by_cases q : o = i
      · rw [q]; exact c
      · exact h3 o (by omega)
theorem g_maker (h : OKS S) {t n : Nat} (ht : t < 2 ^ 31) (hn : n ≤ 14) : gM_maker (nI t) (nI n) S = some (mI S t n, S) := maker_loop h ht hn n 0 FU (by omega) (by unfold FU; omega) (fun o ho => absurd ho (Nat.not_lt_zero o))
theorem mI_neg (S : sM) (t : Nat) {n : Nat} (hn : n ≤ 14) : (mI S t n < 0 ↔ ¬ mk S t n < n) ∧ (0 ≤ mI S t n ↔ mk S t n < n) := by
  have hl := mk_le S t n
  unfold mI
  by_cases c : mk S t n < n
  · rw [if_pos c]
    exact ⟨⟨fun q => absurd q (nI_pos (by omega)), fun q => absurd c q⟩, fun _ => c, fun _ => nI_pos' (by omega)⟩
  · rw [if_neg c]
    exact ⟨⟨fun _ => c, fun _ => by decide⟩, fun q => absurd q (by decide), fun q => absurd q c⟩
theorem g_unmade (h : OKS S) {t n : Nat} (ht : t < 20) (hn : n ≤ 14) : gM_unmade (nI t) (nI n) S = some (if unm S t n = true then 1 else 0, S) := by
  unfold gM_unmade unm
  rw [ob_of (rd20 ht (by omega)), h.e0]
  by_cases c : N S 0 t = 2
  · rw [if_pos (show nI (N S 0 t) = 2 by rw [c]; rfl), cbd_of (g_maker h (by omega) hn)]
    by_cases d : mk S t n < n
    · rw [if_pos ((mI_neg S t hn).2.mpr d), if_neg (by simp [d])]
    · rw [if_neg (fun q => d ((mI_neg S t hn).2.mp q)), if_pos (by simp [d, c])]
  · rw [if_neg (fun q => c ((Neq2 S 0 t).mp q)), if_neg (by simp [c])]
theorem g_begin (h : OKS S) {t : Nat} (ht : t < 20) : gM_begin (nI t) S = some (bgn S t, S) := by
  unfold gM_begin bgn
  rw [ob_of (rd20 ht (by omega)), h.e0]
  by_cases c : N S 0 t = 1
  · rw [if_pos (show nI (N S 0 t) = 1 by rw [c]; rfl), if_pos c]
  · rw [if_neg (fun q => c ((Neq1 S 0 t).mp q)), if_neg c, bnd_eq, h.e14, cbd_of (g_maker h (by omega) h.o14)]
theorem end_loop (h : OKS S) {t : Nat} (ht : t < 20) : ∀ d i fu (e0 : Int32), i + d = N S 14 0 → d < fu → gM_end_l22 fu (nI t) (lu S t e0 i) (nI i) S = some (lu S t e0 (N S 14 0), S) := by
  have ho := h.o14
  intro d
  induction d with
  | zero =>
    intro i fu e0 h1 h2
    obtain ⟨fu, rfl⟩ : ∃ k, fu = k + 1 := ⟨fu - 1, by omega⟩
    rw [gM_end_l22_s]
    unfold gM_end_b22
    have e : i = N S 14 0 := by omega
    rw [bnd_eq, h.e14, if_pos (nI_le (by omega) (by omega)), e]
  | succ d ih =>
    intro i fu e0 h1 h2
    obtain ⟨fu, rfl⟩ : ∃ k, fu = k + 1 := ⟨fu - 1, by omega⟩
    have hi := ih (i + 1) fu e0 (by omega) (by omega)
    rw [gM_end_l22_s]
    unfold gM_end_b22
    rw [bnd_eq, h.e14, if_neg (nI_ge (by omega) (by omega)), ob_of (rd14 (by omega) (by omega)), h.e10]
    by_cases c : N S 10 i = t
    · have e : lu S t e0 (i + 1) = nI i := if_pos (Or.inl c)
      rw [if_pos (by rw [c]), bnd_eq, nI_1, ← e]
      exact hi
    · rw [if_neg (fun q => c ((nI_eq (N_lt S 10 i) (by omega)).mp q)), ob_of (rd14 (by omega) (by omega)), h.e11]
      by_cases c2 : N S 11 i = t
      · have e : lu S t e0 (i + 1) = nI i := if_pos (Or.inr c2)
        rw [if_pos (by rw [c2]), bnd_eq, nI_1, ← e]
        exact hi
      · have e : lu S t e0 (i + 1) = lu S t e0 i := if_neg (by omega)
        rw [if_neg (fun q => c2 ((nI_eq (N_lt S 11 i) (by omega)).mp q)), bnd_eq, nI_1, ← e]
        exact hi
theorem g_end (h : OKS S) {t : Nat} (ht : t < 20) : gM_end (nI t) S = some (edn S t, S) := by
  unfold gM_end edn
  rw [ob_of (rd20 ht (by omega))]
  by_cases c : S 3 t = 0
  · rw [if_pos c, if_pos c, cbd_of (g_begin h ht)]
    exact end_loop h ht (N S 14 0) 0 FU (bgn S t) (by omega) (by have := h.o14; unfold FU; omega)
  · rw [if_neg c, if_neg c, bnd_eq, h.e14]
theorem g_noT1 (h : OKS S) {a : Int32} (ha : a < 0 ∨ nI (N S 6 0) ≤ a) : gM_noTensor a S = some (1, S) := by
  unfold gM_noTensor
  by_cases c : a < 0
  · rw [if_pos c]
  · rw [if_neg c, bnd_eq, h.e6, if_neg (Int32.not_lt.mpr (ha.resolve_left c))]
theorem g_noT0 (h : OKS S) {t : Nat} (ht : t < N S 6 0) : gM_noTensor (nI t) S = some (0, S) := by
  have := h.t20
  unfold gM_noTensor
  rw [if_neg (nI_pos (by omega)), bnd_eq, h.e6, if_pos (nI_lt ht (by omega))]
theorem g_lives0 (h : OKS S) {a : Int32} (ha : (a < 0 ∨ nI (N S 6 0) ≤ a) ∨ S 15 0 = 0) : gM_lives a S = some (0, S) := by
  unfold gM_lives
  by_cases c : a < 0 ∨ nI (N S 6 0) ≤ a
  · rw [cbd_of (g_noT1 h c), if_neg (by decide)]
  · have hp := ha.resolve_left c
    obtain ⟨t, ht, rfl⟩ : ∃ t, t < N S 6 0 ∧ a = nI t := by
      have := h.t20
      rcases pk_ix a (n := N S 6 0) (by omega) with q | q | q
      · exact absurd (Or.inl q) c
      · exact absurd (Or.inr q) c
      · exact q
    rw [cbd_of (g_noT0 h ht), if_pos rfl, bnd_eq, if_pos hp]
theorem g_lives (h : OKS S) {t : Nat} (ht : t < N S 6 0) (hp : S 15 0 = 1) : gM_lives (nI t) S = some (if lv S t = true then 1 else 0, S) := by
  have h20 := h.t20
  unfold gM_lives lv
  rw [cbd_of (g_noT0 h ht), if_pos rfl, bnd_eq, if_neg (by rw [hp]; decide), ob_of (rd20 (by omega) (by omega)), h.e0]
  by_cases c : N S 0 t = 1
  · rw [if_pos (show nI (N S 0 t) = 1 by rw [c]; rfl), if_pos (by simp [c])]
  · rw [if_neg (fun q => c ((Neq1 S 0 t).mp q)), ob_of (rd20 (by omega) (by omega)), h.e0]
    by_cases c2 : N S 0 t = 2
    · rw [if_pos (show nI (N S 0 t) = 2 by rw [c2]; rfl), bnd_eq, h.e14, cbd_of (g_maker h (by omega) h.o14)]
      by_cases d : mk S t (N S 14 0) < N S 14 0
      · rw [if_neg (fun q => (mI_neg S t h.o14).1.mp q d), if_pos (by simp [c2, d])]
      · rw [if_pos ((mI_neg S t h.o14).1.mpr d), if_neg (by simp [c2, d])]
    · rw [if_neg (fun q => c2 ((Neq2 S 0 t).mp q)), if_neg (by simp [c, c2])]
theorem g_fits (h : OKS S) {o : Nat} (ho : o < N S 14 0) : gM_fits (nI o) S = some (if fitB S o = true then 1 else 0, S) := by
  have h20 := h.t20
  have h14 := h.o14
  obtain ⟨k1, k2, k3, k4, k5⟩ := h.opk o ho
  have r9 : rdS S 9 (nI o) = some (S 9 o) := rd14 (by omega) (by omega)
  have r10 : rdS S 10 (nI o) = some (S 10 o) := rd14 (by omega) (by omega)
  have r11 : rdS S 11 (nI o) = some (S 11 o) := rd14 (by omega) (by omega)
  have r12 : rdS S 12 (nI o) = some (S 12 o) := rd14 (by omega) (by omega)
  have r13 : rdS S 13 (nI o) = some (S 13 o) := rd14 (by omega) (by omega)
  have r1a : rdS S 1 (nI (N S 10 o)) = some (S 1 (N S 10 o)) := rd20 (by omega) (by omega)
  have r1b : rdS S 1 (nI (N S 11 o)) = some (S 1 (N S 11 o)) := rd20 (by omega) (by omega)
  have r1r : rdS S 1 (nI (N S 12 o)) = some (S 1 (N S 12 o)) := rd20 (by omega) (by omega)
  have r0b : rdS S 0 (nI (N S 11 o)) = some (S 0 (N S 11 o)) := rd20 (by omega) (by omega)
  have r2a : rdS S 2 (nI (N S 10 o)) = some (S 2 (N S 10 o)) := rd20 (by omega) (by omega)
  have r2b : rdS S 2 (nI (N S 11 o)) = some (S 2 (N S 11 o)) := rd20 (by omega) (by omega)
  have r2r : rdS S 2 (nI (N S 12 o)) = some (S 2 (N S 12 o)) := rd20 (by omega) (by omega)
  have la := h.ln64 _ k2
  have lb := h.ln64 _ k3
  have lr := h.ln64 _ k4
  have hm1 : (nI (N S 1 (N S 11 o)) = nI (N S 1 (N S 10 o)) * nI (N S 1 (N S 12 o))) ↔ N S 1 (N S 11 o) = N S 1 (N S 10 o) * N S 1 (N S 12 o) := by
    rw [pk_mul]
    have := Nat.mul_le_mul la lr
    exact nI_eq (N_lt _ _ _) (by omega)
  have hm2 : (nI (N S 1 (N S 10 o)) = nI (N S 1 (N S 12 o)) * nI (N S 13 o)) ↔ N S 1 (N S 10 o) = N S 1 (N S 12 o) * N S 13 o := by
    rw [pk_mul]
    have := Nat.mul_le_mul lr k5
    exact nI_eq (N_lt _ _ _) (by omega)
  have hm3 : (nI (N S 1 (N S 12 o)) = nI (N S 1 (N S 10 o)) + nI (N S 1 (N S 11 o))) ↔ N S 1 (N S 12 o) = N S 1 (N S 10 o) + N S 1 (N S 11 o) := by
    rw [nI_add]
    exact nI_eq (N_lt _ _ _) (by omega)
  unfold gM_fits fitB
  simp only [r9, r10, r11, r12, r13, h.e10, h.e11, h.e12, ob_some, r1a, r1b, r1r, r0b, r2a, r2b, r2r, h.e9, h.e13, h.e1, h.e0, Neq0, Nge3, Nge5, Neq5, Neq6, Neq16, Nlt2, Ngt4, NeqN, hm1, hm2, hm3]
  by_cases c0 : N S 9 o = 0
  · simp only [c0, if_true]
    by_cases d1 : N S 0 (N S 11 o) = 0 <;> by_cases d2 : N S 1 (N S 11 o) = N S 1 (N S 10 o) * N S 1 (N S 12 o) <;> simp [d1, d2]
  · by_cases c3 : N S 9 o < 3
    · have c3' : ¬ 3 ≤ N S 9 o := by omega
      simp only [c0, c3, c3', if_true, if_false]
      by_cases d1 : N S 1 (N S 10 o) = N S 1 (N S 11 o)
      · by_cases d2 : N S 1 (N S 11 o) = N S 1 (N S 12 o)
        · rw [if_pos d1, if_pos d2, if_pos (decide_eq_true ⟨d1, d2⟩)]
        · rw [if_pos d1, if_neg d2, if_neg (by simp [d2])]
      · rw [if_neg d1, if_neg (by simp [d1])]
    · have c3' : 3 ≤ N S 9 o := by omega
      by_cases c5 : N S 9 o < 5
      · have c5' : ¬ 5 ≤ N S 9 o := by omega
        simp only [c0, c3, c3', c5, c5', if_true, if_false]
        by_cases d1 : N S 10 o = N S 11 o
        · by_cases d2 : 2 ≤ N S 13 o
          · by_cases d3 : N S 13 o ≤ 4
            · by_cases d4 : N S 1 (N S 10 o) = N S 1 (N S 12 o) * N S 13 o
              · by_cases d5 : S 2 (N S 10 o) = S 2 (N S 12 o)
                · rw [if_pos d1, if_neg (by omega), if_neg (by omega), if_pos d4, if_pos d5, if_pos (decide_eq_true ⟨d1, d2, d3, d4, d5⟩)]
                · rw [if_pos d1, if_neg (by omega), if_neg (by omega), if_pos d4, if_neg d5, if_neg (by simp [d5])]
              · rw [if_pos d1, if_neg (by omega), if_neg (by omega), if_neg d4, if_neg (by simp [d4])]
            · rw [if_pos d1, if_neg (by omega), if_pos (by omega), if_neg (by simp [d3])]
          · rw [if_pos d1, if_pos (by omega), if_neg (by simp [d2])]
        · rw [if_neg d1, if_neg (by simp [d1])]
      · have c5' : 5 ≤ N S 9 o := by omega
        by_cases d0 : N S 13 o = 0
        · by_cases e5 : N S 9 o = 5
          · simp only [c0, c3, c3', c5, c5', e5, d0, if_true, if_false]
            by_cases d1 : N S 0 (N S 11 o) = 0
            · by_cases d2 : N S 1 (N S 11 o) = 16
              · by_cases d3 : N S 1 (N S 10 o) = N S 1 (N S 12 o)
                · by_cases d4 : S 2 (N S 11 o) = S 2 (N S 12 o)
                  · simp [d1, d2, d3, d4]
                  · simp [d1, d2, d3, d4]
                · simp [d1, d2, d3]
              · simp [d1, d2]
            · simp [d1]
          · by_cases e6 : N S 9 o = 6
            · simp only [c0, c3, c3', c5, c5', e5, e6, d0, if_true, if_false]
              by_cases d1 : N S 1 (N S 12 o) = N S 1 (N S 10 o) + N S 1 (N S 11 o)
              · by_cases d2 : S 2 (N S 10 o) = S 2 (N S 11 o)
                · by_cases d3 : S 2 (N S 11 o) = S 2 (N S 12 o)
                  · simp [d1, d2, d3]
                  · simp [d1, d2, d3]
                · by_cases d3 : S 2 (N S 11 o) = S 2 (N S 12 o)
                  · have d4 : ¬ S 2 (N S 10 o) = S 2 (N S 12 o) := fun q => d2 (q.trans d3.symm)
                    simp [d1, d2, d3, d4]
                  · simp [d1, d2, d3]
              · simp [d1]
            · simp only [c0, c3, c3', c5, c5', e5, e6, d0, if_true, if_false]
              by_cases d1 : N S 10 o = N S 11 o
              · by_cases d2 : N S 1 (N S 10 o) = N S 1 (N S 12 o)
                · by_cases d3 : S 2 (N S 10 o) = S 2 (N S 12 o)
                  · rw [if_pos d1, if_pos d2, if_pos d3, if_pos (decide_eq_true ⟨trivial, d1, d2, d3⟩)]
                  · rw [if_pos d1, if_pos d2, if_neg d3, if_neg (by simp [d3])]
                · rw [if_pos d1, if_neg d2, if_neg (by simp [d2])]
              · rw [if_neg d1, if_neg (by simp [d1])]
        · by_cases e5 : N S 9 o = 5
          · simp only [c0, c3, c3', c5, c5', e5, d0, if_true, if_false]
            simp
          · by_cases e6 : N S 9 o = 6
            · simp only [c0, c3, c3', c5, c5', e5, e6, d0, if_true, if_false]
              simp
            · simp only [c0, c3, c3', c5, c5', e5, e6, d0, if_true, if_false]
              simp
theorem g_fault (h : OKS S) {o : Nat} (ho : o < N S 14 0) : gM_fault (nI o) S = some (flt S o, S) := by
  have h20 := h.t20
  have h14 := h.o14
  obtain ⟨k1, k2, k3, k4, k5⟩ := h.opk o ho
  have r10 : rdS S 10 (nI o) = some (S 10 o) := rd14 (by omega) (by omega)
  have r11 : rdS S 11 (nI o) = some (S 11 o) := rd14 (by omega) (by omega)
  have r12 : rdS S 12 (nI o) = some (S 12 o) := rd14 (by omega) (by omega)
  have r0r : rdS S 0 (nI (N S 12 o)) = some (S 0 (N S 12 o)) := rd20 (by omega) (by omega)
  unfold gM_fault flt
  rw [ob_of r12, h.e12, ob_of r0r, h.e0]
  by_cases c1 : N S 0 (N S 12 o) = 2
  · rw [if_pos ((Neq2 S 0 _).mpr c1), ob_of r12, h.e12, cbd_of (g_maker h (by omega) (by omega))]
    by_cases c2 : mk S (N S 12 o) o < o
    · rw [if_neg (fun q => (mI_neg S _ (by omega)).1.mp q c2), if_neg (by omega)]
    · rw [if_pos ((mI_neg S _ (by omega)).1.mpr c2), ob_of r10, h.e10, cbd_of (g_unmade h (by omega) (by omega)), if_pos (show N S 0 (N S 12 o) = 2 ∧ _ from ⟨c1, c2⟩)]
      cases c3 : unm S (N S 10 o) o
      · rw [if_neg Bool.false_ne_true, if_pos rfl, ob_of r11, h.e11, cbd_of (g_unmade h (by omega) (by omega))]
        cases c4 : unm S (N S 11 o) o
        · rw [if_neg Bool.false_ne_true, if_pos rfl, cbd_of (g_fits h ho)]
          cases c5 : fitB S o <;> rfl
        · rfl
      · rfl
  · rw [if_neg (fun q => c1 ((Neq2 S 0 _).mp q)), if_neg (by omega)]
end SPEC
