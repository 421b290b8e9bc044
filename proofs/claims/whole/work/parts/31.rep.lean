/-! THE CLASS OVER WORLDS. N S j i: what the reference's j-th field holds at i, as a natural number. RC: the world holds the class's objects as the reference's state S says: X s i: the address of the i-th object of sort s (0 the network, 1 its arena, 2 operators, 3 scales, 4 tensors, 5 what set has written, 6 an input's cells, 7 lists, 9 the scales' array); cd: the sort and number of what lies at an address; el, tl: the lists' arrays and their kinds; Y: lives and places; V: what the arrays hold; od: the tensors in the arena's order; mx: the arena's length -/
def N (S : sM) (j i : Nat) : Nat := (S j i).toNatClampNeg
theorem N_lt (S : sM) (j i : Nat) : N S j i < 2 ^ 31 := by
  have h := (S j i).toInt_lt
  unfold N Int32.toNatClampNeg
  omega
theorem ob_some {α β : Type} (a : α) (f : α → Option β) : (some a).bind f = f a := rfl
def live (S : sM) (s i : Nat) : Prop := (s = 0 ∧ i = 0) ∨ (s = 1 ∧ i = 0) ∨ (s = 2 ∧ i < N S 14 0) ∨ (s = 3 ∧ i < 8) ∨ (s = 4 ∧ i < N S 6 0) ∨ (s = 5 ∧ i < N S 6 0) ∨ (s = 6 ∧ i < N S 6 0 ∧ N S 0 i = 1) ∨ (s = 7 ∧ i < 3) ∨ (s = 9 ∧ i = 0)
def clA (S : sM) (X : Nat → Nat → Nat) (t : Nat) : Nat := if N S 0 t = 1 then X 6 t else X 5 t
abbrev vq (a : Nat) : Value := va_rf (some a)
abbrev oN (S : sM) (X : Nat → Nat → Nat) : cE := .inr (0, [vq (X 7 0), vq (X 7 1), vq (X 9 0), vq (X 1 0), .int (S 15 0), .int (S 18 0)])
abbrev oT (S : sM) (X : Nat → Nat → Nat) (Y : Nat → Nat → Int32) (t : Nat) : cE := .inr (4, [.int (nI t), .int (S 0 t), .int (S 1 t), .int (S 2 t), vq (X 5 t), vq (clA S X t), .int (S 3 t), .int (Y 7 t), .int (Y 8 t), .int (Y 9 t), .int (Y 10 t)])
abbrev oO (S : sM) (X : Nat → Nat → Nat) (o : Nat) : cE := .inr (2, [.int (S 9 o), vq (X 4 (N S 10 o)), vq (X 4 (N S 11 o)), vq (X 4 (N S 12 o)), .int (S 13 o)])
abbrev iA (n : Nat) (f : Nat → Int32) : cE := .inl (0, n, .inl f)
def RC (w : cW) (S : sM) (X : Nat → Nat → Nat) (cd : Nat → Nat × Nat) (el : Nat → Nat) (tl : Nat → Nat) (Y : Nat → Nat → Int32) (V : Nat → Nat → Nat → Int32) (od : Nat → Nat) (nA : Nat) (mx : Int32) : Prop := (w.1 (X 0 0) = some (oN S X)) ∧ (w.1 (X 1 0) = some (.inr (1, [vq (X 7 2), .int mx]))) ∧ (∀ t, t < N S 6 0 → w.1 (X 4 t) = some (oT S X Y t)) ∧ (∀ o, o < N S 14 0 → w.1 (X 2 o) = some (oO S X o)) ∧ (∀ i, i < 8 → w.1 (X 3 i) = some (.inr (3, [.int (S 7 i), .int (S 8 i)]))) ∧ (∃ g : Nat → Option Nat, w.1 (X 9 0) = some (rA 3 8 g) ∧ ∀ i, i < 8 → g i = some (X 3 i)) ∧ (∀ t, t < N S 6 0 → w.1 (X 5 t) = some (iA (N S 1 t) (V 5 t))) ∧ (∀ t, t < N S 6 0 → N S 0 t = 1 → w.1 (X 6 t) = some (iA (N S 1 t) (V 6 t))) ∧ (cLs w (X 7 0) (el 0) (tl 0) (N S 6 0) (X 4)) ∧ (cLs w (X 7 1) (el 1) (tl 1) (N S 14 0) (X 2)) ∧ (cLs w (X 7 2) (el 2) (tl 2) nA (fun k => X 4 (od k))) ∧ (∀ s i, live S s i → cd (X s i) = (s, i) ∧ X s i < w.2.1) ∧ (∀ j, j < 3 → cd (el j) = (if tl j = 2 then (8, j) else (10, 0)) ∧ el j < w.2.1) ∧ (∀ k, k < nA → od k < N S 6 0)
theorem RC.net {w : cW} {S : sM} {X : Nat → Nat → Nat} {cd : Nat → Nat × Nat} {el : Nat → Nat} {tl : Nat → Nat} {Y : Nat → Nat → Int32} {V : Nat → Nat → Nat → Int32} {od : Nat → Nat} {nA : Nat} {mx : Int32} (h : RC w S X cd el tl Y V od nA mx) : w.1 (X 0 0) = some (oN S X) := h.1
theorem RC.arn {w : cW} {S : sM} {X : Nat → Nat → Nat} {cd : Nat → Nat × Nat} {el : Nat → Nat} {tl : Nat → Nat} {Y : Nat → Nat → Int32} {V : Nat → Nat → Nat → Int32} {od : Nat → Nat} {nA : Nat} {mx : Int32} (h : RC w S X cd el tl Y V od nA mx) : w.1 (X 1 0) = some (.inr (1, [vq (X 7 2), .int mx])) := h.2.1
theorem RC.ten {w : cW} {S : sM} {X : Nat → Nat → Nat} {cd : Nat → Nat × Nat} {el : Nat → Nat} {tl : Nat → Nat} {Y : Nat → Nat → Int32} {V : Nat → Nat → Nat → Int32} {od : Nat → Nat} {nA : Nat} {mx : Int32} (h : RC w S X cd el tl Y V od nA mx) : ∀ t, t < N S 6 0 → w.1 (X 4 t) = some (oT S X Y t) := h.2.2.1
theorem RC.opr {w : cW} {S : sM} {X : Nat → Nat → Nat} {cd : Nat → Nat × Nat} {el : Nat → Nat} {tl : Nat → Nat} {Y : Nat → Nat → Int32} {V : Nat → Nat → Nat → Int32} {od : Nat → Nat} {nA : Nat} {mx : Int32} (h : RC w S X cd el tl Y V od nA mx) : ∀ o, o < N S 14 0 → w.1 (X 2 o) = some (oO S X o) := h.2.2.2.1
theorem RC.scl {w : cW} {S : sM} {X : Nat → Nat → Nat} {cd : Nat → Nat × Nat} {el : Nat → Nat} {tl : Nat → Nat} {Y : Nat → Nat → Int32} {V : Nat → Nat → Nat → Int32} {od : Nat → Nat} {nA : Nat} {mx : Int32} (h : RC w S X cd el tl Y V od nA mx) : ∀ i, i < 8 → w.1 (X 3 i) = some (.inr (3, [.int (S 7 i), .int (S 8 i)])) := h.2.2.2.2.1
theorem RC.sca {w : cW} {S : sM} {X : Nat → Nat → Nat} {cd : Nat → Nat × Nat} {el : Nat → Nat} {tl : Nat → Nat} {Y : Nat → Nat → Int32} {V : Nat → Nat → Nat → Int32} {od : Nat → Nat} {nA : Nat} {mx : Int32} (h : RC w S X cd el tl Y V od nA mx) : ∃ g : Nat → Option Nat, w.1 (X 9 0) = some (rA 3 8 g) ∧ ∀ i, i < 8 → g i = some (X 3 i) := h.2.2.2.2.2.1
theorem RC.giv {w : cW} {S : sM} {X : Nat → Nat → Nat} {cd : Nat → Nat × Nat} {el : Nat → Nat} {tl : Nat → Nat} {Y : Nat → Nat → Int32} {V : Nat → Nat → Nat → Int32} {od : Nat → Nat} {nA : Nat} {mx : Int32} (h : RC w S X cd el tl Y V od nA mx) : ∀ t, t < N S 6 0 → w.1 (X 5 t) = some (iA (N S 1 t) (V 5 t)) := h.2.2.2.2.2.2.1
theorem RC.cel {w : cW} {S : sM} {X : Nat → Nat → Nat} {cd : Nat → Nat × Nat} {el : Nat → Nat} {tl : Nat → Nat} {Y : Nat → Nat → Int32} {V : Nat → Nat → Nat → Int32} {od : Nat → Nat} {nA : Nat} {mx : Int32} (h : RC w S X cd el tl Y V od nA mx) : ∀ t, t < N S 6 0 → N S 0 t = 1 → w.1 (X 6 t) = some (iA (N S 1 t) (V 6 t)) := h.2.2.2.2.2.2.2.1
theorem RC.ls0 {w : cW} {S : sM} {X : Nat → Nat → Nat} {cd : Nat → Nat × Nat} {el : Nat → Nat} {tl : Nat → Nat} {Y : Nat → Nat → Int32} {V : Nat → Nat → Nat → Int32} {od : Nat → Nat} {nA : Nat} {mx : Int32} (h : RC w S X cd el tl Y V od nA mx) : cLs w (X 7 0) (el 0) (tl 0) (N S 6 0) (X 4) := h.2.2.2.2.2.2.2.2.1
theorem RC.ls1 {w : cW} {S : sM} {X : Nat → Nat → Nat} {cd : Nat → Nat × Nat} {el : Nat → Nat} {tl : Nat → Nat} {Y : Nat → Nat → Int32} {V : Nat → Nat → Nat → Int32} {od : Nat → Nat} {nA : Nat} {mx : Int32} (h : RC w S X cd el tl Y V od nA mx) : cLs w (X 7 1) (el 1) (tl 1) (N S 14 0) (X 2) := h.2.2.2.2.2.2.2.2.2.1
theorem RC.ls2 {w : cW} {S : sM} {X : Nat → Nat → Nat} {cd : Nat → Nat × Nat} {el : Nat → Nat} {tl : Nat → Nat} {Y : Nat → Nat → Int32} {V : Nat → Nat → Nat → Int32} {od : Nat → Nat} {nA : Nat} {mx : Int32} (h : RC w S X cd el tl Y V od nA mx) : cLs w (X 7 2) (el 2) (tl 2) nA (fun k => X 4 (od k)) := h.2.2.2.2.2.2.2.2.2.2.1
theorem RC.cds {w : cW} {S : sM} {X : Nat → Nat → Nat} {cd : Nat → Nat × Nat} {el : Nat → Nat} {tl : Nat → Nat} {Y : Nat → Nat → Int32} {V : Nat → Nat → Nat → Int32} {od : Nat → Nat} {nA : Nat} {mx : Int32} (h : RC w S X cd el tl Y V od nA mx) : ∀ s i, live S s i → cd (X s i) = (s, i) ∧ X s i < w.2.1 := h.2.2.2.2.2.2.2.2.2.2.2.1
theorem RC.cde {w : cW} {S : sM} {X : Nat → Nat → Nat} {cd : Nat → Nat × Nat} {el : Nat → Nat} {tl : Nat → Nat} {Y : Nat → Nat → Int32} {V : Nat → Nat → Nat → Int32} {od : Nat → Nat} {nA : Nat} {mx : Int32} (h : RC w S X cd el tl Y V od nA mx) : ∀ j, j < 3 → cd (el j) = (if tl j = 2 then (8, j) else (10, 0)) ∧ el j < w.2.1 := h.2.2.2.2.2.2.2.2.2.2.2.2.1
theorem RC.odl {w : cW} {S : sM} {X : Nat → Nat → Nat} {cd : Nat → Nat × Nat} {el : Nat → Nat} {tl : Nat → Nat} {Y : Nat → Nat → Int32} {V : Nat → Nat → Nat → Int32} {od : Nat → Nat} {nA : Nat} {mx : Int32} (h : RC w S X cd el tl Y V od nA mx) : ∀ k, k < nA → od k < N S 6 0 := h.2.2.2.2.2.2.2.2.2.2.2.2.2
theorem sUp_s (S : sM) (j : Nat) (f : Nat → Int32) : sUp S j f j = f := by unfold sUp; rw [if_pos rfl]
theorem sUp_n (S : sM) {j k : Nat} (f : Nat → Int32) (h : k ≠ j) : sUp S j f k = S k := by unfold sUp; rw [if_neg h]
theorem N_n (S : sM) {j k : Nat} (f : Nat → Int32) (h : k ≠ j) (i : Nat) : N (sUp S j f) k i = N S k i := by unfold N; rw [sUp_n S f h]
section REP
variable {w : cW} {S : sM} {X : Nat → Nat → Nat} {cd : Nat → Nat × Nat} {el : Nat → Nat} {tl : Nat → Nat} {Y : Nat → Nat → Int32} {V : Nat → Nat → Nat → Int32} {od : Nat → Nat} {nA : Nat} {mx : Int32}
theorem RC.ne (h : RC w S X cd el tl Y V od nA mx) {s i s' i' : Nat} (h1 : live S s i) (h2 : live S s' i') (hn : (s, i) ≠ (s', i')) : X s i ≠ X s' i' := by
  intro q
  have a := (h.cds s i h1).1
  rw [q, (h.cds s' i' h2).1] at a
  exact hn a.symm
theorem RC.neE (h : RC w S X cd el tl Y V od nA mx) {s i j : Nat} (h1 : live S s i) (hj : j < 3) : el j ≠ X s i := by
  intro q
  have a := (h.cde j hj).1
  rw [q, (h.cds s i h1).1] at a
  by_cases c : tl j = 2
  · rw [if_pos c] at a
    cases a
    unfold live at h1
    omega
  · rw [if_neg c] at a
    cases a
    unfold live at h1
    omega
theorem lv0 : live S 0 0 := by unfold live; omega
theorem lv1 : live S 1 0 := by unfold live; omega
theorem lv2 {o : Nat} (h : o < N S 14 0) : live S 2 o := by unfold live; omega
theorem lv3 {o : Nat} (h : o < 8) : live S 3 o := by unfold live; omega
theorem lv4 {o : Nat} (h : o < N S 6 0) : live S 4 o := by unfold live; omega
theorem lv5 {o : Nat} (h : o < N S 6 0) : live S 5 o := by unfold live; omega
theorem lv6 {o : Nat} (h : o < N S 6 0) (h' : N S 0 o = 1) : live S 6 o := by unfold live; omega
theorem lv7 {o : Nat} (h : o < 3) : live S 7 o := by unfold live; omega
theorem lv9 : live S 9 0 := by unfold live; omega
theorem pr_ne {a b c d : Nat} (h : a ≠ c ∨ b ≠ d) : (a, b) ≠ (c, d) := by
  intro q
  cases q
  omega
/-- a cell is written: all others stay -/
theorem RC.put (h : RC w S X cd el tl Y V od nA mx) {s0 i0 : Nat} (e : cE) (h0 : live S s0 i0) : (∀ s i, live S s i → (s ≠ s0 ∨ i ≠ i0) → va_up w.1 (X s0 i0) (some e) (X s i) = w.1 (X s i)) ∧ ∀ j, j < 3 → va_up w.1 (X s0 i0) (some e) (el j) = w.1 (el j) :=
  ⟨fun s i h1 hn => va_up_ne _ _ (h.ne h1 h0 (pr_ne hn)), fun j hj => va_up_ne _ _ (h.neE h0 hj)⟩
theorem RC.keepL (h : RC w S X cd el tl Y V od nA mx) {w' : cW} (h1 : ∀ j, j < 3 → w'.1 (X 7 j) = w.1 (X 7 j)) (h2 : ∀ j, j < 3 → w'.1 (el j) = w.1 (el j)) (h3 : w'.2.2 = w.2.2) : cLs w' (X 7 0) (el 0) (tl 0) (N S 6 0) (X 4) ∧ cLs w' (X 7 1) (el 1) (tl 1) (N S 14 0) (X 2) ∧ cLs w' (X 7 2) (el 2) (tl 2) nA (fun k => X 4 (od k)) :=
  ⟨h.ls0.keep (h1 0 (by omega)) (h2 0 (by omega)) h3, h.ls1.keep (h1 1 (by omega)) (h2 1 (by omega)) h3, h.ls2.keep (h1 2 (by omega)) (h2 2 (by omega)) h3⟩
/-- the network's own numbers -/
theorem RC.setN (h : RC w S X cd el tl Y V od nA mx) {k j : Nat} (hk : (k = 4 ∧ j = 15) ∨ (k = 5 ∧ j = 18)) (x : Int32) {fs : List Value} (hf : fs = [vq (X 7 0), vq (X 7 1), vq (X 9 0), vq (X 1 0), .int (S 15 0), .int (S 18 0)]) : RC (va_up w.1 (X 0 0) (some (.inr (0, fs.set k (.int x)))), w.2) (sUp S j (upd (S j) 0 x)) X cd el tl Y V od nA mx := by
  subst hf
  obtain ⟨p1, p2⟩ := h.put (.inr (0, ([vq (X 7 0), vq (X 7 1), vq (X 9 0), vq (X 1 0), .int (S 15 0), .int (S 18 0)] : List Value).set k (.int x))) lv0
  have hl := h.keepL (w' := (va_up w.1 (X 0 0) (some (.inr (0, ([vq (X 7 0), vq (X 7 1), vq (X 9 0), vq (X 1 0), .int (S 15 0), .int (S 18 0)] : List Value).set k (.int x)))), w.2)) (fun j hj => p1 7 j (lv7 hj) (by omega)) p2 rfl
  rcases hk with ⟨rfl, rfl⟩ | ⟨rfl, rfl⟩
  all_goals
    refine ⟨va_up_self _ _ _, (p1 1 0 lv1 (by omega)).trans h.arn, fun t ht => (p1 4 t (lv4 ht) (by omega)).trans (h.ten t ht), fun o ho => (p1 2 o (lv2 ho) (by omega)).trans (h.opr o ho), fun i hi => (p1 3 i (lv3 hi) (by omega)).trans (h.scl i hi), ?_, fun t ht => (p1 5 t (lv5 ht) (by omega)).trans (h.giv t ht), fun t ht hk => (p1 6 t (lv6 ht hk) (by omega)).trans (h.cel t ht hk), hl.1, hl.2.1, hl.2.2, h.cds, h.cde, h.odl⟩
    obtain ⟨g, g1, g2⟩ := h.sca
    exact ⟨g, (p1 9 0 lv9 (by omega)).trans g1, g2⟩
/-- a tensor's life and place -/
def upY (Y : Nat → Nat → Int32) (k t : Nat) (x : Int32) : Nat → Nat → Int32 := fun k' t' => if k' = k ∧ t' = t then x else Y k' t'
theorem upY_s (Y : Nat → Nat → Int32) (k t : Nat) (x : Int32) : upY Y k t x k t = x := by unfold upY; rw [if_pos ⟨rfl, rfl⟩]
theorem upY_n (Y : Nat → Nat → Int32) {k t k' t' : Nat} (x : Int32) (h : k' ≠ k ∨ t' ≠ t) : upY Y k t x k' t' = Y k' t' := by
  unfold upY
  rw [if_neg (by omega)]
theorem RC.setY (h : RC w S X cd el tl Y V od nA mx) {k t : Nat} (ht : t < N S 6 0) (hk : k = 7 ∨ k = 8 ∨ k = 9 ∨ k = 10) (x : Int32) {fs : List Value} (hf : oT S X Y t = .inr (4, fs)) : RC (va_up w.1 (X 4 t) (some (.inr (4, fs.set k (.int x)))), w.2) S X cd el tl (upY Y k t x) V od nA mx := by
  cases hf
  obtain ⟨e, he⟩ : ∃ e : cE, e = .inr (4, ([.int (nI t), .int (S 0 t), .int (S 1 t), .int (S 2 t), vq (X 5 t), vq (clA S X t), .int (S 3 t), .int (Y 7 t), .int (Y 8 t), .int (Y 9 t), .int (Y 10 t)] : List Value).set k (.int x)) := ⟨_, rfl⟩
  rw [← he]
  obtain ⟨p1, p2⟩ := h.put e (lv4 ht)
  have hl := h.keepL (w' := (va_up w.1 (X 4 t) (some e), w.2)) (fun j hj => p1 7 j (lv7 hj) (by omega)) p2 rfl
  refine ⟨(p1 0 0 lv0 (by omega)).trans h.net, (p1 1 0 lv1 (by omega)).trans h.arn, fun t' ht' => ?_, fun o ho => (p1 2 o (lv2 ho) (by omega)).trans (h.opr o ho), fun i hi => (p1 3 i (lv3 hi) (by omega)).trans (h.scl i hi), ?_, fun t ht => (p1 5 t (lv5 ht) (by omega)).trans (h.giv t ht), fun t ht hk => (p1 6 t (lv6 ht hk) (by omega)).trans (h.cel t ht hk), hl.1, hl.2.1, hl.2.2, h.cds, h.cde, h.odl⟩
  · by_cases c : t' = t
    · subst c
      show va_up _ _ _ _ = _
      rw [va_up_self, he]
      unfold oT
      rcases hk with rfl | rfl | rfl | rfl
      · rw [upY_s, upY_n _ _ (by omega), upY_n _ _ (by omega), upY_n _ _ (by omega)]; rfl
      · rw [upY_s, upY_n _ _ (by omega), upY_n _ _ (by omega), upY_n _ _ (by omega)]; rfl
      · rw [upY_s, upY_n _ _ (by omega), upY_n _ _ (by omega), upY_n _ _ (by omega)]; rfl
      · rw [upY_s, upY_n _ _ (by omega), upY_n _ _ (by omega), upY_n _ _ (by omega)]; rfl
    · show va_up _ _ _ _ = _
      rw [p1 4 t' (lv4 ht') (by omega), h.ten t' ht']
      unfold oT
      rw [upY_n _ _ (Or.inr c), upY_n _ _ (Or.inr c), upY_n _ _ (Or.inr c), upY_n _ _ (Or.inr c)]
  · obtain ⟨g, g1, g2⟩ := h.sca
    exact ⟨g, (p1 9 0 lv9 (by omega)).trans g1, g2⟩
theorem RC.setK (h : RC w S X cd el tl Y V od nA mx) {t : Nat} (ht : t < N S 6 0) (x : Int32) {fs : List Value} (hf : oT S X Y t = .inr (4, fs)) : RC (va_up w.1 (X 4 t) (some (.inr (4, fs.set 6 (.int x)))), w.2) (sUp S 3 (upd (S 3) t x)) X cd el tl Y V od nA mx := by
  cases hf
  obtain ⟨e, he⟩ : ∃ e : cE, e = .inr (4, ([.int (nI t), .int (S 0 t), .int (S 1 t), .int (S 2 t), vq (X 5 t), vq (clA S X t), .int (S 3 t), .int (Y 7 t), .int (Y 8 t), .int (Y 9 t), .int (Y 10 t)] : List Value).set 6 (.int x)) := ⟨_, rfl⟩
  rw [← he]
  obtain ⟨p1, p2⟩ := h.put e (lv4 ht)
  have hl := h.keepL (w' := (va_up w.1 (X 4 t) (some e), w.2)) (fun j hj => p1 7 j (lv7 hj) (by omega)) p2 rfl
  refine ⟨(p1 0 0 lv0 (by omega)).trans h.net, (p1 1 0 lv1 (by omega)).trans h.arn, fun t' ht' => ?_, fun o ho => (p1 2 o (lv2 ho) (by omega)).trans (h.opr o ho), fun i hi => (p1 3 i (lv3 hi) (by omega)).trans (h.scl i hi), ?_, fun t ht => (p1 5 t (lv5 ht) (by omega)).trans (h.giv t ht), fun t ht hk => (p1 6 t (lv6 ht hk) (by omega)).trans (h.cel t ht hk), hl.1, hl.2.1, hl.2.2, h.cds, h.cde, h.odl⟩
  · by_cases c : t' = t
    · subst c
      show va_up _ _ _ _ = _
      rw [va_up_self, he]
      show _ = (some (.inr (4, [.int (nI t'), .int (S 0 t'), .int (S 1 t'), .int (S 2 t'), vq (X 5 t'), vq (clA S X t'), .int (upd (S 3) t' x t'), .int (Y 7 t'), .int (Y 8 t'), .int (Y 9 t'), .int (Y 10 t')])) : Option cE)
      rw [pk_us]
      rfl
    · show va_up _ _ _ _ = (some (.inr (4, [.int (nI t'), .int (S 0 t'), .int (S 1 t'), .int (S 2 t'), vq (X 5 t'), vq (clA S X t'), .int (upd (S 3) t x t'), .int (Y 7 t'), .int (Y 8 t'), .int (Y 9 t'), .int (Y 10 t')])) : Option cE)
      rw [p1 4 t' (lv4 ht') (by omega), h.ten t' ht', pk_un c]
  · obtain ⟨g, g1, g2⟩ := h.sca
    exact ⟨g, (p1 9 0 lv9 (by omega)).trans g1, g2⟩
/-- a scale's two numbers -/
theorem RC.setS (h : RC w S X cd el tl Y V od nA mx) {i k j : Nat} (hi : i < 8) (hk : (k = 0 ∧ j = 7) ∨ (k = 1 ∧ j = 8)) (x : Int32) : RC (va_up w.1 (X 3 i) (some (.inr (3, ([.int (S 7 i), .int (S 8 i)] : List Value).set k (.int x)))), w.2) (sUp S j (upd (S j) i x)) X cd el tl Y V od nA mx := by
  obtain ⟨p1, p2⟩ := h.put (.inr (3, ([.int (S 7 i), .int (S 8 i)] : List Value).set k (.int x))) (lv3 hi)
  have hl := h.keepL (w' := (va_up w.1 (X 3 i) (some (.inr (3, ([.int (S 7 i), .int (S 8 i)] : List Value).set k (.int x)))), w.2)) (fun j hj => p1 7 j (lv7 hj) (by omega)) p2 rfl
  rcases hk with ⟨rfl, rfl⟩ | ⟨rfl, rfl⟩
  all_goals
    refine ⟨(p1 0 0 lv0 (by omega)).trans h.net, (p1 1 0 lv1 (by omega)).trans h.arn, fun t ht => (p1 4 t (lv4 ht) (by omega)).trans (h.ten t ht), fun o ho => (p1 2 o (lv2 ho) (by omega)).trans (h.opr o ho), fun i' hi' => ?_, ?_, fun t ht => (p1 5 t (lv5 ht) (by omega)).trans (h.giv t ht), fun t ht hk => (p1 6 t (lv6 ht hk) (by omega)).trans (h.cel t ht hk), hl.1, hl.2.1, hl.2.2, h.cds, h.cde, h.odl⟩
  · by_cases c : i' = i
    · subst c
      show va_up _ _ _ _ = (some (.inr (3, [.int (upd (S 7) i' x i'), .int (S 8 i')])) : Option cE)
      rw [va_up_self, pk_us]
      rfl
    · show va_up _ _ _ _ = (some (.inr (3, [.int (upd (S 7) i x i'), .int (S 8 i')])) : Option cE)
      rw [p1 3 i' (lv3 hi') (by omega), h.scl i' hi', pk_un c]
  · obtain ⟨g, g1, g2⟩ := h.sca
    exact ⟨g, (p1 9 0 lv9 (by omega)).trans g1, g2⟩
  · by_cases c : i' = i
    · subst c
      show va_up _ _ _ _ = (some (.inr (3, [.int (S 7 i'), .int (upd (S 8) i' x i')])) : Option cE)
      rw [va_up_self, pk_us]
      rfl
    · show va_up _ _ _ _ = (some (.inr (3, [.int (S 7 i'), .int (upd (S 8) i x i')])) : Option cE)
      rw [p1 3 i' (lv3 hi') (by omega), h.scl i' hi', pk_un c]
  · obtain ⟨g, g1, g2⟩ := h.sca
    exact ⟨g, (p1 9 0 lv9 (by omega)).trans g1, g2⟩
/-- the arena's length -/
theorem RC.setM (h : RC w S X cd el tl Y V od nA mx) (x : Int32) : RC (va_up w.1 (X 1 0) (some (.inr (1, [vq (X 7 2), .int x]))), w.2) S X cd el tl Y V od nA x := by
  obtain ⟨p1, p2⟩ := h.put (.inr (1, [vq (X 7 2), .int x])) lv1
  have hl := h.keepL (w' := (va_up w.1 (X 1 0) (some (.inr (1, [vq (X 7 2), .int x]))), w.2)) (fun j hj => p1 7 j (lv7 hj) (by omega)) p2 rfl
  refine ⟨(p1 0 0 lv0 (by omega)).trans h.net, va_up_self _ _ _, fun t ht => (p1 4 t (lv4 ht) (by omega)).trans (h.ten t ht), fun o ho => (p1 2 o (lv2 ho) (by omega)).trans (h.opr o ho), fun i hi => (p1 3 i (lv3 hi) (by omega)).trans (h.scl i hi), ?_, fun t ht => (p1 5 t (lv5 ht) (by omega)).trans (h.giv t ht), fun t ht hk => (p1 6 t (lv6 ht hk) (by omega)).trans (h.cel t ht hk), hl.1, hl.2.1, hl.2.2, h.cds, h.cde, h.odl⟩
  obtain ⟨g, g1, g2⟩ := h.sca
  exact ⟨g, (p1 9 0 lv9 (by omega)).trans g1, g2⟩
/-- what the arrays hold -/
def upV (V : Nat → Nat → Nat → Int32) (k t : Nat) (f : Nat → Int32) : Nat → Nat → Nat → Int32 := fun k' t' => if k' = k ∧ t' = t then f else V k' t'
theorem upV_s (V : Nat → Nat → Nat → Int32) (k t : Nat) (f : Nat → Int32) : upV V k t f k t = f := by unfold upV; rw [if_pos ⟨rfl, rfl⟩]
theorem upV_n (V : Nat → Nat → Nat → Int32) {k t k' t' : Nat} (f : Nat → Int32) (h : k' ≠ k ∨ t' ≠ t) : upV V k t f k' t' = V k' t' := by
  unfold upV
  rw [if_neg (by omega)]
theorem RC.setV (h : RC w S X cd el tl Y V od nA mx) {k t : Nat} (ht : t < N S 6 0) (hk : k = 5 ∨ (k = 6 ∧ N S 0 t = 1)) (f : Nat → Int32) : RC (va_up w.1 (X k t) (some (iA (N S 1 t) f)), w.2) S X cd el tl Y (upV V k t f) od nA mx := by
  have hlv : live S k t := by
    rcases hk with rfl | ⟨rfl, hk⟩
    · exact lv5 ht
    · exact lv6 ht hk
  obtain ⟨p1, p2⟩ := h.put (iA (N S 1 t) f) hlv
  have hk' : k = 5 ∨ k = 6 := by omega
  have hl := h.keepL (w' := (va_up w.1 (X k t) (some (iA (N S 1 t) f)), w.2)) (fun j hj => p1 7 j (lv7 hj) (by omega)) p2 rfl
  refine ⟨(p1 0 0 lv0 (by omega)).trans h.net, (p1 1 0 lv1 (by omega)).trans h.arn, fun t ht => (p1 4 t (lv4 ht) (by omega)).trans (h.ten t ht), fun o ho => (p1 2 o (lv2 ho) (by omega)).trans (h.opr o ho), fun i hi => (p1 3 i (lv3 hi) (by omega)).trans (h.scl i hi), ?_, fun t' ht' => ?_, fun t' ht' hk1 => ?_, hl.1, hl.2.1, hl.2.2, h.cds, h.cde, h.odl⟩
  · obtain ⟨g, g1, g2⟩ := h.sca
    exact ⟨g, (p1 9 0 lv9 (by omega)).trans g1, g2⟩
  · by_cases c : k = 5 ∧ t' = t
    · obtain ⟨rfl, rfl⟩ := c
      show va_up _ _ _ _ = _
      rw [va_up_self, upV_s]
    · rw [upV_n _ _ (by omega)]
      exact (p1 5 t' (lv5 ht') (by omega)).trans (h.giv t' ht')
  · by_cases c : k = 6 ∧ t' = t
    · obtain ⟨rfl, rfl⟩ := c
      show va_up _ _ _ _ = _
      rw [va_up_self, upV_s]
    · rw [upV_n _ _ (by omega)]
      exact (p1 6 t' (lv6 ht' hk1) (by omega)).trans (h.cel t' ht' hk1)
/-- what the reference alone holds -/
theorem RC.congS (h : RC w S X cd el tl Y V od nA mx) {S' : sM} (hS : ∀ j, j ≠ 4 → j ≠ 5 → j ≠ 16 → j ≠ 17 → S' j = S j) : RC w S' X cd el tl Y V od nA mx := by
  have e0 := hS 0 (by omega) (by omega) (by omega) (by omega)
  have e1 := hS 1 (by omega) (by omega) (by omega) (by omega)
  have e2 := hS 2 (by omega) (by omega) (by omega) (by omega)
  have e3 := hS 3 (by omega) (by omega) (by omega) (by omega)
  have e6 := hS 6 (by omega) (by omega) (by omega) (by omega)
  have e7 := hS 7 (by omega) (by omega) (by omega) (by omega)
  have e8 := hS 8 (by omega) (by omega) (by omega) (by omega)
  have e9 := hS 9 (by omega) (by omega) (by omega) (by omega)
  have e10 := hS 10 (by omega) (by omega) (by omega) (by omega)
  have e11 := hS 11 (by omega) (by omega) (by omega) (by omega)
  have e12 := hS 12 (by omega) (by omega) (by omega) (by omega)
  have e13 := hS 13 (by omega) (by omega) (by omega) (by omega)
  have e14 := hS 14 (by omega) (by omega) (by omega) (by omega)
  have e15 := hS 15 (by omega) (by omega) (by omega) (by omega)
  have e18 := hS 18 (by omega) (by omega) (by omega) (by omega)
  unfold RC live oN oT oO clA N at h ⊢
  rw [e0, e1, e2, e3, e6, e7, e8, e9, e10, e11, e12, e13, e14, e15, e18]
  exact h
end REP
