/-! tensor AND operator: what they lay -/
def upX (X : Nat → Nat → Nat) (s i a : Nat) : Nat → Nat → Nat := fun s' i' => if s' = s ∧ i' = i then a else X s' i'
theorem upX_s (X : Nat → Nat → Nat) (s i a : Nat) : upX X s i a s i = a := by unfold upX; rw [if_pos ⟨rfl, rfl⟩]
theorem upX_n (X : Nat → Nat → Nat) {s i s' i' : Nat} (a : Nat) (h : s' ≠ s ∨ i' ≠ i) : upX X s i a s' i' = X s' i' := by
  unfold upX
  rw [if_neg (by omega)]
def nwY (Y : Nat → Nat → Int32) (n : Nat) : Nat → Nat → Int32 := fun k t => if t = n then 0 else Y k t
theorem nwY_s (Y : Nat → Nat → Int32) (n k : Nat) : nwY Y n k n = 0 := by unfold nwY; rw [if_pos rfl]
theorem nwY_n (Y : Nat → Nat → Int32) {n t : Nat} (k : Nat) (h : t ≠ n) : nwY Y n k t = Y k t := by unfold nwY; rw [if_neg h]
def nwV (V : Nat → Nat → Nat → Int32) (n : Nat) : Nat → Nat → Nat → Int32 := fun k t => if t = n then (fun _ => 0) else V k t
theorem nwV_s (V : Nat → Nat → Nat → Int32) (n k : Nat) : nwV V n k n = fun _ => 0 := by unfold nwV; rw [if_pos rfl]
theorem nwV_n (V : Nat → Nat → Nat → Int32) {n t : Nat} (k : Nat) (h : t ≠ n) : nwV V n k t = V k t := by unfold nwV; rw [if_neg h]
theorem live_of {S S' : sM} {s i : Nat} (hl : live S' s i) (h2 : s = 2 → i < N S' 14 0 → i < N S 14 0) (h4 : s = 4 → i < N S' 6 0 → i < N S 6 0) (h5 : s = 5 → i < N S' 6 0 → i < N S 6 0) (h6 : s = 6 → i < N S' 6 0 → N S' 0 i = 1 → i < N S 6 0 ∧ N S 0 i = 1) : live S s i := by
  unfold live at hl ⊢
  rcases hl with q | q | q | q | q | q | q | q | q
  · exact Or.inl q
  · exact Or.inr (Or.inl q)
  · exact Or.inr (Or.inr (Or.inl ⟨q.1, h2 q.1 q.2⟩))
  · exact Or.inr (Or.inr (Or.inr (Or.inl q)))
  · exact Or.inr (Or.inr (Or.inr (Or.inr (Or.inl ⟨q.1, h4 q.1 q.2⟩))))
  · exact Or.inr (Or.inr (Or.inr (Or.inr (Or.inr (Or.inl ⟨q.1, h5 q.1 q.2⟩)))))
  · exact Or.inr (Or.inr (Or.inr (Or.inr (Or.inr (Or.inr (Or.inl ⟨q.1, h6 q.1 q.2.1 q.2.2⟩))))))
  · exact Or.inr (Or.inr (Or.inr (Or.inr (Or.inr (Or.inr (Or.inr (Or.inl q)))))))
  · exact Or.inr (Or.inr (Or.inr (Or.inr (Or.inr (Or.inr (Or.inr (Or.inr q)))))))
theorem live6 {S : sM} {i : Nat} (hl : live S 6 i) : N S 0 i = 1 := by
  unfold live at hl
  rcases hl with q | q | q | q | q | q | q | q | q
  all_goals first | exact q.2.2 | exact absurd q.1 (by decide)
theorem N_of {S : sM} {j i k : Nat} (h : S j i = nI k) (hk : k < 2 ^ 31) : N S j i = k := by unfold N; rw [h, nI_clamp hk]
section MAKE
variable {w : cW} {S : sM} {X : Nat → Nat → Nat} {cd : Nat → Nat × Nat} {el : Nat → Nat} {tl : Nat → Nat} {Y : Nat → Nat → Int32} {V : Nat → Nat → Nat → Int32} {od : Nat → Nat} {nA : Nat} {mx : Int32}
theorem RC.addT (h : RC w S X cd el tl Y V od nA mx) {S' : sM} {k l nT : Nat} {z : Int32} (hT : N S 6 0 = nT) (hn : nT < 20) (hk : k ≤ 2) (hl : l ≤ 64) (h6 : N S' 6 0 = nT + 1) (hj : ∀ j, j ≠ 0 → j ≠ 1 → j ≠ 2 → j ≠ 6 → S' j = S j) (hold : ∀ t, t < nT → S' 0 t = S 0 t ∧ S' 1 t = S 1 t ∧ S' 2 t = S 2 t) (hn0 : S' 0 nT = nI k) (hn1 : S' 1 nT = nI l) (hn2 : S' 2 nT = z) (h3 : S 3 nT = 0) (hop : ∀ o, o < N S 14 0 → N S 10 o < nT ∧ N S 11 o < nT ∧ N S 12 o < nT) : ∃ w1 w' X' cd' el' tl', fT_init w.2.1 (nI nT) (nI k) (nI l) z (alC w (.inr (4, dfT))) = some ((), w1) ∧ cRcv w1 (some (X 7 0)) 6 = some (X 7 0) ∧ fL_add2 (X 7 0) w.2.1 w1 = some (1, w') ∧ X' 0 0 = X 0 0 ∧ RC w' S' X' cd' el' tl' (nwY Y nT) (nwV V nT) od nA mx ∧ w.2.1 ≤ w'.2.1 := by
  obtain ⟨n, hw⟩ : ∃ n, w.2.1 = n := ⟨_, rfl⟩
  obtain ⟨w1, i1, i2, i3, i4, i5, i6, i7⟩ := T_init (w := w) (nI nT) z hw hl hk
  have hlt : ∀ s i, live S s i → X s i < n := fun s i hl => by rw [← hw]; exact (h.cds s i hl).2
  have hle : ∀ j, j < 3 → el j < n := fun j hj => by rw [← hw]; exact (h.cde j hj).2
  have n1 : n + 1 < w1.2.1 := by rw [i5]; split <;> omega
  have b1 : cLs w1 (X 7 0) (el 0) (tl 0) nT (X 4) := by
    have q := h.ls0.keep (w' := w1) (i7 _ (hlt 7 0 (lv7 (by omega)))) (i7 _ (hle 0 (by omega))) i6
    rw [hT] at q
    exact q
  have qx : qOk w1 2 (some n) = true := by
    unfold qOk
    dsimp only
    rw [i2]
    rfl
  have qe : ∀ i, i < nT → qOk w1 2 (some (X 4 i)) = true ∧ X 4 i < w1.2.1 := by
    intro i hi
    have hx := hlt 4 i (lv4 (by omega))
    refine ⟨?_, by omega⟩
    unfold qOk
    dsimp only
    rw [i7 _ hx, h.ten i (by omega)]
    rfl
  obtain ⟨w', e', f1, f2, ⟨f3, f4, f5⟩, f6, f7, f8⟩ := b1.add (x := n) (by omega) (by have := hlt 7 0 (lv7 (by omega)); omega) (by have := hle 0 (by omega); omega) qx (by omega) qe
  have hf : ∀ a, a < w1.2.1 → a ≠ X 7 0 → ¬ (a = el 0 ∧ tl 0 = 2) → w'.1 a = w1.1 a := fun a ha h1 h2 => f5 a ha (fun q => q.elim h1 h2)
  obtain ⟨p1, p2⟩ := h.frame (w' := w') (j0 := 0) (by omega) (fun a ha h1 h2 => (hf a (by omega) h1 h2).trans (i7 a (by omega)))
  have new : ∀ a, n ≤ a → a < w1.2.1 → w'.1 a = w1.1 a := fun a h1 h2 => hf a h2 (by have := hlt 7 0 (lv7 (by omega)); omega) (by have := hle 0 (by omega); omega)
  obtain ⟨X', hX'⟩ : ∃ X', X' = upX (upX (upX X 4 nT n) 5 nT (n + 1)) 6 nT (n + 2) := ⟨_, rfl⟩
  have x4 : X' 4 nT = n := by rw [hX', upX_n _ _ (by omega), upX_n _ _ (by omega), upX_s]
  have x5 : X' 5 nT = n + 1 := by rw [hX', upX_n _ _ (by omega), upX_s]
  have x6 : X' 6 nT = n + 2 := by rw [hX', upX_s]
  have xo : ∀ s i, (s ≠ 4 ∧ s ≠ 5 ∧ s ≠ 6) ∨ i ≠ nT → X' s i = X s i := fun s i q => by rw [hX', upX_n _ _ (by omega), upX_n _ _ (by omega), upX_n _ _ (by omega)]
  have N0 : ∀ t, t < nT → N S' 0 t = N S 0 t := fun t ht => by unfold N; rw [(hold t ht).1]
  have N1 : ∀ t, t < nT → N S' 1 t = N S 1 t := fun t ht => by unfold N; rw [(hold t ht).2.1]
  have N14 : N S' 14 0 = N S 14 0 := by unfold N; rw [hj 14 (by omega) (by omega) (by omega) (by omega)]
  have k0 : N S' 0 nT = k := N_of hn0 (by omega)
  have k1 : N S' 1 nT = l := N_of hn1 (by omega)
  have cl : ∀ t, t < nT → clA S' X' t = clA S X t := by
    intro t ht
    unfold clA
    rw [N0 t ht, xo 6 t (by omega), xo 5 t (by omega)]
  rw [hw]
  refine ⟨w1, w', X', va_up (va_up (va_up (va_up cd n (4, nT)) (n + 1) (5, nT)) (if k = 1 then n + 2 else n + 1) (if k = 1 then (6, nT) else (5, nT))) e' (8, 0), va_up el 0 e', va_up tl 0 2, i1, b1.rcv, f1, xo 0 0 (by omega), ⟨?_, ?_, fun t ht => ?_, fun o ho => ?_, fun i hi => ?_, ?_, fun t ht => ?_, fun t ht hk1 => ?_, ?_, ?_, ?_, fun s i hl => ?_, fun j hj3 => ?_, fun q hq => ?_⟩, by omega⟩
  · rw [xo 0 0 (by omega), p1 0 0 lv0 (by omega), h.net]
    unfold oN
    rw [xo 7 0 (by omega), xo 7 1 (by omega), xo 9 0 (by omega), xo 1 0 (by omega), hj 15 (by omega) (by omega) (by omega) (by omega), hj 18 (by omega) (by omega) (by omega) (by omega)]
  · rw [xo 1 0 (by omega), p1 1 0 lv1 (by omega), h.arn, xo 7 2 (by omega)]
  · rw [h6] at ht
    by_cases c : t = nT
    · subst c
      rw [x4, new n (by omega) (by omega), i2]
      unfold oT clA
      rw [hn0, hn1, hn2, x5, x6, k0, hj 3 (by omega) (by omega) (by omega) (by omega), h3, nwY_s, nwY_s, nwY_s, nwY_s]
    · have ht' : t < nT := by omega
      rw [xo 4 t (by omega), p1 4 t (lv4 (by omega)) (by omega), h.ten t (by omega)]
      unfold oT
      rw [cl t ht', (hold t ht').1, (hold t ht').2.1, (hold t ht').2.2, xo 5 t (by omega), hj 3 (by omega) (by omega) (by omega) (by omega), nwY_n _ _ c, nwY_n _ _ c, nwY_n _ _ c, nwY_n _ _ c]
  · rw [N14] at ho
    obtain ⟨o1, o2, o3⟩ := hop o ho
    rw [xo 2 o (by omega), p1 2 o (lv2 ho) (by omega), h.opr o ho]
    unfold oO
    have e10 : N S' 10 o = N S 10 o := by unfold N; rw [hj 10 (by omega) (by omega) (by omega) (by omega)]
    have e11 : N S' 11 o = N S 11 o := by unfold N; rw [hj 11 (by omega) (by omega) (by omega) (by omega)]
    have e12 : N S' 12 o = N S 12 o := by unfold N; rw [hj 12 (by omega) (by omega) (by omega) (by omega)]
    rw [e10, e11, e12, xo 4 _ (by omega), xo 4 _ (by omega), xo 4 _ (by omega), hj 9 (by omega) (by omega) (by omega) (by omega), hj 13 (by omega) (by omega) (by omega) (by omega)]
  · rw [xo 3 i (by omega), p1 3 i (lv3 hi) (by omega), h.scl i hi, hj 7 (by omega) (by omega) (by omega) (by omega), hj 8 (by omega) (by omega) (by omega) (by omega)]
  · obtain ⟨g, g1, g2⟩ := h.sca
    exact ⟨g, by rw [xo 9 0 (by omega), p1 9 0 lv9 (by omega)]; exact g1, fun i hi => by rw [xo 3 i (by omega)]; exact g2 i hi⟩
  · rw [h6] at ht
    by_cases c : t = nT
    · subst c
      rw [x5, new (n + 1) (by omega) (by omega), i3, k1, nwV_s]
    · rw [xo 5 t (by omega), p1 5 t (lv5 (by omega)) (by omega), h.giv t (by omega), N1 t (by omega), nwV_n _ _ c]
  · rw [h6] at ht
    by_cases c : t = nT
    · subst c
      rw [k0] at hk1
      have n3 : w1.2.1 = n + 3 := by rw [i5, if_pos hk1]
      rw [x6, new (n + 2) (by omega) (by omega), i4 hk1, k1, nwV_s]
    · rw [N0 t (by omega)] at hk1
      rw [xo 6 t (by omega), p1 6 t (lv6 (by omega) hk1) (by omega), h.cel t (by omega) hk1, N1 t (by omega), nwV_n _ _ c]
  · rw [va_up_self, va_up_self, h6, xo 7 0 (by omega)]
    refine f2.cong (fun i hi => ?_)
    by_cases c : i = nT
    · rw [c, x4, va_up_self]
    · rw [va_up_ne _ _ c, xo 4 i (by omega)]
  · rw [va_up_ne _ _ (by omega), va_up_ne _ _ (by omega), N14, xo 7 1 (by omega)]
    refine (h.ls1.keep (p1 7 1 (lv7 (by omega)) (by omega)) (p2 1 (by omega) (by omega)) (f4.trans i6)).cong (fun i hi => xo 2 i (by omega))
  · rw [va_up_ne _ _ (by omega), va_up_ne _ _ (by omega), xo 7 2 (by omega)]
    refine (h.ls2.keep (p1 7 2 (lv7 (by omega)) (by omega)) (p2 2 (by omega) (by omega)) (f4.trans i6)).cong (fun i hi => xo 4 _ ?_)
    have := h.odl i hi
    omega
  · have ee : e' = el 0 ∨ w1.2.1 ≤ e' := f6
    have e0 := hle 0 (by omega)
    by_cases c4 : s = 4 ∧ i = nT
    · obtain ⟨rfl, rfl⟩ := c4
      rw [x4, va_up_ne _ _ (by omega), va_up_ne _ _ (by split <;> omega), va_up_ne _ _ (by omega), va_up_self]
      exact ⟨rfl, by omega⟩
    · by_cases c5 : s = 5 ∧ i = nT
      · obtain ⟨rfl, rfl⟩ := c5
        rw [x5, va_up_ne _ _ (by omega)]
        by_cases ck : k = 1
        · rw [if_pos ck, va_up_ne _ _ (by omega), va_up_self]
          exact ⟨rfl, by omega⟩
        · rw [if_neg ck, if_neg ck, va_up_self]
          exact ⟨rfl, by omega⟩
      · by_cases c6 : s = 6 ∧ i = nT
        · obtain ⟨rfl, rfl⟩ := c6
          have hk1 : k = 1 := by
            have := live6 hl
            omega
          have n3 : w1.2.1 = n + 3 := by rw [i5, if_pos hk1]
          rw [x6, va_up_ne _ _ (by omega), if_pos hk1, if_pos hk1, va_up_self]
          exact ⟨rfl, by omega⟩
        · have hl' : live S s i := live_of hl (fun _ q => by rw [N14] at q; exact q) (fun z q => by omega) (fun z q => by omega) (fun z q1 q2 => by
            have l1 : i < nT := by omega
            rw [N0 i l1] at q2
            exact ⟨by omega, q2⟩)
          have hX := hlt s i hl'
          have hne : X s i ≠ e' := by
            rcases ee with z | z
            · intro q
              exact h.neE hl' (j := 0) (by omega) (z.symm.trans q.symm)
            · omega
          rw [xo s i (by omega), va_up_ne _ _ hne, va_up_ne _ _ (by split <;> omega), va_up_ne _ _ (by omega), va_up_ne _ _ (by omega)]
          exact ⟨(h.cds s i hl').1, by omega⟩
  · by_cases c : j = 0
    · rw [c, va_up_self, va_up_self, va_up_self, if_pos rfl]
      exact ⟨rfl, f7⟩
    · have hE := h.cde j hj3
      have hE2 := hle j hj3
      rw [va_up_ne _ _ c, va_up_ne _ _ c]
      refine ⟨?_, by omega⟩
      rw [va_up_ne, va_up_ne _ _ (by split <;> omega), va_up_ne _ _ (by omega), va_up_ne _ _ (by omega)]
      · exact hE.1
      · intro q
        rcases f6 with z | z
        · have a := hE.1
          have b := (h.cde 0 (by omega)).1
          rw [if_pos (f8 z), ← z, ← q, a] at b
          by_cases c2 : tl j = 2
          · rw [if_pos c2] at b
            cases b
            exact c rfl
          · rw [if_neg c2] at b
            cases b
        · omega
  · have := h.odl q hq
    omega
theorem RC.addO (h : RC w S X cd el tl Y V od nA mx) {S' : sM} {nO : Nat} {a1 a2 a3 : Nat} {k p : Int32} (hT : N S 14 0 = nO) (hn : nO < 14) (h6 : N S' 14 0 = nO + 1) (hj : ∀ j, j ≠ 9 → j ≠ 10 → j ≠ 11 → j ≠ 12 → j ≠ 13 → j ≠ 14 → S' j = S j) (hold : ∀ t, t < nO → S' 9 t = S 9 t ∧ S' 10 t = S 10 t ∧ S' 11 t = S 11 t ∧ S' 12 t = S 12 t ∧ S' 13 t = S 13 t) (hn9 : S' 9 nO = k) (hn10 : N S' 10 nO = a1) (hn11 : N S' 11 nO = a2) (hn12 : N S' 12 nO = a3) (hn13 : S' 13 nO = p) : ∃ w1 w' X' cd' el' tl', fO_init w.2.1 k (X 4 a1) (X 4 a2) (X 4 a3) p (alC w (.inr (2, dfO))) = some ((), w1) ∧ cRcv w1 (some (X 7 1)) 6 = some (X 7 1) ∧ fL_add2 (X 7 1) w.2.1 w1 = some (1, w') ∧ X' 0 0 = X 0 0 ∧ X' 7 1 = X 7 1 ∧ RC w' S' X' cd' el' tl' Y V od nA mx ∧ w.2.1 ≤ w'.2.1 := by
  obtain ⟨n, hw⟩ : ∃ n, w.2.1 = n := ⟨_, rfl⟩
  obtain ⟨w1, i1, i2, i5, i6, i7⟩ := O_init (w := w) k p (X 4 a1) (X 4 a2) (X 4 a3) hw
  have hlt : ∀ s i, live S s i → X s i < n := fun s i hl => by rw [← hw]; exact (h.cds s i hl).2
  have hle : ∀ j, j < 3 → el j < n := fun j hj => by rw [← hw]; exact (h.cde j hj).2
  have b1 : cLs w1 (X 7 1) (el 1) (tl 1) nO (X 2) := by
    have q := h.ls1.keep (w' := w1) (i7 _ (hlt 7 1 (lv7 (by omega)))) (i7 _ (hle 1 (by omega))) i6
    rw [hT] at q
    exact q
  have qx : qOk w1 2 (some n) = true := by
    unfold qOk
    dsimp only
    rw [i2]
    rfl
  have qe : ∀ i, i < nO → qOk w1 2 (some (X 2 i)) = true ∧ X 2 i < w1.2.1 := by
    intro i hi
    have hx := hlt 2 i (lv2 (by omega))
    refine ⟨?_, by omega⟩
    unfold qOk
    dsimp only
    rw [i7 _ hx, h.opr i (by omega)]
    rfl
  obtain ⟨w', e', f1, f2, ⟨f3, f4, f5⟩, f6, f7, f8⟩ := b1.add (x := n) (by omega) (by have := hlt 7 1 (lv7 (by omega)); omega) (by have := hle 1 (by omega); omega) qx (by omega) qe
  have hf : ∀ a, a < w1.2.1 → a ≠ X 7 1 → ¬ (a = el 1 ∧ tl 1 = 2) → w'.1 a = w1.1 a := fun a ha h1 h2 => f5 a ha (fun q => q.elim h1 h2)
  obtain ⟨p1, p2⟩ := h.frame (w' := w') (j0 := 1) (by omega) (fun a ha h1 h2 => (hf a (by omega) h1 h2).trans (i7 a (by omega)))
  have new : w'.1 n = w1.1 n := hf n (by omega) (by have := hlt 7 1 (lv7 (by omega)); omega) (by have := hle 1 (by omega); omega)
  obtain ⟨X', hX'⟩ : ∃ X', X' = upX X 2 nO n := ⟨_, rfl⟩
  have x4 : X' 2 nO = n := by rw [hX', upX_s]
  have xo : ∀ s i, s ≠ 2 ∨ i ≠ nO → X' s i = X s i := fun s i q => by rw [hX', upX_n _ _ (by omega)]
  have N0 : ∀ t, N S' 0 t = N S 0 t := fun t => by unfold N; rw [hj 0 (by omega) (by omega) (by omega) (by omega) (by omega) (by omega)]
  have N1 : ∀ t, N S' 1 t = N S 1 t := fun t => by unfold N; rw [hj 1 (by omega) (by omega) (by omega) (by omega) (by omega) (by omega)]
  have N6 : N S' 6 0 = N S 6 0 := by unfold N; rw [hj 6 (by omega) (by omega) (by omega) (by omega) (by omega) (by omega)]
  have cl : ∀ t, clA S' X' t = clA S X t := by
    intro t
    unfold clA
    rw [N0 t, xo 6 t (by omega), xo 5 t (by omega)]
  rw [hw]
  refine ⟨w1, w', X', va_up (va_up cd n (2, nO)) e' (8, 1), va_up el 1 e', va_up tl 1 2, i1, b1.rcv, f1, xo 0 0 (by omega), xo 7 1 (by omega), ⟨?_, ?_, fun t ht => ?_, fun o ho => ?_, fun i hi => ?_, ?_, fun t ht => ?_, fun t ht hk1 => ?_, ?_, ?_, ?_, fun s i hl => ?_, fun j hj3 => ?_, fun q hq => ?_⟩, by omega⟩
  · rw [xo 0 0 (by omega), p1 0 0 lv0 (by omega), h.net]
    unfold oN
    rw [xo 7 0 (by omega), xo 7 1 (by omega), xo 9 0 (by omega), xo 1 0 (by omega), hj 15 (by omega) (by omega) (by omega) (by omega) (by omega) (by omega), hj 18 (by omega) (by omega) (by omega) (by omega) (by omega) (by omega)]
  · rw [xo 1 0 (by omega), p1 1 0 lv1 (by omega), h.arn, xo 7 2 (by omega)]
  · rw [N6] at ht
    rw [xo 4 t (by omega), p1 4 t (lv4 (by omega)) (by omega), h.ten t (by omega)]
    unfold oT
    rw [cl t, hj 0 (by omega) (by omega) (by omega) (by omega) (by omega) (by omega), hj 1 (by omega) (by omega) (by omega) (by omega) (by omega) (by omega), hj 2 (by omega) (by omega) (by omega) (by omega) (by omega) (by omega), hj 3 (by omega) (by omega) (by omega) (by omega) (by omega) (by omega), xo 5 t (by omega)]
  · rw [h6] at ho
    by_cases c : o = nO
    · subst c
      rw [x4, new, i2]
      unfold oO
      rw [hn9, hn10, hn11, hn12, hn13, xo 4 _ (by omega), xo 4 _ (by omega), xo 4 _ (by omega)]
    · have ho' : o < nO := by omega
      obtain ⟨q9, q10, q11, q12, q13⟩ := hold o ho'
      rw [xo 2 o (by omega), p1 2 o (lv2 (by omega)) (by omega), h.opr o (by omega)]
      unfold oO
      have e10 : N S' 10 o = N S 10 o := by unfold N; rw [q10]
      have e11 : N S' 11 o = N S 11 o := by unfold N; rw [q11]
      have e12 : N S' 12 o = N S 12 o := by unfold N; rw [q12]
      rw [e10, e11, e12, xo 4 _ (by omega), xo 4 _ (by omega), xo 4 _ (by omega), q9, q13]
  · rw [xo 3 i (by omega), p1 3 i (lv3 hi) (by omega), h.scl i hi, hj 7 (by omega) (by omega) (by omega) (by omega) (by omega) (by omega), hj 8 (by omega) (by omega) (by omega) (by omega) (by omega) (by omega)]
  · obtain ⟨g, g1, g2⟩ := h.sca
    exact ⟨g, by rw [xo 9 0 (by omega), p1 9 0 lv9 (by omega)]; exact g1, fun i hi => by rw [xo 3 i (by omega)]; exact g2 i hi⟩
  · rw [N6] at ht
    rw [xo 5 t (by omega), p1 5 t (lv5 (by omega)) (by omega), h.giv t (by omega), N1 t]
  · rw [N6] at ht
    rw [N0 t] at hk1
    rw [xo 6 t (by omega), p1 6 t (lv6 (by omega) hk1) (by omega), h.cel t (by omega) hk1, N1 t]
  · rw [va_up_ne _ _ (by omega), va_up_ne _ _ (by omega), N6, xo 7 0 (by omega)]
    exact (h.ls0.keep (p1 7 0 (lv7 (by omega)) (by omega)) (p2 0 (by omega) (by omega)) (f4.trans i6)).cong (fun i hi => xo 4 i (by omega))
  · rw [va_up_self, va_up_self, h6, xo 7 1 (by omega)]
    refine f2.cong (fun i hi => ?_)
    by_cases c : i = nO
    · rw [c, x4, va_up_self]
    · rw [va_up_ne _ _ c, xo 2 i (by omega)]
  · rw [va_up_ne _ _ (by omega), va_up_ne _ _ (by omega), xo 7 2 (by omega)]
    exact (h.ls2.keep (p1 7 2 (lv7 (by omega)) (by omega)) (p2 2 (by omega) (by omega)) (f4.trans i6)).cong (fun i hi => xo 4 _ (by omega))
  · have ee : e' = el 1 ∨ w1.2.1 ≤ e' := f6
    have e0 := hle 1 (by omega)
    by_cases c4 : s = 2 ∧ i = nO
    · obtain ⟨rfl, rfl⟩ := c4
      rw [x4, va_up_ne _ _ (by omega), va_up_self]
      exact ⟨rfl, by omega⟩
    · have hl' : live S s i := live_of hl (fun z q => by omega) (fun _ q => by rw [N6] at q; exact q) (fun _ q => by rw [N6] at q; exact q) (fun _ q1 q2 => by rw [N6] at q1; rw [N0] at q2; exact ⟨q1, q2⟩)
      have hX := hlt s i hl'
      have hne : X s i ≠ e' := by
        rcases ee with z | z
        · intro q
          exact h.neE hl' (j := 1) (by omega) (z.symm.trans q.symm)
        · omega
      rw [xo s i (by omega), va_up_ne _ _ hne, va_up_ne _ _ (by omega)]
      exact ⟨(h.cds s i hl').1, by omega⟩
  · by_cases c : j = 1
    · rw [c, va_up_self, va_up_self, va_up_self, if_pos rfl]
      exact ⟨rfl, f7⟩
    · have hE := h.cde j hj3
      have hE2 := hle j hj3
      rw [va_up_ne _ _ c, va_up_ne _ _ c]
      refine ⟨?_, by omega⟩
      rw [va_up_ne, va_up_ne _ _ (by omega)]
      · exact hE.1
      · intro q
        rcases f6 with z | z
        · have a := hE.1
          have b := (h.cde 1 (by omega)).1
          rw [if_pos (f8 z), ← z, ← q, a] at b
          by_cases c2 : tl j = 2
          · rw [if_pos c2] at b
            cases b
            exact c rfl
          · rw [if_neg c2] at b
            cases b
        · omega
  · rw [N6]; exact h.odl q hq
end MAKE
