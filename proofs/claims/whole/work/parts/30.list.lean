/-! ArrayList over worlds: cLs w l e t n f: at l lies a list of n elements (addresses f 0 .. f (n - 1)), its array at e, of kind t (4: the empty one that all lists begin with) -/
abbrev rA (t cap : Nat) (g : Nat → Option Nat) : cE := .inl (t, cap, .inr (.inr (.inr (.inr g))))
abbrev oL (e n : Nat) (mc : Int32) : cE := .inr (6, [va_rf (some e), .int (nI n), .int mc])
def cLs (w : cW) (l e t n : Nat) (f : Nat → Nat) : Prop := ∃ (mc : Int32) (cap : Nat) (g : Nat → Option Nat), w.1 l = some (oL e n mc) ∧ w.1 e = some (rA t cap g) ∧ n ≤ cap ∧ cap ≤ 33 ∧ ((t = 2 ∧ 10 ≤ cap) ∨ (t = 4 ∧ cap = 0 ∧ e = w.2.2.1)) ∧ ∀ i, i < n → g i = some (f i)
theorem lp_s {τ : Type} (bot : τ) (body : τ → τ) (n : Nat) : lp bot body (n + 1) = body (lp bot body n) := rfl
theorem ldQ_in {w : cW} {a t N j : Nat} {f : Nat → Option Nat} {i : Int32} (h : w.1 a = some (rA t N f)) (ht : t < aN) (hr : aRf t = true) (hi : i = nI j) (hj : j < N) (hN : N < 2 ^ 31) : ldQ w (some a) i = some (f j) := by
  subst hi
  unfold ldQ
  rw [ob_of (cArr_in h)]
  dsimp only
  rw [if_pos ⟨ht, hr, nI_in hj hN⟩, nI_clamp (by omega)]
theorem stQ_in {w : cW} {a t N j : Nat} {f : Nat → Option Nat} {i : Int32} {x : Option Nat} (h : w.1 a = some (rA t N f)) (h1 : t < aRO) (ht : t < aN) (hr : aRf t = true) (hx : qOk w t x = true) (hi : i = nI j) (hj : j < N) (hN : N < 2 ^ 31) : stQ w (some a) i x = some (va_up w.1 a (some (rA t N (va_up f j x))), w.2) := by
  subst hi
  unfold stQ
  rw [ob_of (cArr_in h)]
  dsimp only
  rw [if_pos ⟨h1, ht, hr, hx, nI_in hj hN⟩, nI_clamp (by omega)]
theorem cLs.size {w : cW} {l e t n : Nat} {f : Nat → Nat} (h : cLs w l e t n f) : fL_size l w = some (nI n, w) := by
  obtain ⟨mc, cap, g, h1, -⟩ := h
  unfold fL_size
  rw [ob_of (gI_in h1 rfl)]
theorem cLs.rcv {w : cW} {l e t n : Nat} {f : Nat → Nat} (h : cLs w l e t n f) : cRcv w (some l) 6 = some l := by
  obtain ⟨mc, cap, g, h1, -⟩ := h
  exact cRcv_in h1
theorem cLs.get {w : cW} {l e t n i : Nat} {f : Nat → Nat} (h : cLs w l e t n f) (hi : i < n) : fL_get l (nI i) w = some (some (f i), w) := by
  obtain ⟨mc, cap, g, h1, h2, h3, h4, h5, h6⟩ := h
  have ht : t < aN ∧ aRf t = true := by
    rcases h5 with h | h
    · rw [h.1]; decide
    · rw [h.1]; decide
  unfold fL_get
  rw [ob_of (gI_in h1 rfl)]
  have e1 : fJ_checkIndex (nI i) (nI n) w = some (nI i, w) := by
    unfold fJ_checkIndex fP_checkIndex
    rw [if_neg (nI_pos (by omega)), if_pos (nI_lt hi (by omega))]
    rfl
  rw [cbd_of e1, ob_of (cRcv_in h1)]
  have e2 : fL_elementData l (nI i) w = some (some (f i), w) := by
    unfold fL_elementData
    rw [ob_of (gQ_in h1 rfl), ob_of (ldQ_in h2 ht.1 ht.2 rfl (by omega) (by omega)), h6 i hi]
  rw [cbd_of e2]
/-- what lies where it lay -/
def Fr (w w' : cW) (P : Nat → Prop) : Prop := w.2.1 ≤ w'.2.1 ∧ w'.2.2 = w.2.2 ∧ ∀ a, a < w.2.1 → ¬ P a → w'.1 a = w.1 a
theorem cLs.ne {w : cW} {l e t n : Nat} {f : Nat → Nat} (h : cLs w l e t n f) : e ≠ l := by
  obtain ⟨mc, cap, g, h1, h2, -⟩ := h
  intro q
  rw [q, h1] at h2
  cases h2
theorem qOk_up {w : cW} {t a : Nat} {x : Option Nat} {e0 e : cE} (ha : w.1 a = some e0) (hs : ∀ ci fs, e0 = .inr (ci, fs) → ∃ fs', e = .inr (ci, fs')) (hx : qOk w t x = true) : qOk (va_up w.1 a (some e), w.2) t x = true := by
  cases x with
  | none => rfl
  | some b =>
    unfold qOk at hx ⊢
    dsimp only at hx ⊢
    by_cases c : b = a
    · subst c
      rw [va_up_self]
      rw [ha] at hx
      rcases e0 with e0 | ⟨ci, fs⟩
      · cases hx
      · obtain ⟨fs', rfl⟩ := hs ci fs rfl
        exact hx
    · rw [va_up_ne _ _ c]
      exact hx
theorem qOk_new {w : cW} {t : Nat} {x : Option Nat} {e : cE} (hw : ∀ b, x = some b → b < w.2.1) (hx : qOk w t x = true) : qOk (alC w e) t x = true := by
  cases x with
  | none => rfl
  | some b =>
    unfold qOk alC at *
    dsimp only at hx ⊢
    rw [va_up_ne _ _ (Nat.ne_of_lt (hw b rfl))]
    exact hx
/-- an element more -/
theorem cLs.add {w : cW} {l e t n x : Nat} {f : Nat → Nat} (h : cLs w l e t n f) (hn : n ≤ 21) (hl : l < w.2.1) (he : e < w.2.1) (hx : qOk w 2 (some x) = true) (hxl : x < w.2.1) (hel : ∀ i, i < n → qOk w 2 (some (f i)) = true ∧ f i < w.2.1) : ∃ w' e', fL_add2 l x w = some (1, w') ∧ cLs w' l e' 2 (n + 1) (va_up f n x) ∧ Fr w w' (fun a => a = l ∨ (a = e ∧ t = 2)) ∧ (e' = e ∨ w.2.1 ≤ e') ∧ e' < w'.2.1 ∧ (e' = e → t = 2) := by
  have hne := h.ne
  obtain ⟨mc, cap, g, h1, h2, h3, h4, h5, h6⟩ := h
  -- the count of changes
  obtain ⟨w2, hw2⟩ : ∃ w2 : cW, w2 = (va_up w.1 l (some (oL e n (mc + 1))), w.2) := ⟨_, rfl⟩
  have a1 : w2.1 l = some (oL e n (mc + 1)) := by rw [hw2]; exact va_up_self _ _ _
  have a2 : w2.1 e = some (rA t cap g) := by rw [hw2]; show va_up _ _ _ _ = _; rw [va_up_ne _ _ hne]; exact h2
  have a3 : w2.2 = w.2 := by rw [hw2]
  have a4 : ∀ a, a ≠ l → w2.1 a = w.1 a := fun a ha => by rw [hw2]; exact va_up_ne _ _ ha
  have q2 : ∀ y, qOk w 2 y = true → qOk w2 2 y = true := fun y hy => by rw [hw2]; exact qOk_up h1 (fun ci fs hh => by cases hh; exact ⟨_, rfl⟩) hy
  have e0 : pI w (some l) 6 2 (mc + 1) = some w2 := by rw [pI_in h1 (by show 2 < 3; decide), hw2]; rfl
  -- the end of both roads: the array at e2 of n2 places takes the element
  have fin : ∀ (w3 : cW) (e2 cap2 c : Nat) (g2 : Nat → Option Nat), w3.1 l = some (oL e2 n (mc + 1)) → w3.1 e2 = some (rA 2 cap2 g2) → n < cap2 → 10 ≤ cap2 → cap2 ≤ 33 → c < 2 → qOk w3 2 (some x) = true → (∀ i, i < n → g2 i = some (f i)) → ∃ w', fL_add_b11 l (some x) (some e2) (nI n) c w3 = some ((), w') ∧ cLs w' l e2 2 (n + 1) (va_up f n x) ∧ w'.2 = w3.2 ∧ ∀ a, a ≠ l → a ≠ e2 → w'.1 a = w3.1 a := by
    intro w3 e2 cap2 c g2 b1 b2 b3 b4 b5 b6 b7 b8
    have hne2 : l ≠ e2 := by
      intro q
      rw [← q, b1] at b2
      cases b2
    have s1 := stQ_in (i := nI n) b2 (by decide) (by decide) (by decide) b7 rfl b3 (by omega)
    obtain ⟨w4, hw4⟩ : ∃ w4 : cW, w4 = (va_up w3.1 e2 (some (rA 2 cap2 (va_up g2 n (some x)))), w3.2) := ⟨_, rfl⟩
    rw [← hw4] at s1
    have c1 : w4.1 l = some (oL e2 n (mc + 1)) := by rw [hw4]; show va_up _ _ _ _ = _; rw [va_up_ne _ _ hne2]; exact b1
    have s2 : pI w4 (some l) 6 1 (nI n + 1) = some (va_up w4.1 l (some (oL e2 (n + 1) (mc + 1))), w4.2) := by rw [pI_in c1 (by show 1 < 3; decide), nI_1]; rfl
    refine ⟨(va_up w4.1 l (some (oL e2 (n + 1) (mc + 1))), w4.2), ?_, ⟨mc + 1, cap2, va_up g2 n (some x), ?_, ?_, by omega, b5, Or.inl ⟨rfl, b4⟩, fun i hi => ?_⟩, ?_, fun a g1 g3 => ?_⟩
    · unfold fL_add_b11
      rw [ob_of s1, ob_of s2, if_pos b6]
    · exact va_up_self _ _ _
    · show va_up _ _ _ _ = _
      rw [va_up_ne _ _ (Ne.symm hne2), hw4]
      exact va_up_self _ _ _
    · by_cases q : i = n
      · rw [q, va_up_self, va_up_self]
      · rw [va_up_ne _ _ q, va_up_ne _ _ q]
        exact b8 i (by omega)
    · rw [hw4]
    · show va_up _ _ _ _ = _
      rw [va_up_ne _ _ g1, hw4]
      exact va_up_ne _ _ g3
  have body : ∃ w' e', fL_add l x e (nI n) w2 = some ((), w') ∧ cLs w' l e' 2 (n + 1) (va_up f n x) ∧ Fr w w' (fun a => a = l ∨ (a = e ∧ t = 2)) ∧ (e' = e ∨ w.2.1 ≤ e') ∧ e' < w'.2.1 ∧ (e' = e → t = 2) := by
    unfold fL_add
    rw [ob_of (aLen_in a2 (by rcases h5 with q | q <;> rw [q.1] <;> decide))]
    by_cases hc : n = cap
    · -- full: it grows
      rw [if_pos (by rw [hc])]
      have gr : ∃ w3 e2 cap2 g2, fL_grow2 l w2 = some (some e2, w3) ∧ w3.1 l = some (oL e2 n (mc + 1)) ∧ w3.1 e2 = some (rA 2 cap2 g2) ∧ n < cap2 ∧ 10 ≤ cap2 ∧ cap2 ≤ 33 ∧ qOk w3 2 (some x) = true ∧ (∀ i, i < n → g2 i = some (f i)) ∧ w3.2.1 = w.2.1 + 1 ∧ w3.2.2 = w.2.2 ∧ e2 = w.2.1 ∧ ∀ a, a < w.2.1 → a ≠ l → w3.1 a = w.1 a := by
        have n2 : w2.2.1 = w.2.1 := by rw [a3]
        unfold fL_grow2
        rw [ob_of (gI_in a1 rfl), ob_of (cRcv_in a1)]
        rcases h5 with ⟨rfl, hcap⟩ | ⟨rfl, hcap, hez⟩
        · -- an array that is copied
          obtain ⟨cap2, hcap2⟩ : ∃ c2, c2 = cap + cap / 2 := ⟨_, rfl⟩
          have hle : cap2 ≤ 33 := by omega
          obtain ⟨w3, hw3⟩ : ∃ w3 : cW, w3 = alC w2 (rA 2 cap2 (fun _ => none)) := ⟨_, rfl⟩
          have d1 : w3.1 e = some (rA 2 cap g) := by rw [hw3]; show va_up _ _ _ _ = _; rw [va_up_ne _ _ (by rw [n2]; omega)]; exact a2
          have d2 : w3.1 w.2.1 = some (rA 2 cap2 (fun _ => none)) := by rw [hw3, ← n2]; exact va_up_self _ _ _
          have d3 : w3.1 l = some (oL e n (mc + 1)) := by rw [hw3]; show va_up _ _ _ _ = _; rw [va_up_ne _ _ (by rw [n2]; omega)]; exact a1
          have sN : fU_newLength (nI cap) (nI n + 1 - nI cap) (nI cap >>> ((1 : Int32) &&& 31)) w2 = some (nI cap2, w2) := by
            have k1 : nI cap >>> ((1 : Int32) &&& 31) = nI (cap / 2) := by
              have k := pk_shrN (n := cap) (by omega) ((1 : Int32) &&& 31) 1 (by decide)
              rw [Nat.pow_one] at k
              exact k
            have k2 : nI n + 1 - nI cap = nI 1 := by
              rw [hc, nI_1]
              have k := pk_sub (a := cap + 1) (b := cap) (by omega)
              rw [Nat.add_sub_cancel_left] at k
              exact k
            unfold fU_newLength
            rw [bnd_eq, k1, k2, if_pos (nI_lt (by omega) (by omega)), nI_add, ← hcap2, if_neg (show ¬ nI cap2 ≤ 0 from nI_nle (by omega) (by omega)), if_neg (show ¬ (2147483639 : Int32) < nI cap2 from (nI_nlt (by omega) (by decide) : ¬ nI 2147483639 < nI cap2))]
          have sA : alQ w2 2 (nI cap2) 33 = some w3 := by
            unfold alQ
            rw [if_pos ⟨nI_pos (by omega), by rw [nI_clamp (by omega)]; exact hle⟩, nI_clamp (by omega), hw3]
          obtain ⟨g2, hg2⟩ : ∃ g2, g2 = va_cpy g (fun _ => none) 0 0 cap := ⟨_, rfl⟩
          obtain ⟨w4, hw4⟩ : ∃ w4 : cW, w4 = (va_up w3.1 w.2.1 (some (rA 2 cap2 g2)), w3.2) := ⟨_, rfl⟩
          have q3 : ∀ y, (∀ b, y = some b → b < w.2.1) → qOk w 2 y = true → qOk w3 2 y = true := fun y hy hq => by rw [hw3]; exact qOk_new (fun b hb => by rw [n2]; exact hy b hb) (q2 y hq)
          have sCa : ∀ i ∈ List.range cap, qOk w3 2 (g (0 + i)) = true := by
            intro i hi
            have hi := List.mem_range.mp hi
            rw [Nat.zero_add, h6 i (by omega)]
            exact q3 _ (fun b hb => by cases hb; exact (hel i (by omega)).2) (hel i (by omega)).1
          have sC : cpQ w3 (some e) 0 (some w.2.1) 0 (nI cap) = some w4 := by
            unfold cpQ
            rw [ob_of (cArr_in d1), ob_of (cArr_in d2)]
            dsimp only
            rw [nI_clamp (show cap < 2 ^ 31 by omega), sb_cl0, if_pos ⟨rfl, rfl, by decide, by decide, nI_pos (by omega), by omega, by omega, List.all_eq_true.mpr sCa⟩, hw4, hg2]
          have sY : fY_copyOf2 e (nI cap2) w2 = some (some w.2.1, w4) := by
            have k3 : cGC w2 (some e) = some () := by
              unfold cGC
              rw [ob_of (cArr_in a2)]
              rfl
            have k4 : fY_copyOf e (nI cap2) w2.2.2.2 w2 = some (some w.2.1, w4) := by
              unfold fY_copyOf
              rw [if_pos rfl, ob_of sA, ob_of (aLen_in d1 (by decide)), if_neg (nI_nlt (by omega) (by omega)), n2, ob_of sC]
            unfold fY_copyOf2
            rw [ob_of k3, cbd_of k4]
          have hw4l : w4.1 l = some (oL e n (mc + 1)) := by rw [hw4]; show va_up _ _ _ _ = _; rw [va_up_ne _ _ (by omega)]; exact d3
          obtain ⟨w5, hw5⟩ : ∃ w5 : cW, w5 = (va_up w4.1 l (some (oL w.2.1 n (mc + 1))), w4.2) := ⟨_, rfl⟩
          have sP : pQ w4 (some l) 6 0 (some w.2.1) = some w5 := by rw [pQ_in hw4l (by show 0 < 3; decide), hw5]; rfl
          have sG : fL_grow l (nI n + 1) w2 = some (some w.2.1, w5) := by
            unfold fL_grow fL_grow_b20
            rw [ob_of (gQ_in a1 rfl), ob_of (aLen_in a2 (by decide)), if_pos (show (0 : Int32) < nI cap from (nI_lt (by omega) (by omega) : nI 0 < nI cap)), if_pos (by decide), cbd_of sN, ob_of (gQ_in a1 rfl)]
            show (if 0 < 1 then _ else none) = _
            rw [if_pos (by decide), cbd_of sY, ob_of sP]
            exact if_pos (by decide)
          rw [cbd_of sG]
          refine ⟨w5, w.2.1, cap2, g2, rfl, ?_, ?_, by omega, by omega, hle, ?_, fun i hi => ?_, ?_, ?_, rfl, fun a ha hal => ?_⟩
          · rw [hw5]; exact va_up_self _ _ _
          · rw [hw5]
            show va_up _ _ _ _ = _
            rw [va_up_ne _ _ (by omega), hw4]
            exact va_up_self _ _ _
          · rw [hw5]
            refine qOk_up hw4l (fun ci fs hh => by cases hh; exact ⟨_, rfl⟩) ?_
            rw [hw4]
            exact qOk_up d2 (fun ci fs hh => by cases hh) (q3 _ (fun b hb => by cases hb; exact hxl) hx)
          · rw [hg2, pk_cpy_in (Nat.zero_le _) (by omega), Nat.zero_add, Nat.sub_zero]
            exact h6 i hi
          · rw [hw5, hw4, hw3]; show w2.2.1 + 1 = _; rw [n2]
          · rw [hw5, hw4, hw3]; show w2.2.2 = _; rw [a3]
          · rw [hw5]
            show va_up _ _ _ _ = _
            rw [va_up_ne _ _ hal, hw4]
            show va_up _ _ _ _ = _
            rw [va_up_ne _ _ (by omega), hw3]
            show va_up _ _ _ _ = _
            rw [va_up_ne _ _ (by rw [n2]; omega)]
            exact a4 a hal
        · -- the first element
          have hn0 : n = 0 := by omega
          obtain ⟨w3, hw3⟩ : ∃ w3 : cW, w3 = alC w2 (rA 2 10 (fun _ => none)) := ⟨_, rfl⟩
          have d3 : w3.1 l = some (oL e n (mc + 1)) := by rw [hw3]; show va_up _ _ _ _ = _; rw [va_up_ne _ _ (by rw [n2]; omega)]; exact a1
          have sA : alQ w2 2 (10 : Int32) 33 = some w3 := by
            unfold alQ
            rw [if_pos (by decide), hw3]
            rfl
          obtain ⟨w5, hw5⟩ : ∃ w5 : cW, w5 = (va_up w3.1 l (some (oL w.2.1 n (mc + 1))), w3.2) := ⟨_, rfl⟩
          have sP : pQ w3 (some l) 6 0 (some w.2.1) = some w5 := by rw [pQ_in d3 (by show 0 < 3; decide), hw5]; rfl
          have sG : fL_grow l (nI n + 1) w2 = some (some w.2.1, w5) := by
            unfold fL_grow
            rw [ob_of (gQ_in a1 rfl), ob_of (aLen_in a2 (by decide)), if_neg (by rw [hcap]; decide), ob_of (gQ_in a1 rfl), if_pos (by rw [hez, a3]), if_neg (by rw [hn0]; decide), ob_of sA, n2, ob_of sP]
          rw [cbd_of sG]
          refine ⟨w5, w.2.1, 10, fun _ => none, rfl, ?_, ?_, by omega, by omega, by omega, ?_, fun i hi => by omega, ?_, ?_, rfl, fun a ha hal => ?_⟩
          · rw [hw5]; exact va_up_self _ _ _
          · rw [hw5]
            show va_up _ _ _ _ = _
            rw [va_up_ne _ _ (by omega), hw3, ← n2]
            exact va_up_self _ _ _
          · rw [hw5]
            refine qOk_up d3 (fun ci fs hh => by cases hh; exact ⟨_, rfl⟩) ?_
            rw [hw3]
            exact qOk_new (fun b hb => by cases hb; rw [n2]; exact hxl) (q2 _ hx)
          · rw [hw5, hw3]; show w2.2.1 + 1 = _; rw [n2]
          · rw [hw5, hw3]; show w2.2.2 = _; rw [a3]
          · rw [hw5]
            show va_up _ _ _ _ = _
            rw [va_up_ne _ _ hal, hw3]
            show va_up _ _ _ _ = _
            rw [va_up_ne _ _ (by rw [n2]; omega)]
            exact a4 a hal
      obtain ⟨w3, e2, cap2, g2, s1, s2, s3, s4, s5, s6, s7, s8, s9, s10, s11, s12⟩ := gr
      obtain ⟨w', f1, f2, f3, f4⟩ := fin w3 e2 cap2 1 g2 s2 s3 s4 s5 s6 (by decide) s7 s8
      refine ⟨w', e2, ?_, f2, ⟨by rw [f3, s9]; omega, by rw [f3, s10], fun a ha hp => ?_⟩, Or.inr (by omega), by rw [f3, s9]; omega, fun q => by omega⟩
      · rw [ob_of (cRcv_in a1), cbd_of s1]
        exact f1
      · have hal : a ≠ l := fun q => hp (Or.inl q)
        rw [f4 a hal (by omega)]
        exact s12 a ha hal
    · rw [if_neg (fun q => hc ((nI_eq (by omega) (by omega)).mp q))]
      have ht2 : t = 2 ∧ 10 ≤ cap := by
        rcases h5 with q | q
        · exact q
        · omega
      obtain ⟨w', f1, f2, f3, f4⟩ := fin w2 e cap 0 g a1 (by rw [← ht2.1]; exact a2) (by omega) ht2.2 h4 (by decide) (q2 _ hx) h6
      refine ⟨w', e, f1, f2, ⟨by rw [f3, a3]; exact Nat.le_refl _, by rw [f3, a3], fun a ha hp => ?_⟩, Or.inl rfl, by rw [f3, a3]; exact he, fun _ => ht2.1⟩
      have hal : a ≠ l := fun q => hp (Or.inl q)
      rw [f4 a hal (fun q => hp (Or.inr ⟨q, ht2.1⟩))]
      exact a4 a hal
  obtain ⟨w', e', b1, b2⟩ := body
  refine ⟨w', e', ?_, b2⟩
  unfold fL_add2
  rw [ob_of (gI_in h1 rfl), ob_of e0, ob_of (gQ_in a1 rfl), ob_of (gI_in a1 rfl)]
  show (cRcv w2 (some l) 6).bind _ = _
  rw [ob_of (cRcv_in a1), cbd_of b1]
theorem cLs.keep {w w' : cW} {l e t n : Nat} {f : Nat → Nat} (h : cLs w l e t n f) (h1 : w'.1 l = w.1 l) (h2 : w'.1 e = w.1 e) (h3 : w'.2.2 = w.2.2) : cLs w' l e t n f := by
  obtain ⟨mc, cap, g, a1, a2, a3, a4, a5, a6⟩ := h
  exact ⟨mc, cap, g, h1.trans a1, h2.trans a2, a3, a4, by rw [h3]; exact a5, a6⟩
theorem cLs.cong {w : cW} {l e t n : Nat} {f f' : Nat → Nat} (h : cLs w l e t n f) (hf : ∀ i, i < n → f' i = f i) : cLs w l e t n f' := by
  obtain ⟨mc, cap, g, a1, a2, a3, a4, a5, a6⟩ := h
  exact ⟨mc, cap, g, a1, a2, a3, a4, a5, fun i hi => by rw [hf i hi]; exact a6 i hi⟩
theorem clear_loop {b e cap : Nat} (n : Nat) (hcap : cap ≤ 33) (hn : n ≤ cap) : ∀ (d i fu : Nat) (w : cW) (g : Nat → Option Nat), i + d = n → d < fu → w.1 e = some (rA 2 cap g) → ∃ w' g', fL_clear_l27 b fu (some e) (nI n) (nI i) w = some ((), w') ∧ w'.1 e = some (rA 2 cap g') ∧ w'.2 = w.2 ∧ ∀ a, a ≠ e → w'.1 a = w.1 a
  | 0, i, 0, w, g, h1, h2, h3 => by omega
  | 0, i, fu + 1, w, g, h1, h2, h3 => by
    refine ⟨w, g, ?_, h3, rfl, fun _ _ => rfl⟩
    show fL_clear_b27 b _ _ _ _ _ = _
    unfold fL_clear_b27
    rw [if_pos (nI_le (by omega) (by omega))]
  | d + 1, i, 0, w, g, h1, h2, h3 => by omega
  | d + 1, i, fu + 1, w, g, h1, h2, h3 => by
    have s1 := stQ_in (i := nI i) (x := none) h3 (by decide) (by decide) (by decide) rfl rfl (show i < cap by omega) (by omega)
    obtain ⟨w', g', q1, q2, q3, q4⟩ := clear_loop (b := b) n hcap hn d (i + 1) fu (va_up w.1 e (some (rA 2 cap (va_up g i none))), w.2) _ (by omega) (by omega) (va_up_self _ _ _)
    refine ⟨w', g', ?_, q2, q3, fun a ha => ?_⟩
    · show fL_clear_b27 b (fL_clear_l27 b fu) _ _ _ _ = _
      unfold fL_clear_b27
      rw [if_neg (nI_ge (by omega) (by omega)), ob_of s1, bnd_eq, nI_1]
      exact q1
    · rw [q4 a ha]
      exact va_up_ne _ _ ha
theorem cLs.clear {w : cW} {l e t n : Nat} {f : Nat → Nat} (h : cLs w l e t n f) : ∃ w', fL_clear l w = some ((), w') ∧ (∀ f', cLs w' l e t 0 f') ∧ w'.2 = w.2 ∧ ∀ a, a ≠ l → ¬ (a = e ∧ t = 2) → w'.1 a = w.1 a := by
  have hne := h.ne
  obtain ⟨mc, cap, g, h1, h2, h3, h4, h5, h6⟩ := h
  obtain ⟨w2, hw2⟩ : ∃ w2 : cW, w2 = (va_up w.1 l (some (oL e n (mc + 1))), w.2) := ⟨_, rfl⟩
  have a1 : w2.1 l = some (oL e n (mc + 1)) := by rw [hw2]; exact va_up_self _ _ _
  have e0 : pI w (some l) 6 2 (mc + 1) = some w2 := by rw [pI_in h1 (by show 2 < 3; decide), hw2]; rfl
  obtain ⟨w5, hw5⟩ : ∃ w5 : cW, w5 = (va_up w2.1 l (some (oL e 0 (mc + 1))), w2.2) := ⟨_, rfl⟩
  have e1 : pI w2 (some l) 6 1 0 = some w5 := by rw [pI_in a1 (by show 1 < 3; decide), hw5]; rfl
  have b1 : w5.1 l = some (oL e 0 (mc + 1)) := by rw [hw5]; exact va_up_self _ _ _
  have b2 : ∀ a, a ≠ l → w5.1 a = w.1 a := fun a ha => by
    rw [hw5]
    show va_up _ _ _ _ = _
    rw [va_up_ne _ _ ha, hw2]
    exact va_up_ne _ _ ha
  have b3 : w5.2 = w.2 := by rw [hw5, hw2]
  have e2 : fL_clear l w = fL_clear_l27 l FU (some e) (nI n) (nI 0) w5 := by
    unfold fL_clear
    rw [ob_of (gI_in h1 rfl), ob_of e0, ob_of (gQ_in a1 rfl), ob_of (gI_in a1 rfl), ob_of e1]
    rfl
  rcases h5 with ⟨rfl, hc⟩ | ⟨rfl, hc, hz⟩
  · obtain ⟨w', g', q1, q2, q3, q4⟩ := clear_loop (b := l) n h4 h3 n 0 FU w5 g (by omega) (by unfold FU; omega) ((b2 e hne).trans h2)
    refine ⟨w', e2.trans q1, fun f' => ⟨mc + 1, cap, g', (q4 l (Ne.symm hne)).trans b1, q2, Nat.zero_le _, h4, Or.inl ⟨rfl, hc⟩, fun i hi => absurd hi (Nat.not_lt_zero i)⟩, q3.trans b3, fun a ha hb => ?_⟩
    rw [q4 a (fun q => hb ⟨q, rfl⟩)]
    exact b2 a ha
  · have hn0 : n = 0 := by omega
    refine ⟨w5, ?_, fun f' => ⟨mc + 1, cap, g, b1, (b2 e hne).trans h2, Nat.zero_le _, h4, Or.inr ⟨rfl, hc, by rw [b3]; exact hz⟩, fun i hi => absurd hi (Nat.not_lt_zero i)⟩, b3, fun a ha _ => b2 a ha⟩
    obtain ⟨k, hk⟩ : ∃ k, FU = k + 1 := ⟨4999, rfl⟩
    rw [e2, hn0, hk]
    unfold fL_clear_l27
    rw [lp_s]
    unfold fL_clear_b27
    rw [if_pos (nI_le (by omega) (by omega))]
/-- a new list -/
theorem cLs.new {w : cW} {l : Nat} {g : Nat → Option Nat} (h1 : w.1 l = some (.inr (6, dfL))) (h2 : w.1 w.2.2.1 = some (rA 4 0 g)) (f : Nat → Nat) : ∃ w', fL_init l w = some ((), w') ∧ cLs w' l w.2.2.1 4 0 f ∧ w'.2 = w.2 ∧ ∀ a, a ≠ l → w'.1 a = w.1 a := by
  obtain ⟨w2, hw2⟩ : ∃ w2 : cW, w2 = (va_up w.1 l (some (.inr (6, dfL))), w.2) := ⟨_, rfl⟩
  have a1 : w2.1 l = some (.inr (6, dfL)) := by rw [hw2]; exact va_up_self _ _ _
  have a2 : fB_init l w = some ((), w2) := by
    unfold fB_init fC_init
    rw [cbd_some, ob_of (pI_in h1 (by decide)), hw2]
    rfl
  have hne : w.2.2.1 ≠ l := by
    intro q
    rw [q, h1] at h2
    cases h2
  refine ⟨(va_up w2.1 l (some (oL w.2.2.1 0 0)), w2.2), ?_, ⟨0, 0, g, va_up_self _ _ _, ?_, Nat.le_refl _, by omega, Or.inr ⟨rfl, rfl, ?_⟩, fun i hi => absurd hi (Nat.not_lt_zero i)⟩, by rw [hw2], fun a ha => ?_⟩
  · unfold fL_init
    rw [cbd_of a2, ob_of (pQ_in a1 (by decide)), hw2]
    rfl
  · show va_up _ _ _ _ = _
    rw [va_up_ne _ _ hne, hw2]
    show va_up _ _ _ _ = _
    rw [va_up_ne _ _ hne]
    exact h2
  · rw [hw2]
  · show va_up _ _ _ _ = _
    rw [va_up_ne _ _ ha, hw2]
    exact va_up_ne _ _ ha
theorem fL_clear_l27_s (b : Nat) (n : Nat) : fL_clear_l27 b (n + 1) = fL_clear_b27 b (fL_clear_l27 b n) := rfl
theorem fO_denseSum_l4_s (b : Nat) (n : Nat) : fO_denseSum_l4 b (n + 1) = fO_denseSum_b4 b (fO_denseSum_l4 b n) := rfl
theorem fO_greatestOfGroup_l5_s (b : Nat) (n : Nat) : fO_greatestOfGroup_l5 b (n + 1) = fO_greatestOfGroup_b5 b (fO_greatestOfGroup_l5 b n) := rfl
theorem fO_sumOfGroup_l4_s (b : Nat) (n : Nat) : fO_sumOfGroup_l4 b (n + 1) = fO_sumOfGroup_b4 b (fO_sumOfGroup_l4 b n) := rfl
theorem fO_makeResult_l2_s (b : Nat) (n : Nat) : fO_makeResult_l2 b (n + 1) = fO_makeResult_b2 b (fO_makeResult_l2 b n) := rfl
theorem fA_isFree_l2_s (b : Nat) (n : Nat) : fA_isFree_l2 b (n + 1) = fA_isFree_b2 b (fA_isFree_l2 b n) := rfl
theorem fA_leastPlace_l2_s (b : Nat) (n : Nat) : fA_leastPlace_l2 b (n + 1) = fA_leastPlace_b2 b (fA_leastPlace_l2 b n) := rfl
theorem fA_layOut_l22_s (b : Nat) (rec15 : (Option Nat) → Int32 → Nat → cW → Option (Unit × cW)) (n : Nat) : fA_layOut_l22 b rec15 (n + 1) = fA_layOut_b22 b rec15 (fA_layOut_l22 b rec15 n) := rfl
theorem fA_layOut_l15_s (b : Nat) (n : Nat) : fA_layOut_l15 b (n + 1) = fA_layOut_b15 b (fA_layOut_l15 b n) := rfl
theorem fA_sumOfLengths_l4_s (b : Nat) (n : Nat) : fA_sumOfLengths_l4 b (n + 1) = fA_sumOfLengths_b4 b (fA_sumOfLengths_l4 b n) := rfl
theorem fN_init_l58_s (b : Nat) (n : Nat) : fN_init_l58 b (n + 1) = fN_init_b58 b (fN_init_l58 b n) := rfl
theorem fN_isUnmadeBefore_l12_s (b : Nat) (n : Nat) : fN_isUnmadeBefore_l12 b (n + 1) = fN_isUnmadeBefore_b12 b (fN_isUnmadeBefore_l12 b n) := rfl
theorem fN_firstFault_l40_s (b : Nat) (n : Nat) : fN_firstFault_l40 b (n + 1) = fN_firstFault_b40 b (fN_firstFault_l40 b n) := rfl
theorem fN_firstFault_l2_s (b : Nat) (n : Nat) : fN_firstFault_l2 b (n + 1) = fN_firstFault_b2 b (fN_firstFault_l2 b n) := rfl
theorem fN_giveLives_l90_s (b : Nat) (n : Nat) : fN_giveLives_l90 b (n + 1) = fN_giveLives_b90 b (fN_giveLives_l90 b n) := rfl
theorem fN_giveLives_l35_s (b : Nat) (n : Nat) : fN_giveLives_l35 b (n + 1) = fN_giveLives_b35 b (fN_giveLives_l35 b n) := rfl
theorem fN_giveLives_l2_s (b : Nat) (n : Nat) : fN_giveLives_l2 b (n + 1) = fN_giveLives_b2 b (fN_giveLives_l2 b n) := rfl
theorem fN_start_l12_s (b : Nat) (n : Nat) : fN_start_l12 b (n + 1) = fN_start_b12 b (fN_start_l12 b n) := rfl
theorem fN_finish_l26_s (b : Nat) (n : Nat) : fN_finish_l26 b (n + 1) = fN_finish_b26 b (fN_finish_l26 b n) := rfl
theorem fM_init_l133_s (b : Nat) (n : Nat) : fM_init_l133 b (n + 1) = fM_init_b133 b (fM_init_l133 b n) := rfl
theorem fM_maker_l2_s (b : Nat) (n : Nat) : fM_maker_l2 b (n + 1) = fM_maker_b2 b (fM_maker_l2 b n) := rfl
theorem fM_end_l22_s (b : Nat) (n : Nat) : fM_end_l22 b (n + 1) = fM_end_b22 b (fM_end_l22 b n) := rfl
theorem fM_start_l12_s (b : Nat) (n : Nat) : fM_start_l12 b (n + 1) = fM_start_b12 b (fM_start_l12 b n) := rfl
theorem fM_window_l10_s (b : Nat) (n : Nat) : fM_window_l10 b (n + 1) = fM_window_b10 b (fM_window_l10 b n) := rfl
theorem fM_apart_l3_s (b : Nat) (n : Nat) : fM_apart_l3 b (n + 1) = fM_apart_b3 b (fM_apart_l3 b n) := rfl
theorem fM_arena_l4_s (b : Nat) (n : Nat) : fM_arena_l4 b (n + 1) = fM_arena_b4 b (fM_arena_l4 b n) := rfl
theorem fM_count_l68_s (b : Nat) (n : Nat) : fM_count_l68 b (n + 1) = fM_count_b68 b (fM_count_l68 b n) := rfl
theorem fM_placed_l27_s (b : Nat) (rec14 : Int32 → Int32 → cW → Option (Int32 × cW)) (n : Nat) : fM_placed_l27 b rec14 (n + 1) = fM_placed_b27 b rec14 (fM_placed_l27 b rec14 n) := rfl
theorem fM_placed_l14_s (b : Nat) (n : Nat) : fM_placed_l14 b (n + 1) = fM_placed_b14 b (fM_placed_l14 b n) := rfl
theorem fM_prepare_l135_s (b : Nat) (rec118 : Int32 → cW → Option (Int32 × cW)) (n : Nat) : fM_prepare_l135 b rec118 (n + 1) = fM_prepare_b135 b rec118 (fM_prepare_l135 b rec118 n) := rfl
theorem fM_prepare_l118_s (b : Nat) (n : Nat) : fM_prepare_l118 b (n + 1) = fM_prepare_b118 b (fM_prepare_l118 b n) := rfl
theorem fM_prepare_l93_s (b : Nat) (n : Nat) : fM_prepare_l93 b (n + 1) = fM_prepare_b93 b (fM_prepare_l93 b n) := rfl
theorem fM_prepare_l47_s (b : Nat) (n : Nat) : fM_prepare_l47 b (n + 1) = fM_prepare_b47 b (fM_prepare_l47 b n) := rfl
theorem fM_prepare_l12_s (b : Nat) (n : Nat) : fM_prepare_l12 b (n + 1) = fM_prepare_b12 b (fM_prepare_l12 b n) := rfl
theorem fM_made_l59_s (b : Nat) (n : Nat) : fM_made_l59 b (n + 1) = fM_made_b59 b (fM_made_l59 b n) := rfl
theorem fM_step_l33_s (b : Nat) (n : Nat) : fM_step_l33 b (n + 1) = fM_step_b33 b (fM_step_l33 b n) := rfl
theorem fM_finish_l12_s (b : Nat) (n : Nat) : fM_finish_l12 b (n + 1) = fM_finish_b12 b (fM_finish_l12 b n) := rfl
theorem fW_law_l18_s  (n : Nat) : fW_law_l18  (n + 1) = fW_law_b18  (fW_law_l18  n) := rfl
theorem gM_maker_l2_s  (n : Nat) : gM_maker_l2  (n + 1) = gM_maker_b2  (gM_maker_l2  n) := rfl
theorem gM_end_l22_s  (n : Nat) : gM_end_l22  (n + 1) = gM_end_b22  (gM_end_l22  n) := rfl
theorem gM_start_l12_s  (n : Nat) : gM_start_l12  (n + 1) = gM_start_b12  (gM_start_l12  n) := rfl
theorem gM_window_l10_s  (n : Nat) : gM_window_l10  (n + 1) = gM_window_b10  (gM_window_l10  n) := rfl
theorem gM_apart_l3_s  (n : Nat) : gM_apart_l3  (n + 1) = gM_apart_b3  (gM_apart_l3  n) := rfl
theorem gM_arena_l4_s  (n : Nat) : gM_arena_l4  (n + 1) = gM_arena_b4  (gM_arena_l4  n) := rfl
theorem gM_count_l68_s  (n : Nat) : gM_count_l68  (n + 1) = gM_count_b68  (gM_count_l68  n) := rfl
theorem gM_placed_l27_s (rec14 : Int32 → Int32 → sM → Option (Int32 × sM)) (n : Nat) : gM_placed_l27 rec14 (n + 1) = gM_placed_b27 rec14 (gM_placed_l27 rec14 n) := rfl
theorem gM_placed_l14_s  (n : Nat) : gM_placed_l14  (n + 1) = gM_placed_b14  (gM_placed_l14  n) := rfl
theorem gM_prepare_l135_s (rec118 : Int32 → sM → Option (Int32 × sM)) (n : Nat) : gM_prepare_l135 rec118 (n + 1) = gM_prepare_b135 rec118 (gM_prepare_l135 rec118 n) := rfl
theorem gM_prepare_l118_s  (n : Nat) : gM_prepare_l118  (n + 1) = gM_prepare_b118  (gM_prepare_l118  n) := rfl
theorem gM_prepare_l93_s  (n : Nat) : gM_prepare_l93  (n + 1) = gM_prepare_b93  (gM_prepare_l93  n) := rfl
theorem gM_prepare_l47_s  (n : Nat) : gM_prepare_l47  (n + 1) = gM_prepare_b47  (gM_prepare_l47  n) := rfl
theorem gM_prepare_l12_s  (n : Nat) : gM_prepare_l12  (n + 1) = gM_prepare_b12  (gM_prepare_l12  n) := rfl
theorem gM_made_l59_s  (n : Nat) : gM_made_l59  (n + 1) = gM_made_b59  (gM_made_l59  n) := rfl
theorem gM_step_l33_s  (n : Nat) : gM_step_l33  (n + 1) = gM_step_b33  (gM_step_l33  n) := rfl
theorem gM_finish_l12_s  (n : Nat) : gM_finish_l12  (n + 1) = gM_finish_b12  (gM_finish_l12  n) := rfl
