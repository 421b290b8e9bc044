/-! NEW OBJECTS, AND LISTS THAT GROW -/
def wS (w : cW) (a : Nat) (e : cE) : cW := (va_up w.1 a (some e), w.2)
theorem wS_s (w : cW) (a : Nat) (e : cE) : (wS w a e).1 a = some e := va_up_self _ _ _
theorem wS_n (w : cW) {a b : Nat} (e : cE) (h : b ≠ a) : (wS w a e).1 b = w.1 b := va_up_ne _ _ h
theorem wS_w (w : cW) (a : Nat) (e e' : cE) : wS (wS w a e) a e' = wS w a e' := by
  unfold wS
  rw [bx_uu]
theorem pI_S (w : cW) (a ci k : Nat) (fs : List Value) (x : Int32) (hk : k < fs.length) : pI (wS w a (.inr (ci, fs))) (some a) ci k x = some (wS w a (.inr (ci, fs.set k (.int x)))) := by
  rw [pI_in (wS_s w a _) hk]
  exact congrArg some (wS_w w a _ _)
theorem pZ_S (w : cW) (a ci k : Nat) (fs : List Value) (x : Int32) (hk : k < fs.length) (hx : x = 0 ∨ x = 1) : pZ (wS w a (.inr (ci, fs))) (some a) ci k x = some (wS w a (.inr (ci, fs.set k (.int x)))) := by
  rw [pZ_in (wS_s w a _) hk hx]
  exact congrArg some (wS_w w a _ _)
theorem pQ_S (w : cW) (a ci k : Nat) (fs : List Value) (x : Option Nat) (hk : k < fs.length) : pQ (wS w a (.inr (ci, fs))) (some a) ci k x = some (wS w a (.inr (ci, fs.set k (va_rf x)))) := by
  rw [pQ_in (wS_s w a _) hk]
  exact congrArg some (wS_w w a _ _)
theorem alC_S (w : cW) (e : cE) : alC w e = wS (w.1, w.2.1 + 1, w.2.2) w.2.1 e := rfl
theorem alI_in {w : cW} {l b : Nat} (hl : l ≤ b) (hb : b < 2 ^ 31) : alI w 0 (nI l) b = some (alC w (iA l (fun _ => 0))) := by
  unfold alI
  rw [if_pos ⟨nI_pos (by omega), by rw [nI_clamp (by omega)]; exact hl⟩, nI_clamp (by omega)]
theorem T_init {w : cW} {n l k : Nat} (num z : Int32) (hn : w.2.1 = n) (hl : l ≤ 64) (hk : k ≤ 2) : ∃ w', fT_init n num (nI k) (nI l) z (alC w (.inr (4, dfT))) = some ((), w') ∧ w'.1 n = some (.inr (4, [.int num, .int (nI k), .int (nI l), .int z, vq (n + 1), vq (if k = 1 then n + 2 else n + 1), .int 0, .int 0, .int 0, .int 0, .int 0])) ∧ w'.1 (n + 1) = some (iA l (fun _ => 0)) ∧ (k = 1 → w'.1 (n + 2) = some (iA l (fun _ => 0))) ∧ w'.2.1 = (if k = 1 then n + 3 else n + 2) ∧ w'.2.2 = w.2.2 ∧ ∀ a, a < n → w'.1 a = w.1 a := by
  subst hn
  obtain ⟨w0, hw0⟩ : ∃ w0 : cW, w0 = (w.1, w.2.1 + 1, w.2.2) := ⟨_, rfl⟩
  obtain ⟨e9, he9⟩ : ∃ e9 : List Value, e9 = [.int num, .int (nI k), .int (nI l), .int z, .null, .null, .int 0, .int 0, .int 0, .int 0, .int 0] := ⟨_, rfl⟩
  obtain ⟨w9, hw9⟩ : ∃ w9 : cW, w9 = wS w0 w.2.1 (.inr (4, e9)) := ⟨_, rfl⟩
  have n9 : w9.2.1 = w.2.1 + 1 := by rw [hw9, hw0]; rfl
  have s9 : ∀ {F : cW → Option (Unit × cW)}, ((pZ (alC w (.inr (4, dfT))) (some w.2.1) 4 6 (0 : Int32)).bind fun w1 => (pZ w1 (some w.2.1) 4 7 (0 : Int32)).bind fun w2 => (pI w2 (some w.2.1) 4 8 (0 : Int32)).bind fun w3 => (pI w3 (some w.2.1) 4 9 (0 : Int32)).bind fun w4 => (pI w4 (some w.2.1) 4 10 (0 : Int32)).bind fun w5 => (pI w5 (some w.2.1) 4 0 num).bind fun w6 => (pI w6 (some w.2.1) 4 1 (nI k)).bind fun w7 => (pI w7 (some w.2.1) 4 2 (nI l)).bind fun w8 => (pI w8 (some w.2.1) 4 3 z).bind F) = F w9 := by
    intro F
    rw [alC_S, ← hw0, ob_of (pZ_S _ _ _ _ _ _ (Nat.le_of_ble_eq_true rfl) (Or.inl rfl)), ob_of (pZ_S _ _ _ _ _ _ (Nat.le_of_ble_eq_true rfl) (Or.inl rfl)), ob_of (pI_S _ _ _ _ _ _ (Nat.le_of_ble_eq_true rfl)), ob_of (pI_S _ _ _ _ _ _ (Nat.le_of_ble_eq_true rfl)), ob_of (pI_S _ _ _ _ _ _ (Nat.le_of_ble_eq_true rfl)), ob_of (pI_S _ _ _ _ _ _ (Nat.le_of_ble_eq_true rfl)), ob_of (pI_S _ _ _ _ _ _ (Nat.le_of_ble_eq_true rfl)), ob_of (pI_S _ _ _ _ _ _ (Nat.le_of_ble_eq_true rfl)), ob_of (pI_S _ _ _ _ _ _ (Nat.le_of_ble_eq_true rfl)), hw9, he9]
    rfl
  obtain ⟨w10, hw10⟩ : ∃ w10 : cW, w10 = alC w9 (iA l (fun _ => 0)) := ⟨_, rfl⟩
  have s10 : alI w9 0 (nI l) 64 = some w10 := by rw [hw10]; exact alI_in hl (by decide)
  have c10 : w10.1 w.2.1 = some (.inr (4, e9)) := by
    rw [hw10]
    show va_up _ _ _ _ = _
    rw [va_up_ne _ _ (by omega), hw9]
    exact wS_s _ _ _
  have d10 : w10.1 (w.2.1 + 1) = some (iA l (fun _ => 0)) := by
    rw [hw10, ← n9]
    exact va_up_self _ _ _
  have k10 : ∀ a, a < w.2.1 → w10.1 a = w.1 a := by
    intro a ha
    rw [hw10]
    show va_up _ _ _ _ = _
    rw [va_up_ne _ _ (by omega), hw9, wS_n _ _ (by omega), hw0]
  have n10 : w10.2.1 = w.2.1 + 2 := by rw [hw10]; show w9.2.1 + 1 = _; rw [n9]
  have z10 : w10.2.2 = w.2.2 := by rw [hw10, hw9, hw0]; rfl
  obtain ⟨w11, hw11⟩ : ∃ w11 : cW, w11 = wS w10 w.2.1 (.inr (4, e9.set 4 (vq (w.2.1 + 1)))) := ⟨_, rfl⟩
  have hlen : e9.length = 11 := by rw [he9]; rfl
  have s11 : pQ w10 (some w.2.1) 4 4 (some (w.2.1 + 1)) = some w11 := by rw [pQ_in c10 (by omega), hw11]; rfl
  have c11 : w11.1 w.2.1 = some (.inr (4, e9.set 4 (vq (w.2.1 + 1)))) := by rw [hw11]; exact wS_s _ _ _
  have k11 : ∀ a, a ≠ w.2.1 → w11.1 a = w10.1 a := fun a ha => by rw [hw11]; exact wS_n _ _ ha
  have m11 : w11.2 = w10.2 := by rw [hw11]; rfl
  unfold fT_init
  rw [s9]
  show ∃ w', ((alI w9 0 (nI l) 64).bind fun w10 => (pQ w10 (some w.2.1) 4 4 (some w9.2.1)).bind fun w11 => _) = _ ∧ _
  rw [ob_of s10, n9, ob_of s11]
  by_cases ck : k = 1
  · rw [if_pos (show nI k = 1 by rw [ck]; rfl)]
    obtain ⟨w14, hw14⟩ : ∃ w14 : cW, w14 = alC w11 (iA l (fun _ => 0)) := ⟨_, rfl⟩
    have n11 : w11.2.1 = w.2.1 + 2 := by rw [m11, n10]
    have s14 : alI w11 0 (nI l) 64 = some w14 := by rw [hw14]; exact alI_in hl (by decide)
    have c14 : w14.1 w.2.1 = some (.inr (4, e9.set 4 (vq (w.2.1 + 1)))) := by
      rw [hw14]
      show va_up _ _ _ _ = _
      rw [va_up_ne _ _ (by omega)]
      exact c11
    have k14 : ∀ a, a ≠ w.2.1 + 2 → w14.1 a = w11.1 a := by
      intro a ha
      rw [hw14]
      show va_up _ _ _ _ = _
      rw [va_up_ne _ _ (by omega)]
    rw [ob_of s14, n11, ob_of (pQ_in c14 (by rw [List.length_set]; omega))]
    refine ⟨_, rfl, ?_, ?_, fun _ => ?_, ?_, ?_, fun a ha => ?_⟩
    · show va_up _ _ _ _ = _
      rw [va_up_self, he9, if_pos ck]
      rfl
    · show va_up _ _ _ _ = _
      rw [va_up_ne _ _ (by omega), k14 _ (by omega), k11 _ (by omega), d10]
    · show va_up _ _ _ _ = _
      rw [va_up_ne _ _ (by omega), hw14, ← n11]
      exact va_up_self _ _ _
    · rw [if_pos ck, hw14]
      show w11.2.1 + 1 = _
      rw [n11]
    · rw [hw14]
      show w11.2.2 = _
      rw [m11, z10]
    · show va_up _ _ _ _ = _
      rw [va_up_ne _ _ (by omega), k14 _ (by omega), k11 _ (by omega), k10 a ha]
  · rw [if_neg (show ¬ nI k = 1 from fun q => ck ((nI_eq (by omega) (by decide)).mp (q : nI k = nI 1))), ob_of (gQ_in c11 (by rw [he9]; rfl : _ = some (va_rf (some (w.2.1 + 1))))), ob_of (pQ_in c11 (by rw [List.length_set]; omega))]
    refine ⟨_, rfl, ?_, ?_, fun q => absurd q ck, ?_, ?_, fun a ha => ?_⟩
    · show va_up _ _ _ _ = _
      rw [va_up_self, he9, if_neg ck]
      rfl
    · show va_up _ _ _ _ = _
      rw [va_up_ne _ _ (by omega), k11 _ (by omega), d10]
    · rw [if_neg ck]
      show w11.2.1 = _
      rw [m11, n10]
    · show w11.2.2 = _
      rw [m11, z10]
    · show va_up _ _ _ _ = _
      rw [va_up_ne _ _ (by omega), k11 _ (by omega), k10 a ha]
theorem O_init {w : cW} {n : Nat} (k p : Int32) (a1 a2 a3 : Nat) (hn : w.2.1 = n) : ∃ w', fO_init n k a1 a2 a3 p (alC w (.inr (2, dfO))) = some ((), w') ∧ w'.1 n = some (.inr (2, [.int k, vq a1, vq a2, vq a3, .int p])) ∧ w'.2.1 = n + 1 ∧ w'.2.2 = w.2.2 ∧ ∀ a, a < n → w'.1 a = w.1 a := by
  subst hn
  unfold fO_init
  rw [alC_S, ob_of (pI_S _ _ _ _ _ _ (Nat.le_of_ble_eq_true rfl)), ob_of (pQ_S _ _ _ _ _ _ (Nat.le_of_ble_eq_true rfl)), ob_of (pQ_S _ _ _ _ _ _ (Nat.le_of_ble_eq_true rfl)), ob_of (pQ_S _ _ _ _ _ _ (Nat.le_of_ble_eq_true rfl)), ob_of (pI_S _ _ _ _ _ _ (Nat.le_of_ble_eq_true rfl))]
  refine ⟨_, rfl, ?_, rfl, rfl, fun a ha => ?_⟩
  · rw [wS_s]
    rfl
  · rw [wS_n _ _ (by omega)]
section ADDS
variable {w : cW} {S : sM} {X : Nat → Nat → Nat} {cd : Nat → Nat × Nat} {el : Nat → Nat} {tl : Nat → Nat} {Y : Nat → Nat → Int32} {V : Nat → Nat → Nat → Int32} {od : Nat → Nat} {nA : Nat} {mx : Int32}
/-- what a growing list leaves -/
theorem RC.frame (h : RC w S X cd el tl Y V od nA mx) {w' : cW} {j0 : Nat} (hj0 : j0 < 3) (hf : ∀ a, a < w.2.1 → a ≠ X 7 j0 → ¬ (a = el j0 ∧ tl j0 = 2) → w'.1 a = w.1 a) : (∀ s i, live S s i → (s ≠ 7 ∨ i ≠ j0) → w'.1 (X s i) = w.1 (X s i)) ∧ ∀ j, j < 3 → j ≠ j0 → w'.1 (el j) = w.1 (el j) := by
  refine ⟨fun s i h1 hn => hf _ (h.cds s i h1).2 (h.ne h1 (lv7 hj0) (pr_ne hn)) (fun q => h.neE h1 hj0 q.1.symm), fun j hj hn => hf _ (h.cde j hj).2 (h.neE (lv7 hj0) hj) (fun q => ?_)⟩
  have a := (h.cde j hj).1
  have b := (h.cde j0 hj0).1
  rw [if_pos q.2, ← q.1, a] at b
  by_cases c : tl j = 2
  · rw [if_pos c] at b
    cases b
    exact hn rfl
  · rw [if_neg c] at b
    cases b
theorem RC.el4 (h : RC w S X cd el tl Y V od nA mx) : ∀ i, i < N S 6 0 → qOk w 2 (some (X 4 i)) = true ∧ X 4 i < w.2.1 := by
  intro i hi
  refine ⟨?_, (h.cds 4 i (lv4 hi)).2⟩
  unfold qOk
  dsimp only
  rw [h.ten i hi]
  rfl
theorem RC.el2 (h : RC w S X cd el tl Y V od nA mx) : ∀ i, i < N S 14 0 → qOk w 2 (some (X 2 i)) = true ∧ X 2 i < w.2.1 := by
  intro i hi
  refine ⟨?_, (h.cds 2 i (lv2 hi)).2⟩
  unfold qOk
  dsimp only
  rw [h.opr i hi]
  rfl
/-- one more tensor in the arena's order -/
theorem RC.addA (h : RC w S X cd el tl Y V od nA mx) (hS : OKS S) {t : Nat} (ht : t < N S 6 0) (hA : nA ≤ 20) : ∃ w' el' tl' cd', fL_add2 (X 7 2) (X 4 t) w = some (1, w') ∧ RC w' S X cd' el' tl' Y V (va_up od nA t) (nA + 1) mx ∧ w.2.1 ≤ w'.2.1 := by
  have h20 := hS.t20
  obtain ⟨w', e', f1, f2, ⟨f3, f4, f5⟩, f6, f7, f8⟩ := h.ls2.add (x := X 4 t) (by omega) (h.cds 7 2 (lv7 (by omega))).2 (h.cde 2 (by omega)).2 (h.el4 t ht).1 (h.el4 t ht).2 (fun i hi => h.el4 _ (h.odl i hi))
  obtain ⟨p1, p2⟩ := h.frame (w' := w') (j0 := 2) (by omega) (fun a ha h1 h2 => f5 a ha (fun q => q.elim h1 h2))
  refine ⟨w', va_up el 2 e', va_up tl 2 2, va_up cd e' (8, 2), f1, ⟨(p1 0 0 lv0 (by omega)).trans h.net, (p1 1 0 lv1 (by omega)).trans h.arn, fun t ht => (p1 4 t (lv4 ht) (by omega)).trans (h.ten t ht), fun o ho => (p1 2 o (lv2 ho) (by omega)).trans (h.opr o ho), fun i hi => (p1 3 i (lv3 hi) (by omega)).trans (h.scl i hi), ?_, fun t ht => (p1 5 t (lv5 ht) (by omega)).trans (h.giv t ht), fun t ht hk => (p1 6 t (lv6 ht hk) (by omega)).trans (h.cel t ht hk), ?_, ?_, ?_, fun s i hl => ?_, fun j hj => ?_, fun k hk => ?_⟩, f3⟩
  · obtain ⟨g, g1, g2⟩ := h.sca
    exact ⟨g, (p1 9 0 lv9 (by omega)).trans g1, g2⟩
  · rw [va_up_ne _ _ (by omega), va_up_ne _ _ (by omega)]
    exact h.ls0.keep (p1 7 0 (lv7 (by omega)) (by omega)) (p2 0 (by omega) (by omega)) f4
  · rw [va_up_ne _ _ (by omega), va_up_ne _ _ (by omega)]
    exact h.ls1.keep (p1 7 1 (lv7 (by omega)) (by omega)) (p2 1 (by omega) (by omega)) f4
  · rw [va_up_self, va_up_self]
    refine f2.cong (fun i hi => ?_)
    by_cases c : i = nA
    · rw [c, va_up_self, va_up_self]
    · rw [va_up_ne _ _ c, va_up_ne _ _ c]
  · have hX := h.cds s i hl
    have hne : X s i ≠ e' := by
      intro q
      rcases f6 with c | c
      · exact h.neE hl (j := 2) (by omega) (c.symm.trans q.symm)
      · omega
    exact ⟨by rw [va_up_ne _ _ hne]; exact hX.1, Nat.lt_of_lt_of_le hX.2 f3⟩
  · by_cases c : j = 2
    · rw [c, va_up_self, va_up_self, va_up_self, if_pos rfl]
      exact ⟨rfl, f7⟩
    · have hE := h.cde j hj
      rw [va_up_ne _ _ c, va_up_ne _ _ c]
      refine ⟨?_, Nat.lt_of_lt_of_le hE.2 f3⟩
      rw [va_up_ne]
      · exact hE.1
      · intro q
        rcases f6 with z | z
        · have a := hE.1
          have b := (h.cde 2 (by omega)).1
          rw [if_pos (f8 z), ← z, ← q, a] at b
          by_cases c2 : tl j = 2
          · rw [if_pos c2] at b
            cases b
            exact c rfl
          · rw [if_neg c2] at b
            cases b
        · omega
  · by_cases c : k = nA
    · rw [c, va_up_self]; exact ht
    · rw [va_up_ne _ _ c]
      exact h.odl k (by omega)
theorem RC.clearA (h : RC w S X cd el tl Y V od nA mx) : ∃ w', fL_clear (X 7 2) w = some ((), w') ∧ (∀ od', RC w' S X cd el tl Y V od' 0 mx) := by
  obtain ⟨w', f1, f2, f3, f4⟩ := h.ls2.clear
  obtain ⟨p1, p2⟩ := h.frame (w' := w') (j0 := 2) (by omega) (fun a ha h1 h2 => f4 a h1 h2)
  have e2 : w'.2.2 = w.2.2 := by rw [f3]
  refine ⟨w', f1, fun od' => ⟨(p1 0 0 lv0 (by omega)).trans h.net, (p1 1 0 lv1 (by omega)).trans h.arn, fun t ht => (p1 4 t (lv4 ht) (by omega)).trans (h.ten t ht), fun o ho => (p1 2 o (lv2 ho) (by omega)).trans (h.opr o ho), fun i hi => (p1 3 i (lv3 hi) (by omega)).trans (h.scl i hi), ?_, fun t ht => (p1 5 t (lv5 ht) (by omega)).trans (h.giv t ht), fun t ht hk => (p1 6 t (lv6 ht hk) (by omega)).trans (h.cel t ht hk), h.ls0.keep (p1 7 0 (lv7 (by omega)) (by omega)) (p2 0 (by omega) (by omega)) e2, h.ls1.keep (p1 7 1 (lv7 (by omega)) (by omega)) (p2 1 (by omega) (by omega)) e2, f2 _, fun s i hl => by rw [f3]; exact h.cds s i hl, fun j hj => by rw [f3]; exact h.cde j hj, fun k hk => absurd hk (Nat.not_lt_zero k)⟩⟩
  obtain ⟨g, g1, g2⟩ := h.sca
  exact ⟨g, (p1 9 0 lv9 (by omega)).trans g1, g2⟩
end ADDS
