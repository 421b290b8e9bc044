/-! THE LAW: class and reference answer alike, call by call, to the script's end -/
theorem rst_in {S : Nat → Bool} {w : cW} {a : Nat} {e : cE} (h : (rst S w).1 a = some e) : S a = true ∧ w.1 a = some e := by
  have h : (if S a = true then w.1 a else none) = some e := h
  by_cases c : S a = true
  · rw [if_pos c] at h
    exact ⟨c, h⟩
  · rw [if_neg c] at h
    cases h
theorem rst_y {S : Nat → Bool} {w : cW} {a : Nat} (h : S a = true) : (rst S w).1 a = w.1 a := by
  show (if S a = true then w.1 a else none) = _
  rw [if_pos h]
theorem mrg_y {S : Nat → Bool} {w w1 : cW} {a : Nat} (h : S a = true) : (mrg S w w1).1 a = w1.1 a := by
  show (if S a = true ∨ w.2.1 ≤ a then w1.1 a else w.1 a) = _
  rw [if_pos (Or.inl h)]
theorem mrg_n {S : Nat → Bool} {w w1 : cW} {a : Nat} (h : ¬ S a = true) (hl : a < w.2.1) : (mrg S w w1).1 a = w.1 a := by
  show (if S a = true ∨ w.2.1 ≤ a then w1.1 a else w.1 a) = _
  rw [if_neg]
  rintro (q | q)
  · exact h q
  · omega
theorem gIn_y {g1 g2 a : Nat} : gIn g1 g2 a = true ↔ g1 ≤ a ∧ a < g2 := by
  unfold gIn
  simp
theorem gEx_y {g1 g2 a : Nat} : gEx g1 g2 a = true ↔ ¬ (g1 ≤ a ∧ a < g2) := by
  unfold gEx
  rw [← gIn_y]
  cases gIn g1 g2 a <;> simp
/-- what holds of the class needs no cell behind the heap's end -/
theorem INV.congW {w w' : cW} {b : Nat} {S : sM} (h : INV w b S) (h1 : ∀ a, a < w.2.1 → w'.1 a = w.1 a) (h2 : w.2.1 ≤ w'.2.1) (e2 : w'.2.2 = w.2.2) : INV w' b S := by
  obtain ⟨X, cd, el, tl, Y, V, od, nA, mx, q0, h, q2, q3, q4, q5⟩ := h
  have p1 : ∀ s i, live S s i → w'.1 (X s i) = w.1 (X s i) := fun s i hl => h1 _ (h.cds s i hl).2
  have p2 : ∀ j, j < 3 → w'.1 (el j) = w.1 (el j) := fun j hj => h1 _ (h.cde j hj).2
  refine ⟨X, cd, el, tl, Y, V, od, nA, mx, q0, ⟨(p1 0 0 lv0).trans h.net, (p1 1 0 lv1).trans h.arn, fun t ht => (p1 4 t (lv4 ht)).trans (h.ten t ht), fun o ho => (p1 2 o (lv2 ho)).trans (h.opr o ho), fun i hi => (p1 3 i (lv3 hi)).trans (h.scl i hi), ?_, fun t ht => (p1 5 t (lv5 ht)).trans (h.giv t ht), fun t ht hk => (p1 6 t (lv6 ht hk)).trans (h.cel t ht hk), h.ls0.keep (p1 7 0 (lv7 (by omega))) (p2 0 (by omega)) e2, h.ls1.keep (p1 7 1 (lv7 (by omega))) (p2 1 (by omega)) e2, h.ls2.keep (p1 7 2 (lv7 (by omega))) (p2 2 (by omega)) e2, fun s i hl => ⟨(h.cds s i hl).1, Nat.lt_of_lt_of_le (h.cds s i hl).2 h2⟩, fun j hj => ⟨(h.cde j hj).1, Nat.lt_of_lt_of_le (h.cde j hj).2 h2⟩, h.odl⟩, q2, q3, q4, q5⟩
  obtain ⟨g, g1, g2⟩ := h.sca
  exact ⟨g, (p1 9 0 lv9).trans g1, g2⟩
def LI (w : cW) (b n m g2 L : Nat) (xs : Nat → Int32) (A : Nat → Nat) (S : sM) : Prop := w.1 b = some (.inl (5, L, .inl xs)) ∧ b < m ∧ m < g2 ∧ g2 ≤ w.2.1 ∧ INV (rst (gEx m g2) w) n S ∧ RM (rst (gIn m g2) w) m A S
section LAW
variable {w : cW} {b n m g2 L : Nat} {xs : Nat → Int32} {A : Nat → Nat} {S : sM}
theorem LI.rcv (h : LI w b n m g2 L xs A S) : cRcv w (some n) 0 = some n := by
  obtain ⟨-, -, -, -, ⟨X, cd, el, tl, Y, V, od, nA, mx, q0, q1, -⟩, -⟩ := h
  have := q1.net
  rw [q0] at this
  exact cRcv_in (rst_in this).2
theorem LI.call {fN fM : cW → Option (Int32 × cW)} {g : sM → Option (Int32 × sM)} (h : LI w b n m g2 L xs A S) (hA : Agr n fN g) (hD : Dm fN) (hL : Lf m A fM g) : ∃ r w9 S' w16, cFr (gEx m g2) fN w = some (r, w9) ∧ w9.1 b = some (.inl (5, L, .inl xs)) ∧ cRcv w9 (some m) 5 = some m ∧ cFr (gIn m g2) fM w9 = some (r, w16) ∧ LI w16 b n m g2 L xs A S' := by
  obtain ⟨h1, h2, h3, h4, h5, h6⟩ := h
  obtain ⟨r, S', w1, a1, a2, a3⟩ := hA _ _ h5
  obtain ⟨d1, d2, d3, d4⟩ := hD _ _ _ a2
  have d1 : w.2.1 ≤ w1.2.1 := d1
  obtain ⟨w9, hw9⟩ : ∃ w9 : cW, w9 = mrg (gEx m g2) w w1 := ⟨_, rfl⟩
  have e9 : w9.2 = w1.2 := by rw [hw9]; rfl
  have b9 : w9.1 b = some (.inl (5, L, .inl xs)) := by
    rw [hw9, mrg_y (gEx_y.mpr (by omega))]
    exact d4 b _ (by show b < w.2.1; omega) ((rst_y (gEx_y.mpr (by omega))).trans h1)
  have hin : ∀ a, gIn m g2 a = true → (rst (gIn m g2) w9).1 a = (rst (gIn m g2) w).1 a := by
    intro a ha
    have ha' := gIn_y.mp ha
    rw [rst_y ha, rst_y ha, hw9, mrg_n (fun q => gEx_y.mp q ha') (by omega)]
  have h6i : ∀ a e, (rst (gIn m g2) w).1 a = some e → (rst (gIn m g2) w9).1 a = some e := fun a e q => (hin a (rst_in q).1).trans q
  have h9 : RM (rst (gIn m g2) w9) m A S := ⟨h6i _ _ h6.1, fun j hj => h6i _ _ (h6.2.1 j hj), h6.2.2⟩
  obtain ⟨w2, c1, c2, c3⟩ := hL _ _ _ _ h9 a1
  have c3 : w2.2 = w9.2 := c3
  refine ⟨r, w9, S', mrg (gIn m g2) w9 w2, by rw [hw9]; exact cFr_in a2, b9, cRcv_in (rst_in h9.1).2, cFr_in c1, ?_, h2, h3, ?_, ?_, ?_⟩
  · rw [mrg_n (fun q => by have := gIn_y.mp q; omega) (by rw [e9]; omega)]
    exact b9
  · show g2 ≤ w2.2.1
    rw [c3, e9]
    omega
  · refine a3.congW (fun a ha => ?_) (by show w1.2.1 ≤ w2.2.1; rw [c3, e9]; exact Nat.le_refl _) ?_
    · by_cases q : gEx m g2 a = true
      · have q' := gEx_y.mp q
        rw [rst_y q, mrg_n (fun z => q' (gIn_y.mp z)) (by rw [e9]; exact ha), hw9, mrg_y q]
      · have e1 : (rst (gEx m g2) (mrg (gIn m g2) w9 w2)).1 a = none := by
          show (if gEx m g2 a = true then _ else none) = none
          rw [if_neg q]
        rw [e1]
        by_cases z : w1.1 a = none
        · exact z.symm
        · have q' : m ≤ a ∧ a < g2 := by
            by_cases y : m ≤ a ∧ a < g2
            · exact y
            · exact absurd (gEx_y.mpr y) q
          rcases d3 a z with y | y
          · exact absurd (show (if gEx m g2 a = true then w.1 a else none) = none by rw [if_neg q]) y
          · have y : w.2.1 ≤ a ∧ _ := y
            omega
    · show w2.2.2 = w1.2.2
      rw [c3, e9]
  · have hi : ∀ a e, gIn m g2 a = true → w2.1 a = some e → (rst (gIn m g2) (mrg (gIn m g2) w9 w2)).1 a = some e := by
      intro a e q z
      rw [rst_y q, mrg_y q]
      exact z
    exact ⟨hi _ _ (rst_in h9.1).1 c2.1, fun j hj => hi _ _ (rst_in (h9.2.1 j hj)).1 (c2.2.1 j hj), c2.2.2⟩
end LAW
theorem ld_s {w : cW} {b L i j : Nat} {xs : Nat → Int32} {x y : Int32} (h : w.1 b = some (.inl (5, L, .inl xs))) (hL : L ≤ 3072) (hx : x = nI i) (hy : y = nI j) (hi : i + j < L) : ldI w (some b) .int (x + y) = some (xs (i + j)) := by
  subst hx
  subst hy
  exact ldI_in h (by decide) rfl (nI_add i j) hi (by omega)
set_option maxHeartbeats 4000000 in
set_option maxRecDepth 100000 in
theorem law_loop {b n m g2 L : Nat} {xs : Nat → Int32} {A : Nat → Nat} (hL : L ≤ 3072) : ∀ d k fu c (w : cW) (S : sM), L < 6 * (k + d) + 6 → 6 * k ≤ L ∨ k = 0 → d < fu → c ≤ 222 + 20 * k → LI w b n m g2 L xs A S → ∃ w', fW_law_l18 fu (some b) (some n) (some m) (nI (6 * k)) m g2 c w = some (1, w') := by
  intro d
  have hend : ∀ {k : Nat}, L < 6 * k + 6 → 6 * k ≤ L ∨ k = 0 → nI L - 6 < nI (6 * k) := by
    intro k h1 h2
    by_cases c : L < 6
    · have e : k = 0 := by omega
      subst e
      rcases (show L = 0 ∨ L = 1 ∨ L = 2 ∨ L = 3 ∨ L = 4 ∨ L = 5 by omega) with rfl | rfl | rfl | rfl | rfl | rfl <;> decide
    · have e : nI L - 6 = nI (L - 6) := by
        have : nI L = nI (L - 6) + nI 6 := by rw [nI_add, Nat.sub_add_cancel (by omega)]
        rw [this]
        exact Int32.add_sub_cancel _ _
      rw [e]
      exact nI_lt (by omega) (by omega)
  induction d with
  | zero =>
    intro k fu c w S h1 h2 h3 h4 h
    obtain ⟨fu, rfl⟩ : ∃ k, fu = k + 1 := ⟨fu - 1, by omega⟩
    refine ⟨w, ?_⟩
    rw [fW_law_l18_s]
    unfold fW_law_b18
    rw [ob_of (aLen_in h.1 (by decide)), if_pos (hend (by omega) h2), if_pos (by omega)]
  | succ d ih =>
    intro k fu c w S h1 h2 h3 h4 h
    obtain ⟨fu, rfl⟩ : ∃ k, fu = k + 1 := ⟨fu - 1, by omega⟩
    by_cases hk : L < 6 * k + 6
    · refine ⟨w, ?_⟩
      rw [fW_law_l18_s]
      unfold fW_law_b18
      rw [ob_of (aLen_in h.1 (by decide)), if_pos (hend hk h2), if_pos (by omega)]
    · have hgo : ¬ nI L - 6 < nI (6 * k) := by
        have e : nI L - 6 = nI (L - 6) := by
          have : nI L = nI (L - 6) + nI 6 := by rw [nI_add, Nat.sub_add_cancel (by omega)]
          rw [this]
          exact Int32.add_sub_cancel _ _
        rw [e]
        exact nI_nlt (by omega) (by omega)
      have hc : c ≤ 10442 := by omega
      have n6 : nI (6 * k) + (6 : Int32) = nI (6 * (k + 1)) := nI_add (6 * k) 6
      have l0 : ldI w (some b) .int (nI (6 * k)) = some (xs (6 * k)) := ldI_in h.1 (by decide) rfl rfl (by omega) (by omega)
      have l1 : ∀ {v : cW}, v.1 b = some (.inl (5, L, .inl xs)) → ldI v (some b) .int (nI (6 * k) + (1 : Int32)) = some (xs (6 * k + 1)) := fun q => ld_s q hL rfl (show (1 : Int32) = nI 1 from rfl) (by omega)
      have l2 : ∀ {v : cW}, v.1 b = some (.inl (5, L, .inl xs)) → ldI v (some b) .int (nI (6 * k) + (2 : Int32)) = some (xs (6 * k + 2)) := fun q => ld_s q hL rfl (show (2 : Int32) = nI 2 from rfl) (by omega)
      have l3 : ∀ {v : cW}, v.1 b = some (.inl (5, L, .inl xs)) → ldI v (some b) .int (nI (6 * k) + (3 : Int32)) = some (xs (6 * k + 3)) := fun q => ld_s q hL rfl (show (3 : Int32) = nI 3 from rfl) (by omega)
      have l4 : ∀ {v : cW}, v.1 b = some (.inl (5, L, .inl xs)) → ldI v (some b) .int (nI (6 * k) + (4 : Int32)) = some (xs (6 * k + 4)) := fun q => ld_s q hL rfl (show (4 : Int32) = nI 4 from rfl) (by omega)
      have l5 : ∀ {v : cW}, v.1 b = some (.inl (5, L, .inl xs)) → ldI v (some b) .int (nI (6 * k) + (5 : Int32)) = some (xs (6 * k + 5)) := fun q => ld_s q hL rfl (show (5 : Int32) = nI 5 from rfl) (by omega)
      have hi : ∀ c' w' S', c' ≤ c + 20 → LI w' b n m g2 L xs A S' → ∃ w'', fW_law_l18 fu (some b) (some n) (some m) (nI (6 * (k + 1))) m g2 c' w' = some (1, w'') := fun c' w' S' q1 q2 => ih (k + 1) fu c' w' S' (by omega) (by omega) (by omega) (by omega) q2
      clear ih
      rw [fW_law_l18_s]
      generalize fW_law_l18 fu = rc at hi ⊢
      unfold fW_law_b18
      rw [ob_of (aLen_in h.1 (by decide)), if_neg hgo, ob_of l0]
      rw [bnd_eq]
      generalize xs (6 * k) &&& (15 : Int32) = x4
      by_cases c0 : x4 = (0 : Int32)
      · obtain ⟨r, w9, S', w16, e1, b9, m9, e2, h'⟩ := h.call (a_tensor n (xs (6 * k + 1)) (xs (6 * k + 2)) (xs (6 * k + 3))) (nN_tensor n (xs (6 * k + 1)) (xs (6 * k + 2)) (xs (6 * k + 3))) (lM_tensor (xs (6 * k + 1)) (xs (6 * k + 2)) (xs (6 * k + 3)))
        obtain ⟨w', hw'⟩ := hi (c + 6) w16 S' (by omega) h'
        refine ⟨w', ?_⟩
        rw [if_pos c0, ob_of (l1 h.1), ob_of (l2 h.1), ob_of (l3 h.1), if_pos (show c < 11995 by omega), ob_of h.rcv, cbd_of e1, ob_of (l1 b9), ob_of (l2 b9), ob_of (l3 b9), if_pos (show c + 6 < 12001 by omega), ob_of m9, cbd_of e2, if_pos rfl, bnd_eq, n6]
        exact hw'
      rw [if_neg c0]
      by_cases c1 : x4 = (1 : Int32)
      · obtain ⟨r, w9, S', w16, e1, b9, m9, e2, h'⟩ := h.call (a_set n (xs (6 * k + 1)) (xs (6 * k + 2)) (xs (6 * k + 3))) (nN_set n (xs (6 * k + 1)) (xs (6 * k + 2)) (xs (6 * k + 3))) (lM_set (xs (6 * k + 1)) (xs (6 * k + 2)) (xs (6 * k + 3)))
        obtain ⟨w', hw'⟩ := hi c w16 S' (by omega) h'
        refine ⟨w', ?_⟩
        rw [if_pos c1, ob_of (l1 h.1), ob_of (l2 h.1), ob_of (l3 h.1), if_pos (show c < 12001 by omega), ob_of h.rcv, cbd_of e1, ob_of (l1 b9), ob_of (l2 b9), ob_of (l3 b9), if_pos (show c < 12001 by omega), ob_of m9, cbd_of e2, if_pos rfl, bnd_eq, n6]
        exact hw'
      rw [if_neg c1]
      by_cases c2 : x4 = (2 : Int32)
      · obtain ⟨r, w9, S', w16, e1, b9, m9, e2, h'⟩ := h.call (a_scale n (xs (6 * k + 1)) (xs (6 * k + 2)) (xs (6 * k + 3))) (nN_scale n (xs (6 * k + 1)) (xs (6 * k + 2)) (xs (6 * k + 3))) (lM_scale (xs (6 * k + 1)) (xs (6 * k + 2)) (xs (6 * k + 3)))
        obtain ⟨w', hw'⟩ := hi c w16 S' (by omega) h'
        refine ⟨w', ?_⟩
        rw [if_pos c2, ob_of (l1 h.1), ob_of (l2 h.1), ob_of (l3 h.1), if_pos (show c < 12001 by omega), ob_of h.rcv, cbd_of e1, ob_of (l1 b9), ob_of (l2 b9), ob_of (l3 b9), if_pos (show c < 12001 by omega), ob_of m9, cbd_of e2, if_pos rfl, bnd_eq, n6]
        exact hw'
      rw [if_neg c2]
      by_cases c3 : x4 = (3 : Int32)
      · obtain ⟨r, w9, S', w16, e1, b9, m9, e2, h'⟩ := h.call (a_operator n (xs (6 * k + 1)) (xs (6 * k + 2)) (xs (6 * k + 3)) (xs (6 * k + 4)) (xs (6 * k + 5))) (nN_operator n (xs (6 * k + 1)) (xs (6 * k + 2)) (xs (6 * k + 3)) (xs (6 * k + 4)) (xs (6 * k + 5))) (lM_operator (xs (6 * k + 1)) (xs (6 * k + 2)) (xs (6 * k + 3)) (xs (6 * k + 4)) (xs (6 * k + 5)))
        obtain ⟨w', hw'⟩ := hi (c + 2) w16 S' (by omega) h'
        refine ⟨w', ?_⟩
        rw [if_pos c3, ob_of (l1 h.1), ob_of (l2 h.1), ob_of (l3 h.1), ob_of (l4 h.1), ob_of (l5 h.1), if_pos (show c < 11999 by omega), ob_of h.rcv, cbd_of e1, ob_of (l1 b9), ob_of (l2 b9), ob_of (l3 b9), ob_of (l4 b9), ob_of (l5 b9), if_pos (show c + 2 < 12001 by omega), ob_of m9, cbd_of e2, if_pos rfl, bnd_eq, n6]
        exact hw'
      rw [if_neg c3]
      by_cases c4 : x4 = (4 : Int32)
      · rw [if_pos c4, ob_of (l1 h.1), ob_of (l2 h.1)]
        by_cases z : xs (6 * k + 2) = 0
        · obtain ⟨r, w9, S', w16, e1, b9, m9, e2, h'⟩ := h.call (a_keep n (xs (6 * k + 1)) 0 (Or.inl rfl)) (nN_keep n (xs (6 * k + 1)) 0) (lM_keep (xs (6 * k + 1)) 0)
          obtain ⟨w', hw'⟩ := hi c w16 S' (by omega) h'
          refine ⟨w', ?_⟩
          rw [if_pos z]
          unfold fW_law_b323
          rw [if_pos (show c < 12001 by omega), ob_of h.rcv, cbd_of e1, ob_of (l1 b9), ob_of (l2 b9), if_pos z]
          unfold fW_law_b345
          rw [if_pos (show c < 12001 by omega), ob_of m9, cbd_of e2, if_pos rfl, bnd_eq, n6]
          exact hw'
        · obtain ⟨r, w9, S', w16, e1, b9, m9, e2, h'⟩ := h.call (a_keep n (xs (6 * k + 1)) 1 (Or.inr rfl)) (nN_keep n (xs (6 * k + 1)) 1) (lM_keep (xs (6 * k + 1)) 1)
          obtain ⟨w', hw'⟩ := hi c w16 S' (by omega) h'
          refine ⟨w', ?_⟩
          rw [if_neg z]
          unfold fW_law_b323
          rw [if_pos (show c < 12001 by omega), ob_of h.rcv, cbd_of e1, ob_of (l1 b9), ob_of (l2 b9), if_neg z]
          unfold fW_law_b345
          rw [if_pos (show c < 12001 by omega), ob_of m9, cbd_of e2, if_pos rfl, bnd_eq, n6]
          exact hw'
      rw [if_neg c4]
      by_cases c5 : x4 = (5 : Int32)
      · obtain ⟨r, w9, S', w16, e1, b9, m9, e2, h'⟩ := h.call (a_prepare n ) (nN_prepare n ) (lM_prepare )
        obtain ⟨w', hw'⟩ := hi (c + 20) w16 S' (by omega) h'
        refine ⟨w', ?_⟩
        rw [if_pos c5, if_pos (show c < 11981 by omega), ob_of h.rcv, cbd_of e1, if_pos (show c + 20 < 12001 by omega), ob_of m9, cbd_of e2, if_pos rfl, bnd_eq, n6]
        exact hw'
      rw [if_neg c5]
      by_cases c6 : x4 = (6 : Int32)
      · obtain ⟨r, w9, S', w16, e1, b9, m9, e2, h'⟩ := h.call (a_reopen n ) (nN_reopen n ) (lM_reopen )
        obtain ⟨w', hw'⟩ := hi c w16 S' (by omega) h'
        refine ⟨w', ?_⟩
        rw [if_pos c6, if_pos (show c < 12001 by omega), ob_of h.rcv, cbd_of e1, if_pos (show c < 12001 by omega), ob_of m9, cbd_of e2, if_pos rfl, bnd_eq, n6]
        exact hw'
      rw [if_neg c6]
      by_cases c7 : x4 = (7 : Int32)
      · obtain ⟨r, w9, S', w16, e1, b9, m9, e2, h'⟩ := h.call (a_start n ) (nN_start n ) (lM_start )
        obtain ⟨w', hw'⟩ := hi c w16 S' (by omega) h'
        refine ⟨w', ?_⟩
        rw [if_pos c7, if_pos (show c < 12001 by omega), ob_of h.rcv, cbd_of e1, if_pos (show c < 12001 by omega), ob_of m9, cbd_of e2, if_pos rfl, bnd_eq, n6]
        exact hw'
      rw [if_neg c7]
      by_cases c8 : x4 = (8 : Int32)
      · obtain ⟨r, w9, S', w16, e1, b9, m9, e2, h'⟩ := h.call (a_step n ) (nN_step n ) (lM_step )
        obtain ⟨w', hw'⟩ := hi c w16 S' (by omega) h'
        refine ⟨w', ?_⟩
        rw [if_pos c8, if_pos (show c < 12001 by omega), ob_of h.rcv, cbd_of e1, if_pos (show c < 12001 by omega), ob_of m9, cbd_of e2, if_pos rfl, bnd_eq, n6]
        exact hw'
      rw [if_neg c8]
      by_cases c9 : x4 = (9 : Int32)
      · obtain ⟨r, w9, S', w16, e1, b9, m9, e2, h'⟩ := h.call (a_finish n ) (nN_finish n ) (lM_finish )
        obtain ⟨w', hw'⟩ := hi c w16 S' (by omega) h'
        refine ⟨w', ?_⟩
        rw [if_pos c9, if_pos (show c < 12001 by omega), ob_of h.rcv, cbd_of e1, if_pos (show c < 12001 by omega), ob_of m9, cbd_of e2, if_pos rfl, bnd_eq, n6]
        exact hw'
      rw [if_neg c9]
      by_cases c10 : x4 = (10 : Int32)
      · obtain ⟨r, w9, S', w16, e1, b9, m9, e2, h'⟩ := h.call (a_cell n (xs (6 * k + 1)) (xs (6 * k + 2))) (nN_cell n (xs (6 * k + 1)) (xs (6 * k + 2))) (lM_cell (xs (6 * k + 1)) (xs (6 * k + 2)))
        obtain ⟨w', hw'⟩ := hi c w16 S' (by omega) h'
        refine ⟨w', ?_⟩
        rw [if_pos c10, ob_of (l1 h.1), ob_of (l2 h.1), if_pos (show c < 12001 by omega), ob_of h.rcv, cbd_of e1, ob_of (l1 b9), ob_of (l2 b9), if_pos (show c < 12001 by omega), ob_of m9, cbd_of e2, if_pos rfl, bnd_eq, n6]
        exact hw'
      rw [if_neg c10]
      by_cases c11 : x4 = (11 : Int32)
      · obtain ⟨r, w9, S', w16, e1, b9, m9, e2, h'⟩ := h.call (a_offset n (xs (6 * k + 1))) (nN_offset n (xs (6 * k + 1))) (lM_offset (xs (6 * k + 1)))
        obtain ⟨w', hw'⟩ := hi c w16 S' (by omega) h'
        refine ⟨w', ?_⟩
        rw [if_pos c11, ob_of (l1 h.1), if_pos (show c < 12001 by omega), ob_of h.rcv, cbd_of e1, ob_of (l1 b9), if_pos (show c < 12001 by omega), ob_of m9, cbd_of e2, if_pos rfl, bnd_eq, n6]
        exact hw'
      rw [if_neg c11]
      by_cases c12 : x4 = (12 : Int32)
      · rw [if_pos c12, ob_of (l1 h.1), ob_of (l2 h.1)]
        by_cases z : xs (6 * k + 2) = 0
        · obtain ⟨r, w9, S', w16, e1, b9, m9, e2, h'⟩ := h.call (a_life n (xs (6 * k + 1)) 0 ) (nN_life n (xs (6 * k + 1)) 0) (lM_life (xs (6 * k + 1)) 0)
          obtain ⟨w', hw'⟩ := hi c w16 S' (by omega) h'
          refine ⟨w', ?_⟩
          rw [if_pos z]
          unfold fW_law_b493
          rw [if_pos (show c < 12001 by omega), ob_of h.rcv, cbd_of e1, ob_of (l1 b9), ob_of (l2 b9), if_pos z]
          unfold fW_law_b515
          rw [if_pos (show c < 12001 by omega), ob_of m9, cbd_of e2, if_pos rfl, bnd_eq, n6]
          exact hw'
        · obtain ⟨r, w9, S', w16, e1, b9, m9, e2, h'⟩ := h.call (a_life n (xs (6 * k + 1)) 1 ) (nN_life n (xs (6 * k + 1)) 1) (lM_life (xs (6 * k + 1)) 1)
          obtain ⟨w', hw'⟩ := hi c w16 S' (by omega) h'
          refine ⟨w', ?_⟩
          rw [if_neg z]
          unfold fW_law_b493
          rw [if_pos (show c < 12001 by omega), ob_of h.rcv, cbd_of e1, ob_of (l1 b9), ob_of (l2 b9), if_neg z]
          unfold fW_law_b515
          rw [if_pos (show c < 12001 by omega), ob_of m9, cbd_of e2, if_pos rfl, bnd_eq, n6]
          exact hw'
      rw [if_neg c12]
      by_cases c13 : x4 = (13 : Int32)
      · obtain ⟨r, w9, S', w16, e1, b9, m9, e2, h'⟩ := h.call (a_placed n (xs (6 * k + 1))) (nN_placed n (xs (6 * k + 1))) (lM_placed (xs (6 * k + 1)))
        obtain ⟨w', hw'⟩ := hi c w16 S' (by omega) h'
        refine ⟨w', ?_⟩
        rw [if_pos c13, ob_of (l1 h.1), if_pos (show c < 12001 by omega), ob_of h.rcv, cbd_of e1, ob_of (l1 b9), if_pos (show c < 12001 by omega), ob_of m9, cbd_of e2, if_pos rfl, bnd_eq, n6]
        exact hw'
      rw [if_neg c13]
      by_cases c14 : x4 = (14 : Int32)
      · obtain ⟨r, w9, S', w16, e1, b9, m9, e2, h'⟩ := h.call (a_scaled n (xs (6 * k + 1)) (xs (6 * k + 2))) (nN_scaled n (xs (6 * k + 1)) (xs (6 * k + 2))) (lM_scaled (xs (6 * k + 1)) (xs (6 * k + 2)))
        obtain ⟨w', hw'⟩ := hi c w16 S' (by omega) h'
        refine ⟨w', ?_⟩
        rw [if_pos c14, ob_of (l1 h.1), ob_of (l2 h.1), if_pos (show c < 12001 by omega), ob_of h.rcv, cbd_of e1, ob_of (l1 b9), ob_of (l2 b9), if_pos (show c < 12001 by omega), ob_of m9, cbd_of e2, if_pos rfl, bnd_eq, n6]
        exact hw'
      rw [if_neg c14]
      by_cases c15 : x4 = (15 : Int32)
      · obtain ⟨r, w9, S', w16, e1, b9, m9, e2, h'⟩ := h.call (a_count n (xs (6 * k + 1))) (nN_count n (xs (6 * k + 1))) (lM_count (xs (6 * k + 1)))
        obtain ⟨w', hw'⟩ := hi c w16 S' (by omega) h'
        refine ⟨w', ?_⟩
        rw [if_pos c15, ob_of (l1 h.1), if_pos (show c < 12001 by omega), ob_of h.rcv, cbd_of e1, ob_of (l1 b9), if_pos (show c < 12001 by omega), ob_of m9, cbd_of e2, if_pos rfl, bnd_eq, n6]
        exact hw'
      rw [if_neg c15]
      obtain ⟨w', hw'⟩ := hi c w S (by omega) h
      refine ⟨w', ?_⟩
      rw [bnd_eq, n6]
      exact hw'
theorem law_holds : lawPure := by
  intro b z mi n L xs hL hb hz hbz
  obtain ⟨w0, hw0⟩ : ∃ w0 : cW, w0 = wIni b z mi n L xs := ⟨_, rfl⟩
  have i1 : w0.1 b = some (.inl (5, L, .inl xs)) := by
    rw [hw0]
    show (if b = b then _ else _) = _
    rw [if_pos rfl]
  have i2 : w0.1 z = some (rA 4 0 (fun _ => none)) := by
    rw [hw0]
    show (if z = b then _ else if z = z then _ else _) = _
    rw [if_neg (fun q => hbz q.symm), if_pos rfl]
  have i3 : w0.2.1 = n := by rw [hw0]; rfl
  have i4 : w0.2.2.1 = z := by rw [hw0]; rfl
  rw [← hw0]
  obtain ⟨w1, hw1⟩ : ∃ w1 : cW, w1 = alC w0 (.inr (0, dfN)) := ⟨_, rfl⟩
  have j1 : w1.1 n = some (.inr (0, dfN)) := by
    rw [hw1, ← i3]
    exact va_up_self _ _ _
  have j2 : ∀ a, a ≠ n → w1.1 a = w0.1 a := by
    intro a ha
    rw [hw1]
    exact va_up_ne _ _ (by omega)
  have j3 : w1.2.1 = n + 1 := by
    rw [hw1]
    show w0.2.1 + 1 = _
    rw [i3]
  have j4 : w1.2.2.1 = z := by rw [hw1]; exact i4
  obtain ⟨w3, k1, k2, ⟨k3, k4⟩, k5⟩ := N_init (g := fun _ => none) j1 j3 (by rw [j4, j2 z (by omega)]; exact i2) (by omega)
  obtain ⟨w4, hw4⟩ : ∃ w4 : cW, w4 = alC w3 (.inr (5, dfM)) := ⟨_, rfl⟩
  have l1 : w4.1 (n + 14) = some (.inr (5, dfM)) := by
    rw [hw4, ← k3]
    exact va_up_self _ _ _
  have l2 : ∀ a, a < n + 14 → w4.1 a = w3.1 a := by
    intro a ha
    rw [hw4]
    exact va_up_ne _ _ (by omega)
  have l3 : w4.2.1 = n + 14 + 1 := by
    rw [hw4]
    show w3.2.1 + 1 = _
    rw [k3]
  obtain ⟨w6, p1, p2, ⟨p3, p4⟩, p5⟩ := M_init l1 l3
  have hLI : LI w6 b n (n + 14) w6.2.1 L xs (fun j => n + 14 + 1 + invM j) S0 := by
    refine ⟨?_, by omega, by omega, Nat.le_refl _, ?_, ?_⟩
    · rw [p5 b (by omega), l2 b (by omega), k5 b (by omega), j2 b (by omega)]
      exact i1
    · refine k2.congW (fun a ha => ?_) (by show _ ≤ w6.2.1; omega) ?_
      · rw [rst_y (gEx_y.mpr (by omega)), p5 a (by omega), l2 a (by omega)]
      · show w6.2.2 = _
        rw [p4, hw4]
        rfl
    · have hi : ∀ a e, gIn (n + 14) w6.2.1 a = true → w6.1 a = some e → (rst (gIn (n + 14) w6.2.1) w6).1 a = some e := fun a e q y => (rst_y q).trans y
      refine ⟨hi _ _ (gIn_y.mpr (by omega)) p2.1, fun j hj => hi _ _ (gIn_y.mpr ?_) (p2.2.1 j hj), p2.2.2⟩
      have hj' : j < 18 ∧ j ≠ 6 ∧ j ≠ 14 ∧ j ≠ 15 := by
        unfold arM at hj
        simp at hj
        omega
      have a1 : invM j < 15 := by unfold invM; split <;> (try split) <;> omega
      show n + 14 ≤ n + 14 + 1 + invM j ∧ n + 14 + 1 + invM j < w6.2.1
      omega
  obtain ⟨w', hw'⟩ := law_loop hL 512 0 FU 222 w6 S0 (by omega) (Or.inr rfl) (by decide) (by omega) hLI
  refine ⟨w', ?_⟩
  unfold fW_law
  rw [bnd_eq, ← hw1, i3, cbd_of k1, bnd_eq, ← hw4, k3, cbd_of p1]
  exact hw'
