/-! step, finish -/
theorem cell_both {w : cW} {S : sM} {X : Nat → Nat → Nat} {cd : Nat → Nat × Nat} {el : Nat → Nat} {tl : Nat → Nat} {Y : Nat → Nat → Int32} {V : Nat → Nat → Nat → Int32} {od : Nat → Nat} {nA : Nat} {mx : Int32} {d : Nat} (h : RC w S X cd el tl Y V od nA mx) (hS : OKS S) (ho : d < N S 14 0) (hf : fitB S d = true) (hA : ∀ j, j < N S 1 (N S 10 d) → Vc S V (N S 10 d) j = S 5 (N S 10 d * 64 + j)) (hB : ∀ j, j < N S 1 (N S 11 d) → Vc S V (N S 11 d) j = S 5 (N S 11 d * 64 + j)) {i : Nat} (hi : i < N S 1 (N S 12 d)) : ∃ x, gM_made (nI d) (nI i) S = some (x, S) ∧ fO_resultCell (X 2 d) (nI i) (X 3 (N S 13 d)) w = some (x, w) ∧ By x := by
  have h20 := hS.t20
  have h14 := hS.o14
  obtain ⟨k1, k2, k3, k4, k5⟩ := hS.opk d ho
  have hp8 : N S 13 d < 8 := by omega
  have la := hS.ln64 _ k2
  have lb := hS.ln64 _ k3
  have lr := hS.ln64 _ k4
  have r9 : rdS S 9 (nI d) = some (S 9 d) := rd14 (by omega) (by omega)
  have r10 : rdS S 10 (nI d) = some (S 10 d) := rd14 (by omega) (by omega)
  have r11 : rdS S 11 (nI d) = some (S 11 d) := rd14 (by omega) (by omega)
  have r12 : rdS S 12 (nI d) = some (S 12 d) := rd14 (by omega) (by omega)
  have r13 : rdS S 13 (nI d) = some (S 13 d) := rd14 (by omega) (by omega)
  have r1a : rdS S 1 (nI (N S 10 d)) = some (S 1 (N S 10 d)) := rd20 (by omega) (by omega)
  have r2r : rdS S 2 (nI (N S 12 d)) = some (S 2 (N S 12 d)) := rd20 (by omega) (by omega)
  unfold gM_made fO_resultCell
  rw [ob_of r10, hS.e10, ob_of r11, hS.e11, ob_of r12, hS.e12, ob_of r2r, ob_of r13, hS.e13, ob_of r1a, hS.e1, ob_of r9, ob_of (h.o0 ho), hS.e9]
  have dec : ∀ k : Nat, k < 2 ^ 31 → ∀ x : Int32, x = nI k → (nI (N S 9 d) = x ↔ N S 9 d = k) := fun k hk x hx => by rw [hx]; exact nI_eq (N_lt _ _ _) hk
  rcases (by omega : N S 9 d = 0 ∨ N S 9 d = 1 ∨ N S 9 d = 2 ∨ N S 9 d = 3 ∨ N S 9 d = 4 ∨ N S 9 d = 5 ∨ N S 9 d = 6 ∨ N S 9 d = 7) with c | c | c | c | c | c | c | c
  · rw [fitB0 c] at hf
    obtain ⟨f1, f2⟩ := of_decide_eq_true hf
    have hlen : i * N S 1 (N S 10 d) + N S 1 (N S 10 d) ≤ N S 1 (N S 11 d) := by
      rw [f2, Nat.mul_comm (N S 1 (N S 10 d)), ← Nat.succ_mul]
      exact Nat.mul_le_mul_right _ hi
    have e1 : fO_denseSum (X 2 d) (nI i) w = _ := h.dense_loop hS ho hA hB hlen (N S 1 (N S 10 d)) 0 FU (by omega) (by unfold FU; omega)
    obtain ⟨r, s1, s2⟩ := scal_both h hS hp8 (dsm S (N S 10 d) (N S 11 d) (N S 1 (N S 10 d)) i (N S 1 (N S 10 d)))
    refine ⟨clp (S 2 (N S 12 d) + r), ?_, ?_, clp_by _⟩
    · rw [if_pos (show nI (N S 9 d) = 0 by rw [c]; rfl)]
      refine (gdense_loop hS ho hlen (N S 1 (N S 10 d)) 0 FU (by omega) (by unfold FU; omega)).trans ?_
      unfold gM_made_b98
      rw [cbd_of s1, cbd_of (g_clamped _ S)]
    · rw [if_pos (show nI (N S 9 d) = 0 by rw [c]; rfl), ob_of (h.r2 ho), cbd_of e1, ob_of (h.r3 hp8), cbd_of s2, ob_of (h.r2 ho), cbd_of (h.clamp hS ho r)]
  · rw [fitB1 (Or.inl c)] at hf
    obtain ⟨f1, f2⟩ := of_decide_eq_true hf
    obtain ⟨r, s1, s2⟩ := scal_both h hS hp8 ((S 5 (N S 10 d * 64 + i) - S 2 (N S 10 d)) + (S 5 (N S 11 d * 64 + i) - S 2 (N S 11 d)))
    refine ⟨clp (S 2 (N S 12 d) + r), ?_, ?_, clp_by _⟩
    · rw [if_neg (show ¬ nI (N S 9 d) = 0 by rw [c]; decide), ob_of r9, hS.e9, if_pos (show nI (N S 9 d) = 1 by rw [c]; rfl), cbd_of (g_diff hS k2 (show i < _ by omega)), cbd_of (g_diff hS k3 (show i < _ by omega)), cbd_of s1, cbd_of (g_clamped _ S)]
    · rw [if_neg (show ¬ nI (N S 9 d) = 0 by rw [c]; decide), if_pos (show nI (N S 9 d) = 1 by rw [c]; rfl), ob_of (h.o1 ho), ob_of (h.r4 k2), cbd_of (h.dist k2 (show i < _ by omega) (hA i (by omega))), ob_of (h.o2 ho), ob_of (h.r4 k3), cbd_of (h.dist k3 (show i < _ by omega) (hB i (by omega))), ob_of (h.r3 hp8), cbd_of s2, ob_of (h.r2 ho), cbd_of (h.clamp hS ho r)]
  · rw [fitB1 (Or.inr c)] at hf
    obtain ⟨f1, f2⟩ := of_decide_eq_true hf
    obtain ⟨r, s1, s2⟩ := scal_both h hS hp8 ((S 5 (N S 10 d * 64 + i) - S 2 (N S 10 d)) * (S 5 (N S 11 d * 64 + i) - S 2 (N S 11 d)))
    refine ⟨clp (S 2 (N S 12 d) + r), ?_, ?_, clp_by _⟩
    · rw [if_neg (show ¬ nI (N S 9 d) = 0 by rw [c]; decide), ob_of r9, hS.e9, if_neg (show ¬ nI (N S 9 d) = 1 by rw [c]; decide), ob_of r9, hS.e9, if_pos (show nI (N S 9 d) = 2 by rw [c]; rfl), cbd_of (g_diff hS k2 (show i < _ by omega)), cbd_of (g_diff hS k3 (show i < _ by omega)), cbd_of s1, cbd_of (g_clamped _ S)]
    · rw [if_neg (show ¬ nI (N S 9 d) = 0 by rw [c]; decide), if_neg (show ¬ nI (N S 9 d) = 1 by rw [c]; decide), if_pos (show nI (N S 9 d) = 2 by rw [c]; rfl), ob_of (h.o1 ho), ob_of (h.r4 k2), cbd_of (h.dist k2 (show i < _ by omega) (hA i (by omega))), ob_of (h.o2 ho), ob_of (h.r4 k3), cbd_of (h.dist k3 (show i < _ by omega) (hB i (by omega))), ob_of (h.r3 hp8), cbd_of s2, ob_of (h.r2 ho), cbd_of (h.clamp hS ho r)]
  · rw [fitB3 (Or.inl c)] at hf
    obtain ⟨f1, f2, f3, f4, f5⟩ := of_decide_eq_true hf
    have hlen : i * N S 13 d + N S 13 d ≤ N S 1 (N S 10 d) := by
      rw [f4, ← Nat.succ_mul]
      exact Nat.mul_le_mul_right _ hi
    have e1 : fO_greatestOfGroup (X 2 d) (nI i) w = _ := (h.grp hS ho hA hlen (N S 13 d) 0 FU (by omega) (by unfold FU; omega)).1
    have e2 : gM_window (nI (N S 10 d)) (nI (i * N S 13 d)) (nI (N S 13 d)) 1 S = _ := gwin_loop hS ho (g := 1) hlen (N S 13 d) 0 FU (by omega) (by unfold FU; omega)
    refine ⟨gmx S (N S 10 d) (i * N S 13 d) (N S 13 d), ?_, ?_, gmx_by hS _ _ _⟩
    · rw [if_neg (show ¬ nI (N S 9 d) = 0 by rw [c]; decide), ob_of r9, hS.e9, if_neg (show ¬ nI (N S 9 d) = 1 by rw [c]; decide), ob_of r9, hS.e9, if_neg (show ¬ nI (N S 9 d) = 2 by rw [c]; decide), ob_of r9, hS.e9, if_neg (show ¬ 5 ≤ nI (N S 9 d) by rw [c]; decide), ob_of r9, hS.e9, if_pos (show nI (N S 9 d) = 3 by rw [c]; rfl), pk_mul]
      rw [cbd_of (e2.trans (by unfold gM_window_b56; rw [if_neg i10]))]
    · rw [if_neg (show ¬ nI (N S 9 d) = 0 by rw [c]; decide), if_neg (show ¬ nI (N S 9 d) = 1 by rw [c]; decide), if_neg (show ¬ nI (N S 9 d) = 2 by rw [c]; decide), if_pos (show nI (N S 9 d) = 3 by rw [c]; rfl), ob_of (h.r2 ho), cbd_of e1]
  · rw [fitB3 (Or.inr c)] at hf
    obtain ⟨f1, f2, f3, f4, f5⟩ := of_decide_eq_true hf
    have hlen : i * N S 13 d + N S 13 d ≤ N S 1 (N S 10 d) := by
      rw [f4, ← Nat.succ_mul]
      exact Nat.mul_le_mul_right _ hi
    have e1 : fO_sumOfGroup (X 2 d) (nI i) w = _ := (h.grp hS ho hA hlen (N S 13 d) 0 FU (by omega) (by unfold FU; omega)).2
    have e2 : gM_window (nI (N S 10 d)) (nI (i * N S 13 d)) (nI (N S 13 d)) 0 S = _ := gwin_loop hS ho (g := 0) hlen (N S 13 d) 0 FU (by omega) (by unfold FU; omega)
    have hb := gsm_in hS (N S 10 d) (i * N S 13 d) (N S 13 d) f3
    obtain ⟨r, m1, m2, m3⟩ := mean_by f2 f3 hb.1 hb.2
    refine ⟨r.toInt32, ?_, ?_, m3⟩
    · rw [if_neg (show ¬ nI (N S 9 d) = 0 by rw [c]; decide), ob_of r9, hS.e9, if_neg (show ¬ nI (N S 9 d) = 1 by rw [c]; decide), ob_of r9, hS.e9, if_neg (show ¬ nI (N S 9 d) = 2 by rw [c]; decide), ob_of r9, hS.e9, if_neg (show ¬ 5 ≤ nI (N S 9 d) by rw [c]; decide), ob_of r9, hS.e9, if_neg (show ¬ nI (N S 9 d) = 3 by rw [c]; decide), pk_mul]
      rw [cbd_of (e2.trans (by unfold gM_window_b56; rw [if_pos rfl, cbd_of (m2 S)]))]
    · rw [if_neg (show ¬ nI (N S 9 d) = 0 by rw [c]; decide), if_neg (show ¬ nI (N S 9 d) = 1 by rw [c]; decide), if_neg (show ¬ nI (N S 9 d) = 2 by rw [c]; decide), if_neg (show ¬ nI (N S 9 d) = 3 by rw [c]; decide), if_pos (show nI (N S 9 d) = 4 by rw [c]; rfl), ob_of (h.r2 ho), cbd_of e1, ob_of (h.o4 ho), hS.e13, cbd_of (m1 w)]
  · rw [fitB5 c] at hf
    obtain ⟨f1, f2, f3, f4, f5⟩ := of_decide_eq_true hf
    have hia : i < N S 1 (N S 10 d) := by omega
    obtain ⟨e1, e2⟩ := at64 hS k2 hia
    obtain ⟨q, hq, eq⟩ : ∃ q : Nat, q < 16 ∧ (S 5 (N S 10 d * 64 + i) + 128) / 16 = nI q := by
      have hb := hS.by5 (N S 10 d * 64 + i)
      unfold By at hb
      obtain ⟨n, hn⟩ : ∃ n : Nat, (S 5 (N S 10 d * 64 + i)).toInt + 128 = (n : Int) := ⟨((S 5 (N S 10 d * 64 + i)).toInt + 128).toNat, by omega⟩
      have ex : S 5 (N S 10 d * 64 + i) + 128 = nI n := by
        apply Int32.toInt_inj.mp
        rw [Int32.toInt_add, nI_toInt (by omega), show (128 : Int32).toInt = 128 from rfl, hn, Int.bmod_eq_of_le (by omega) (by omega)]
      refine ⟨n / 16, by omega, ?_⟩
      rw [ex]
      exact pk_div (d := 16) (by omega) (by omega) (by omega)
    have eq2 : (S 5 (N S 10 d * 64 + i) - (-128)) / 16 = nI q := by
      rw [show S 5 (N S 10 d * 64 + i) - (-128) = S 5 (N S 10 d * 64 + i) + 128 by rw [Int32.sub_eq_add_neg]; rfl]
      exact eq
    have hqb : q < N S 1 (N S 11 d) := by omega
    obtain ⟨e3, e4⟩ := at64 hS k3 hqb
    refine ⟨S 5 (N S 11 d * 64 + q), ?_, ?_, hS.by5 _⟩
    · rw [if_neg (show ¬ nI (N S 9 d) = 0 by rw [c]; decide), ob_of r9, hS.e9, if_neg (show ¬ nI (N S 9 d) = 1 by rw [c]; decide), ob_of r9, hS.e9, if_neg (show ¬ nI (N S 9 d) = 2 by rw [c]; decide), ob_of r9, hS.e9, if_pos (show 5 ≤ nI (N S 9 d) by rw [c]; decide), ob_of r9, hS.e9, if_pos (show nI (N S 9 d) = 5 by rw [c]; rfl), e1, ob_of (rd1280 e2 (by omega)), eq, e3, ob_of (rd1280 e4 (by omega))]
    · rw [if_neg (show ¬ nI (N S 9 d) = 0 by rw [c]; decide), if_neg (show ¬ nI (N S 9 d) = 1 by rw [c]; decide), if_neg (show ¬ nI (N S 9 d) = 2 by rw [c]; decide), if_neg (show ¬ nI (N S 9 d) = 3 by rw [c]; decide), if_neg (show ¬ nI (N S 9 d) = 4 by rw [c]; decide), if_pos (show nI (N S 9 d) = 5 by rw [c]; rfl), ob_of (h.o2 ho), ob_of (h.t5 k3), ob_of (h.o1 ho), ob_of (h.t5 k2), ob_of (h.ldc k2 hia), hA i hia, eq2, ob_of (h.ldc k3 hqb), hB q hqb]
  · rw [fitB6 c] at hf
    obtain ⟨f1, f2, f3, f4⟩ := of_decide_eq_true hf
    by_cases ci : N S 1 (N S 10 d) ≤ i
    · have hib : i - N S 1 (N S 10 d) < N S 1 (N S 11 d) := by omega
      obtain ⟨e1, e2⟩ := at64 hS k3 hib
      have e3 : nI (N S 11 d) * 64 + nI i - nI (N S 1 (N S 10 d)) = nI (N S 11 d * 64 + (i - N S 1 (N S 10 d))) := by
        rw [show (64 : Int32) = nI 64 from rfl, pk_mul, nI_add, pk_sub (by omega)]
        congr 1
        omega
      refine ⟨S 5 (N S 11 d * 64 + (i - N S 1 (N S 10 d))), ?_, ?_, hS.by5 _⟩
      · rw [if_neg (show ¬ nI (N S 9 d) = 0 by rw [c]; decide), ob_of r9, hS.e9, if_neg (show ¬ nI (N S 9 d) = 1 by rw [c]; decide), ob_of r9, hS.e9, if_neg (show ¬ nI (N S 9 d) = 2 by rw [c]; decide), ob_of r9, hS.e9, if_pos (show 5 ≤ nI (N S 9 d) by rw [c]; decide), ob_of r9, hS.e9, if_neg (show ¬ nI (N S 9 d) = 5 by rw [c]; decide), ob_of r9, hS.e9, if_pos (show nI (N S 9 d) = 6 by rw [c]; rfl), if_pos (nI_le ci (by omega)), e3, ob_of (rd1280 e2 (by omega))]
      · rw [if_neg (show ¬ nI (N S 9 d) = 0 by rw [c]; decide), if_neg (show ¬ nI (N S 9 d) = 1 by rw [c]; decide), if_neg (show ¬ nI (N S 9 d) = 2 by rw [c]; decide), if_neg (show ¬ nI (N S 9 d) = 3 by rw [c]; decide), if_neg (show ¬ nI (N S 9 d) = 4 by rw [c]; decide), if_neg (show ¬ nI (N S 9 d) = 5 by rw [c]; decide), if_pos (show nI (N S 9 d) = 6 by rw [c]; rfl), ob_of (h.o1 ho), ob_of (h.t2 k2), hS.e1, if_pos (nI_le ci (by omega)), ob_of (h.o2 ho), ob_of (h.t5 k3), ob_of (h.o1 ho), ob_of (h.t2 k2), hS.e1, pk_sub ci, ob_of (h.ldc k3 hib), hB _ hib]
    · have hia : i < N S 1 (N S 10 d) := by omega
      obtain ⟨e1, e2⟩ := at64 hS k2 hia
      refine ⟨S 5 (N S 10 d * 64 + i), ?_, ?_, hS.by5 _⟩
      · rw [if_neg (show ¬ nI (N S 9 d) = 0 by rw [c]; decide), ob_of r9, hS.e9, if_neg (show ¬ nI (N S 9 d) = 1 by rw [c]; decide), ob_of r9, hS.e9, if_neg (show ¬ nI (N S 9 d) = 2 by rw [c]; decide), ob_of r9, hS.e9, if_pos (show 5 ≤ nI (N S 9 d) by rw [c]; decide), ob_of r9, hS.e9, if_neg (show ¬ nI (N S 9 d) = 5 by rw [c]; decide), ob_of r9, hS.e9, if_pos (show nI (N S 9 d) = 6 by rw [c]; rfl), if_neg (nI_ge hia (by omega)), e1, ob_of (rd1280 e2 (by omega))]
      · rw [if_neg (show ¬ nI (N S 9 d) = 0 by rw [c]; decide), if_neg (show ¬ nI (N S 9 d) = 1 by rw [c]; decide), if_neg (show ¬ nI (N S 9 d) = 2 by rw [c]; decide), if_neg (show ¬ nI (N S 9 d) = 3 by rw [c]; decide), if_neg (show ¬ nI (N S 9 d) = 4 by rw [c]; decide), if_neg (show ¬ nI (N S 9 d) = 5 by rw [c]; decide), if_pos (show nI (N S 9 d) = 6 by rw [c]; rfl), ob_of (h.o1 ho), ob_of (h.t2 k2), hS.e1, if_neg (nI_ge hia (by omega)), ob_of (h.o1 ho), ob_of (h.t5 k2), ob_of (h.ldc k2 hia), hA i hia]
  · rw [fitB7 c] at hf
    obtain ⟨f1, f2, f3, f4⟩ := of_decide_eq_true hf
    have hia : N S 1 (N S 10 d) - 1 - i < N S 1 (N S 10 d) := by omega
    obtain ⟨e1, e2⟩ := at64 hS k2 hia
    have e3 : nI (N S 10 d) * 64 + nI (N S 1 (N S 10 d)) - 1 - nI i = nI (N S 10 d * 64 + (N S 1 (N S 10 d) - 1 - i)) := by
      rw [show (64 : Int32) = nI 64 from rfl, show (1 : Int32) = nI 1 from rfl, pk_mul, nI_add, pk_sub (by omega), pk_sub (by omega)]
      congr 1
      omega
    have e4 : nI (N S 1 (N S 10 d)) - 1 - nI i = nI (N S 1 (N S 10 d) - 1 - i) := by
      rw [show (1 : Int32) = nI 1 from rfl, pk_sub (by omega), pk_sub (by omega)]
    refine ⟨S 5 (N S 10 d * 64 + (N S 1 (N S 10 d) - 1 - i)), ?_, ?_, hS.by5 _⟩
    · rw [if_neg (show ¬ nI (N S 9 d) = 0 by rw [c]; decide), ob_of r9, hS.e9, if_neg (show ¬ nI (N S 9 d) = 1 by rw [c]; decide), ob_of r9, hS.e9, if_neg (show ¬ nI (N S 9 d) = 2 by rw [c]; decide), ob_of r9, hS.e9, if_pos (show 5 ≤ nI (N S 9 d) by rw [c]; decide), ob_of r9, hS.e9, if_neg (show ¬ nI (N S 9 d) = 5 by rw [c]; decide), ob_of r9, hS.e9, if_neg (show ¬ nI (N S 9 d) = 6 by rw [c]; decide), e3, ob_of (rd1280 e2 (by omega))]
    · rw [if_neg (show ¬ nI (N S 9 d) = 0 by rw [c]; decide), if_neg (show ¬ nI (N S 9 d) = 1 by rw [c]; decide), if_neg (show ¬ nI (N S 9 d) = 2 by rw [c]; decide), if_neg (show ¬ nI (N S 9 d) = 3 by rw [c]; decide), if_neg (show ¬ nI (N S 9 d) = 4 by rw [c]; decide), if_neg (show ¬ nI (N S 9 d) = 5 by rw [c]; decide), if_neg (show ¬ nI (N S 9 d) = 6 by rw [c]; decide), if_pos (show nI (N S 9 d) = 7 by rw [c]; rfl), ob_of (h.o1 ho), ob_of (h.t5 k2), ob_of (h.o1 ho), ob_of (h.t2 k2), hS.e1, e4, ob_of (h.ldc k2 hia), hA _ hia]
theorem step_loop {X : Nat → Nat → Nat} {cd : Nat → Nat × Nat} {el : Nat → Nat} {tl : Nat → Nat} {Y : Nat → Nat → Int32} {od : Nat → Nat} {nA : Nat} {mx : Int32} {d r : Nat} : ∀ e i fu (w : cW) (S : sM) (V : Nat → Nat → Nat → Int32), RC w S X cd el tl Y V od nA mx → OKS S → d < N S 14 0 → N S 12 d = r → N S 0 r = 2 → S 18 0 = nI d → fitB S d = true → N S 10 d ≠ r → N S 11 d ≠ r → (∀ j, j < N S 1 (N S 10 d) → Vc S V (N S 10 d) j = S 5 (N S 10 d * 64 + j)) → (∀ j, j < N S 1 (N S 11 d) → Vc S V (N S 11 d) j = S 5 (N S 11 d * 64 + j)) → i + e = N S 1 r → e < fu → (∀ j, j < i → V 5 r j = S 5 (r * 64 + j)) → ∃ w' f' V', gM_step_l33 fu (nI r) (nI i) S = gM_step_b69 (sUp S 5 f') ∧ fO_makeResult_l2 (X 2 d) fu (some (X 3 (N S 13 d))) (nI i) w = some ((), w') ∧ RC w' (sUp S 5 f') X cd el tl Y V' od nA mx ∧ (∀ k, By (f' k)) ∧ (∀ k u, (k ≠ 5 ∨ u ≠ r) → V' k u = V k u) ∧ (∀ k, (k < r * 64 ∨ r * 64 + 64 ≤ k) → f' k = S 5 k) ∧ ∀ j, j < N S 1 r → V' 5 r j = f' (r * 64 + j) := by
  intro e
  induction e with
  | zero =>
    intro i fu w S V h hS ho hr hk2 h18 hf na nb hA hB h1 h2 h3
    obtain ⟨fu, rfl⟩ : ∃ k, fu = k + 1 := ⟨fu - 1, by omega⟩
    obtain ⟨k1, k2, k3, k4, k5⟩ := hS.opk d ho
    rw [hr] at k4
    have h20 := hS.t20
    have e : i = N S 1 r := by omega
    refine ⟨w, S 5, V, ?_, ?_, by rw [sUp_id]; exact h, hS.by5, fun _ _ _ => rfl, fun _ _ => rfl, fun j hj => h3 j (by omega)⟩
    · rw [sUp_id, gM_step_l33_s]
      unfold gM_step_b33
      rw [ob_of (rd20 (show r < 20 by omega) (by omega)), hS.e1, if_pos (nI_le (by omega) (by have := N_lt S 1 r; omega))]
    · rw [fO_makeResult_l2_s]
      unfold fO_makeResult_b2
      rw [ob_of (h.o3 ho), hr, ob_of (h.t2 k4), hS.e1, if_pos (nI_le (by omega) (by have := N_lt S 1 r; omega))]
  | succ e ih =>
    intro i fu w S V h hS ho hr hk2 h18 hf na nb hA hB h1 h2 h3
    obtain ⟨fu, rfl⟩ : ∃ k, fu = k + 1 := ⟨fu - 1, by omega⟩
    obtain ⟨k1, k2, k3, k4, k5⟩ := hS.opk d ho
    have k4r : r < N S 6 0 := by rw [← hr]; exact k4
    have h20 := hS.t20
    have hi : i < N S 1 r := by omega
    have l64 := hS.ln64 r k4r
    have la64 := hS.ln64 _ k2
    have lb64 := hS.ln64 _ k3
    obtain ⟨x, x1, x2, x3⟩ := cell_both h hS ho hf hA hB (i := i) (by rw [hr]; exact hi)
    obtain ⟨q1, q2⟩ := at64 hS k4r hi
    have w1 : wrS S 5 (nI r * 64 + nI i) (vp_nar .int x) = some (sUp S 5 (upd (S 5) (r * 64 + i) x)) := by rw [q1, wrS_in (show r * 64 + i < lenM 5 from q2) (by decide), nar_int]
    have hcl : clA S X r = X 5 r := by unfold clA; rw [if_neg (by omega)]
    have s1 := stI_in (w := w) (ty := .int) (i := nI i) (x := x) (h.giv r k4r) (by decide) (by decide) rfl rfl hi (N_lt _ _ _)
    have r1 := (h.setV k4r (Or.inl rfl) (upd (V 5 r) i (vp_nar .int x))).congS (S' := sUp S 5 (upd (S 5) (r * 64 + i) x)) (fun k _ h5 _ _ => sUp_n _ _ h5)
    have hS2 : OKS (sUp S 5 (upd (S 5) (r * 64 + i) x)) := by
      refine ⟨fun j k hj => ?_, hS.t20, hS.o14, hS.kdl, hS.ln1, hS.ln64, hS.ln16, hS.kp, hS.kz, hS.gz, hS.by4, fun k => ?_, hS.mp, hS.sh, hS.opk, hS.pr, hS.dn, hS.gd⟩
      · rw [sUp_n _ _ (by omega)]
        exact hS.nn j k hj
      · show By (upd (S 5) (r * 64 + i) x k)
        by_cases q : k = r * 64 + i
        · rw [q, pk_us]; exact x3
        · rw [pk_un q]; exact hS.by5 k
    have hV : ∀ t, t ≠ r → N S 1 t ≤ 64 → (∀ j, j < N S 1 t → Vc S V t j = S 5 (t * 64 + j)) → ∀ j, j < N S 1 t → Vc (sUp S 5 (upd (S 5) (r * 64 + i) x)) (upV V 5 r (upd (V 5 r) i (vp_nar .int x))) t j = upd (S 5) (r * 64 + i) x (t * 64 + j) := by
      intro t ht hl hv j hj
      rw [pk_un (by omega), ← hv j hj]
      show (if N S 0 t = 1 then upV V 5 r _ 6 t else upV V 5 r _ 5 t) j = _
      rw [upV_n _ _ (Or.inr ht), upV_n _ _ (Or.inr ht)]
      rfl
    obtain ⟨w', f', V', p1, p2, p3, p4, p5, p6, p7⟩ := ih (i + 1) fu _ _ _ r1 hS2 ho hr hk2 h18 hf na nb (hV _ na la64 hA) (hV _ nb lb64 hB) (by show i + 1 + e = N S 1 r; omega) (by omega) (fun j hj => by
      show upV V 5 r _ 5 r j = upd (S 5) (r * 64 + i) x (r * 64 + j)
      rw [upV_s]
      by_cases c : j = i
      · rw [c, pk_us, pk_us]; rfl
      · rw [pk_un c, pk_un (by omega)]
        exact h3 j (by omega))
    rw [sUp_u] at p1 p3
    refine ⟨w', f', V', ?_, ?_, p3, p4, fun k u q => ?_, fun k q => ?_, p7⟩
    · rw [gM_step_l33_s]
      unfold gM_step_b33
      rw [ob_of (rd20 (show r < 20 by omega) (by omega)), hS.e1, if_neg (nI_ge hi (by omega)), bnd_eq, h18, cbd_of x1, ob_of w1, bnd_eq, nI_1]
      exact p1
    · rw [fO_makeResult_l2_s]
      unfold fO_makeResult_b2
      rw [ob_of (h.o3 ho), hr, ob_of (h.t2 k4r), hS.e1, if_neg (nI_ge hi (by omega)), ob_of (h.o3 ho), hr, ob_of (h.t5 k4r), hcl, ob_some, ob_of (h.r2 ho), cbd_of x2, ob_of s1, bnd_eq, nI_1]
      exact p2
    · rw [p5 k u q, upV_n _ _ q]
    · rw [p6 k q]
      show upd (S 5) (r * 64 + i) x k = _
      rw [pk_un (by omega)]
theorem next_both {b : Nat} {w : cW} {S : sM} (hi : INV w b S) {d : Nat} (hd : d < N S 14 0) (h18 : S 18 0 = nI d) : ∃ S' w', gM_step S = some (nI d, S') ∧ fN_doNext b w = some ((), w') ∧ INV w' b S' ∧ S' 18 0 = nI (d + 1) ∧ N S' 14 0 = N S 14 0 := by
  obtain ⟨X, cd, el, tl, Y, V, od, nA, mx, rfl, hr, hS, hG, hP, hR⟩ := hi
  have h20 := hS.t20
  have h14 := hS.o14
  have p : S 15 0 = 1 := by
    rcases hS.dn with z | z
    · exact (m1_ne hS (show d ≤ _ by omega) (z.symm.trans h18)).elim
    · exact z.1
  obtain ⟨k1, k2, k3, k4, k5⟩ := hS.opk d hd
  have hRd := hR d (by omega) h18
  have hgd := hS.gd p d hd
  obtain ⟨r, er⟩ : ∃ r, N S 12 d = r := ⟨_, rfl⟩
  rw [er] at k4
  have hp8 : N S 13 d < 8 := by omega
  unfold flt at hgd
  rw [er] at hgd
  have g1 : N S 0 r = 2 ∧ ¬ mk S r d < d := by
    by_cases c : N S 0 r = 2 ∧ ¬ mk S r d < d
    · exact c
    · rw [if_neg c] at hgd
      exact absurd hgd (by decide)
  rw [if_pos g1] at hgd
  have g2 : ¬ (unm S (N S 10 d) d = true ∨ unm S (N S 11 d) d = true) := by
    intro c
    rw [if_pos c] at hgd
    exact absurd hgd (by decide)
  rw [if_neg g2] at hgd
  have g3 : fitB S d = true := by
    by_cases c : fitB S d = true
    · exact c
    · rw [if_neg c] at hgd
      exact absurd hgd (by decide)
  have src : ∀ t, ¬ unm S t d = true → N S 0 t = 2 → mk S t d < d := by
    intro t hu k2
    by_cases c : mk S t d < d
    · exact c
    · exact absurd (by unfold unm; simp [k2, c]) hu
  have ma := src (N S 10 d) (fun q => g2 (Or.inl q))
  have mb := src (N S 11 d) (fun q => g2 (Or.inr q))
  have na : N S 10 d ≠ r := by
    intro q
    rw [q] at ma
    exact g1.2 (ma g1.1)
  have nb : N S 11 d ≠ r := by
    intro q
    rw [q] at mb
    exact g1.2 (mb g1.1)
  have l64 := hS.ln64 r k4
  obtain ⟨w1, f', V', p1, p2, p3, p4, p5, p6, p7⟩ := step_loop (X := X) (cd := cd) (el := el) (tl := tl) (Y := Y) (od := od) (nA := nA) (mx := mx) (N S 1 r) 0 FU w S V hr hS hd er g1.1 h18 g3 na nb (fun j hj => run_cell hS hG hRd k2 hj ma) (fun j hj => run_cell hS hG hRd k3 hj mb) (by omega) (by unfold FU; omega) (fun j hj => absurd hj (Nat.not_lt_zero j))
  have r2 := p3.setN (k := 5) (j := 18) (Or.inr ⟨rfl, rfl⟩) (nI (d + 1)) rfl
  refine ⟨_, _, ?_, ?_, ⟨X, cd, el, tl, Y, V', od, nA, mx, rfl, r2, ?_, ?_, fun _ => (hP p).cong (fun j _ h5 h18 => by rw [sUp_n _ _ h18, sUp_n _ _ h5]), ?_⟩, rfl, rfl⟩
  · unfold gM_step
    rw [bnd_eq, h18, if_neg (nI_pos (by omega)), bnd_eq, bnd_eq, hS.e14, if_neg (fun q => by have := (nI_eq (by omega) (by omega)).mp q; omega), bnd_eq, ob_of (rd14 (show d < 14 by omega) (by omega)), hS.e12, er]
    refine p1.trans ?_
    unfold gM_step_b69
    rw [bnd_eq, bnd_eq, bnd_eq]
    have e18 : sUp S 5 f' 18 0 = nI d := h18
    rw [e18, nI_1]
    show some (nI (d + 1) - 1, _) = _
    rw [nI_pred]
    rfl
  · unfold fN_doNext
    have e18 : gI w1 (some (X 0 0)) 0 5 = some (nI d) := by
      have := p3.i05
      rw [this]
      exact congrArg some h18
    rw [ob_of hr.q01, ob_of hr.i05, ob_of hr.l1, h18, cbd_of (hr.g1 hd), ob_of (hr.c2 hd), ob_of hr.q02, ob_of (hr.o4 hd), hS.e13, ob_of (hr.q9 hp8), ob_some, ob_of (hr.r2 hd)]
    have p2 : fO_makeResult (X 2 d) (X 3 (N S 13 d)) w = some ((), w1) := p2
    rw [cbd_of p2, ob_of e18, nI_1, ob_of (pI_in p3.net (Nat.le_of_ble_eq_true rfl))]
  · refine ⟨fun j i hj => ?_, hS.t20, hS.o14, hS.kdl, hS.ln1, hS.ln64, hS.ln16, hS.kp, hS.kz, hS.gz, hS.by4, p4, hS.mp, hS.sh, hS.opk, hS.pr, Or.inr ⟨p, d + 1, hd, rfl⟩, hS.gd⟩
    rw [sUp_n _ _ (by omega), sUp_n _ _ (by omega)]
    exact hS.nn j i hj
  · intro t ht k2 j hj
    have k2 : N S 0 t ≠ 2 := k2
    have ne : t ≠ r := fun q => k2 (by rw [q]; exact g1.1)
    show V' 5 t j = S 4 (t * 64 + j)
    rw [p5 5 t (Or.inr ne)]
    exact hG t ht k2 j hj
  · intro d' hd' q
    have q : nI (d + 1) = nI d' := q
    have hd' : d' ≤ N S 14 0 := hd'
    have ed : d' = d + 1 := ((nI_eq (by omega) (by omega)).mp q).symm
    subst ed
    have far : ∀ t j, t ≠ r → t < N S 6 0 → j < N S 1 t → f' (t * 64 + j) = S 5 (t * 64 + j) := by
      intro t j hne ht hj
      have := hS.ln64 t ht
      exact p6 _ (by omega)
    refine ⟨fun t ht h0 j hj => ?_, fun t ht h0 j hj => ?_, fun t ht h0 hm j hj => ?_⟩
    · have h0 : N S 0 t = 0 := h0
      have ne : t ≠ r := fun q => by rw [q] at h0; omega
      show f' (t * 64 + j) = S 4 (t * 64 + j)
      rw [far t j ne ht hj]
      exact hRd.rc t ht h0 j hj
    · have h0 : N S 0 t = 1 := h0
      have ne : t ≠ r := fun q => by rw [q] at h0; omega
      show V' 6 t j = f' (t * 64 + j)
      rw [far t j ne ht hj, p5 6 t (by omega)]
      exact hRd.ri t ht h0 j hj
    · show V' 5 t j = f' (t * 64 + j)
      by_cases c : t = r
      · subst c
        exact p7 j hj
      · rw [far t j c ht hj, p5 5 t (Or.inr c)]
        refine hRd.rm t ht h0 ?_ j hj
        have hm : mk S t (d + 1) < d + 1 := hm
        have hy := mk_yes hm
        have hne : mk S t (d + 1) ≠ d := fun z => by
          rw [z, er] at hy
          exact c hy.symm
        have hlt : mk S t (d + 1) < d := by omega
        rw [mk_of (n := d) hlt hy (fun j hj => mk_no hj)]
        exact hlt
theorem a_step (b : Nat) : Agr b (fun w => fN_step b w) (fun S => gM_step S) := by
  intro w S hi
  have hi0 := hi
  obtain ⟨X, cd, el, tl, Y, V, od, nA, mx, rfl, hr, hS, hG, hP, hR⟩ := hi
  show ∃ r S' w', gM_step S = _ ∧ fN_step (X 0 0) w = _ ∧ _
  have h14 := hS.o14
  unfold fN_step
  rw [ob_of hr.i05]
  rcases hS.dn with dn | ⟨p, d, hd, ed⟩
  · refine ⟨-3, S, w, ?_, by rw [if_pos dn], hi0⟩
    unfold gM_step
    rw [bnd_eq, if_pos (by rw [dn]; decide)]
  · rw [if_neg (fun q => m1_ne hS hd (q.symm.trans ed)), ob_of hr.i05, ob_of hr.q01, ob_of hr.l1, cbd_of hr.z1, ed]
    by_cases c : d < N S 14 0
    · obtain ⟨S', w', q1, q2, q3, q4, q5⟩ := next_both hi0 c ed
      refine ⟨nI d, S', w', q1, ?_, q3⟩
      obtain ⟨X', cd', el', tl', Y', V', od', nA', mx', e', hr', -⟩ := q3
      rw [if_pos (nI_lt c (by omega)), ob_of hr.r0, cbd_of q2]
      have := hr'.i05
      rw [e', q4] at this
      rw [ob_of this, nI_pred]
    · refine ⟨-3, S, w, ?_, by rw [if_neg (nI_nlt (by omega) (by omega))], hi0⟩
      unfold gM_step
      have e : d = N S 14 0 := by omega
      rw [bnd_eq, ed, if_neg (nI_pos (by omega)), bnd_eq, bnd_eq, if_pos (by rw [hS.e14, e])]
theorem finish_loop {b : Nat} {n0 left : Nat} (h0 : left ≤ n0) (hn : n0 ≤ 14) : ∀ e i fu (w : cW) (S : sM), INV w b S → N S 14 0 = n0 → S 18 0 = nI (n0 - e) → i + e = left → e < fu → ∃ S' w', gM_finish_l12 fu (nI i) S = some (nI left, S') ∧ fN_finish_l26 b fu (nI left) (nI i) w = some (nI left, w') ∧ INV w' b S' := by
  intro e
  induction e with
  | zero =>
    intro i fu w S hi hN h18 h1 h2
    obtain ⟨fu, rfl⟩ : ∃ k, fu = k + 1 := ⟨fu - 1, by omega⟩
    refine ⟨S, w, ?_, ?_, hi⟩
    · rw [gM_finish_l12_s]
      unfold gM_finish_b12
      have e : i = left := by omega
      by_cases c : 14 ≤ i
      · rw [if_pos (show (14 : Int32) ≤ nI i from (nI_le c (by omega) : nI 14 ≤ nI i)), e]
      · obtain ⟨X, cd, el, tl, Y, V, od, nA, mx, rfl, hr, hS, -⟩ := hi
        have s1 : gM_step S = some (-3, S) := by
          unfold gM_step
          rw [bnd_eq, h18, if_neg (nI_pos (by omega)), bnd_eq, bnd_eq, if_pos (by rw [hS.e14, hN, Nat.sub_zero])]
        rw [if_neg (show ¬ (14 : Int32) ≤ nI i from (nI_ge (by omega) (by omega) : ¬ nI 14 ≤ nI i)), cbd_of s1, if_pos (by decide), e]
    · rw [fN_finish_l26_s]
      unfold fN_finish_b26
      rw [if_pos (nI_le (by omega) (by omega))]
  | succ e ih =>
    intro i fu w S hi hN h18 h1 h2
    obtain ⟨fu, rfl⟩ : ∃ k, fu = k + 1 := ⟨fu - 1, by omega⟩
    obtain ⟨S1, w1, q1, q2, q3, q4, q5⟩ := next_both hi (d := n0 - (e + 1)) (by omega) h18
    obtain ⟨S', w', p1, p2, p3⟩ := ih (i + 1) fu w1 S1 q3 (by omega) (by rw [q4]; congr 1; omega) (by omega) (by omega)
    refine ⟨S', w', ?_, ?_, p3⟩
    · rw [gM_finish_l12_s]
      unfold gM_finish_b12
      rw [if_neg (show ¬ (14 : Int32) ≤ nI i from (nI_ge (by omega) (by omega) : ¬ nI 14 ≤ nI i)), cbd_of q1, if_neg (nI_pos (by omega)), bnd_eq, nI_1]
      exact p1
    · rw [fN_finish_l26_s]
      unfold fN_finish_b26
      obtain ⟨X, cd, el, tl, Y, V, od, nA, mx, rfl, hr, -⟩ := hi
      rw [if_neg (nI_ge (by omega) (by omega)), ob_of hr.r0, cbd_of q2, bnd_eq, nI_1]
      exact p2
theorem a_finish (b : Nat) : Agr b (fun w => fN_finish b w) (fun S => gM_finish S) := by
  intro w S hi
  have hi0 := hi
  obtain ⟨X, cd, el, tl, Y, V, od, nA, mx, rfl, hr, hS, hG, hP, hR⟩ := hi
  show ∃ r S' w', gM_finish S = _ ∧ fN_finish (X 0 0) w = _ ∧ _
  have h14 := hS.o14
  unfold gM_finish fN_finish
  rw [ob_of hr.i05, bnd_eq]
  rcases hS.dn with dn | ⟨p, d, hd, ed⟩
  · exact ⟨-3, S, w, by rw [if_neg (by rw [dn]; decide)], by rw [if_pos dn], hi0⟩
  · obtain ⟨S', w', q1, q2, q3⟩ := finish_loop (b := X 0 0) (n0 := N S 14 0) (left := N S 14 0 - d) (by omega) h14 (N S 14 0 - d) 0 FU w S hi0 rfl (by rw [ed]; congr 1; omega) (by omega) (by unfold FU; omega)
    refine ⟨nI (N S 14 0 - d), S', w', ?_, ?_, q3⟩
    · rw [if_pos (by rw [ed]; exact nI_pos' (by omega))]
      exact q1
    · rw [if_neg (fun q => m1_ne hS hd (q.symm.trans ed)), ob_of hr.q01, ob_of hr.l1, cbd_of hr.z1, ob_of hr.i05, ed, bnd_eq, pk_sub hd]
      exact q2
