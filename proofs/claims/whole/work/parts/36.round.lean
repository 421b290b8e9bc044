/-! ROUNDING: both sides round to the same number; scaled, cell, count -/
def rnd (n d : Nat) : Nat := (n + d / 2) / d
theorem rnd_eq (n : Nat) {d : Nat} (hd : 0 < d) : (2 * n + d) / (2 * d) = rnd n d := by
  unfold rnd
  rw [← Nat.div_div_eq_div_mul]
  congr 1
  omega
theorem lN_neg_toInt {n : Nat} (h : n < 2 ^ 63) : (-lN n).toInt = -(n : Int) := by
  rw [Int64.toInt_neg, pk_lT h]
  exact Int.bmod_eq_of_le (by omega) (by omega)
theorem lN_nn {n : Nat} (h : n < 2 ^ 63) : (0 : Int64) ≤ lN n := (pk_lLE (a := 0) (by omega) h).mpr (Nat.zero_le _)
theorem lN_ng {n : Nat} (h0 : 0 < n) (h : n < 2 ^ 63) : ¬ (0 : Int64) ≤ -lN n := by
  rw [Int64.le_iff_toInt_le, lN_neg_toInt h]
  rw [show (0 : Int64).toInt = 0 from rfl]
  omega
theorem lN_ps {n : Nat} (h0 : 0 < n) (h : n < 2 ^ 63) : (0 : Int64) < lN n := (pk_lLT (a := 0) (by omega) h).mpr h0
theorem lN_ne0 {n : Nat} (h0 : 0 < n) (h : n < 2 ^ 63) : ¬ lN n = 0 := fun q => by
  have := (pk_lEQ (b := 0) h (by omega)).mp q
  omega
theorem rnd_le {n d b : Nat} (hd : 0 < d) (h : n ≤ b * d) : rnd n d ≤ b := by
  unfold rnd
  have h1 : (n + d / 2) / d < b + 1 := by
    rw [Nat.div_lt_iff_lt_mul hd, Nat.succ_mul]
    omega
  omega
theorem rnd_both {v : Int64} {n d : Nat} (hv : v = lN n ∨ v = -lN n) (hn : 2 * n + d < 2 ^ 63) (hd : 0 < d) (hd2 : d ≤ 2 ^ 31) : ∃ r : Int64, (∀ w : cW, fN_rounded v (lN d) w = some (r, w)) ∧ (∀ S : sM, gM_rounded v (lN d) S = some (r, S)) ∧ ((v = lN n ∧ r = lN (rnd n d)) ∨ (v = -lN n ∧ r = -lN (rnd n d))) := by
  have q1 : lN d / 2 = lN (d / 2) := pk_lDiv (b := 2) (by omega) (by omega) (by omega)
  have q2 : (lN n + lN (d / 2)) / lN d = lN (rnd n d) := by
    rw [lN_add, pk_lDiv (by omega) hd (by omega)]
    rfl
  have q3 : (2 : Int64) * lN d = lN (2 * d) := lN_mul 2 d
  have q4 : (2 : Int64) * lN n = lN (2 * n) := lN_mul 2 n
  have q5 : ((2 : Int64) * lN n + lN d) / ((2 : Int64) * lN d) = lN (rnd n d) := by
    rw [q3, q4, lN_add, pk_lDiv (by omega) (by omega) (by omega), rnd_eq n hd]
  have q6 : ¬ (2 : Int64) * lN d = 0 := by rw [q3]; exact lN_ne0 (by omega) (by omega)
  by_cases h0 : n = 0
  · have e : v = lN 0 := by
      rcases hv with q | q
      · rw [q, h0]
      · rw [q, h0]; rfl
    subst h0
    subst e
    refine ⟨lN (rnd 0 d), fun w => ?_, fun S => ?_, Or.inl ⟨rfl, rfl⟩⟩
    · unfold fN_rounded
      rw [if_neg (lN_ne0 hd (by omega)), bnd_eq, q1, if_neg (show ¬ (0 : Int64) < lN 0 by decide), show -lN 0 = lN 0 from rfl, q2, if_pos ((lg_cmp_ge _ _).mpr (lN_nn (by omega)))]
    · unfold gM_rounded gM_rounded_b12
      rw [if_pos ((lg_cmp_ge _ _).mpr (lN_nn (by omega))), if_neg q6, bnd_eq, q5, if_pos ((lg_cmp_ge _ _).mpr (lN_nn (by omega)))]
  · rcases hv with rfl | rfl
    · refine ⟨lN (rnd n d), fun w => ?_, fun S => ?_, Or.inl ⟨rfl, rfl⟩⟩
      · unfold fN_rounded
        rw [if_neg (lN_ne0 hd (by omega)), bnd_eq, q1, if_pos (lN_ps (by omega) (by omega)), q2, if_pos ((lg_cmp_ge _ _).mpr (lN_nn (by omega)))]
      · unfold gM_rounded gM_rounded_b12
        rw [if_pos ((lg_cmp_ge _ _).mpr (lN_nn (by omega))), if_neg q6, bnd_eq, q5, if_pos ((lg_cmp_ge _ _).mpr (lN_nn (by omega)))]
    · have ng := lN_ng (n := n) (by omega) (by omega)
      refine ⟨-lN (rnd n d), fun w => ?_, fun S => ?_, Or.inr ⟨rfl, rfl⟩⟩
      · unfold fN_rounded
        rw [if_neg (lN_ne0 hd (by omega)), bnd_eq, q1, if_neg (fun q => ng (Int64.le_of_lt q)), Int64.neg_neg, q2, if_neg (fun q => ng ((lg_cmp_ge _ _).mp q))]
      · unfold gM_rounded gM_rounded_b12
        rw [if_neg (fun q => ng ((lg_cmp_ge _ _).mp q)), if_neg q6, bnd_eq, Int64.neg_neg, q5, if_neg (fun q => ng ((lg_cmp_ge _ _).mp q))]
theorem i32_sign (v : Int32) : ∃ n, n ≤ 2 ^ 31 ∧ (v.toInt64 = lN n ∨ v.toInt64 = -lN n) := by
  by_cases h : v < 0
  · have h1 : v.toInt < 0 := Int32.lt_iff_toInt_lt.mp h
    have h2 := v.le_toInt
    refine ⟨(-v.toInt).toNat, by omega, Or.inr ?_⟩
    apply Int64.toInt_inj.mp
    rw [lN_neg_toInt (by omega), Int32.toInt_toInt64]
    omega
  · obtain ⟨j, hj, rfl⟩ := nI_of h
    exact ⟨j, by omega, Or.inl (nI_l hj)⟩
theorem sh_pow : ∀ s, s < 31 → (1 : Int64) <<< ((nI s).toInt64 &&& 63) = lN (2 ^ s) := by decide +kernel
theorem scal_both {w : cW} {S : sM} {X : Nat → Nat → Nat} {cd : Nat → Nat × Nat} {el : Nat → Nat} {tl : Nat → Nat} {Y : Nat → Nat → Int32} {V : Nat → Nat → Nat → Int32} {od : Nat → Nat} {nA : Nat} {mx : Int32} (h : RC w S X cd el tl Y V od nA mx) (hS : OKS S) {i : Nat} (hi : i < 8) (v : Int32) : ∃ r, gM_scaling (nI i) v S = some (r, S) ∧ fS_applied (X 3 i) v.toInt64 w = some (r, w) := by
  obtain ⟨n, hn, hv⟩ := i32_sign v
  obtain ⟨m, hm, em⟩ := nI_of (hS.mp i)
  have hnm : n * m ≤ 2 ^ 31 * (2 ^ 31 - 1) := Nat.mul_le_mul hn (by omega)
  have hp : v.toInt64 * (S 7 i).toInt64 = lN (n * m) ∨ v.toInt64 * (S 7 i).toInt64 = -lN (n * m) := by
    rw [em, nI_l hm]
    rcases hv with q | q
    · rw [q, lN_mul]; exact Or.inl rfl
    · rw [q, Int64.neg_mul, lN_mul]; exact Or.inr rfl
  obtain ⟨r1, f1, g1, k1⟩ := rnd_both hp (by omega) (d := 2147483648) (by omega) (by omega)
  have hr1 : r1 = lN (rnd (n * m) 2147483648) ∨ r1 = -lN (rnd (n * m) 2147483648) := by
    rcases k1 with q | q
    · exact Or.inl q.2
    · exact Or.inr q.2
  have hb : rnd (n * m) 2147483648 ≤ 2 ^ 31 := rnd_le (by omega) (by omega)
  have hs := hS.sh i
  have hp2 : 2 ^ N S 8 i ≤ 2 ^ 30 := Nat.pow_le_pow_right (by omega) hs
  have hp3 : 0 < 2 ^ N S 8 i := Nat.two_pow_pos _
  obtain ⟨r2, f2, g2, k2⟩ := rnd_both hr1 (by omega) hp3 (by omega)
  have f1 : ∀ w : cW, fN_rounded (v.toInt64 * (S 7 i).toInt64) 2147483648 w = some (r1, w) := f1
  have g1 : ∀ S1 : sM, gM_rounded (v.toInt64 * (S 7 i).toInt64) 2147483648 S1 = some (r1, S1) := g1
  refine ⟨r2.toInt32, ?_, ?_⟩
  · unfold gM_scaling
    rw [ob_of (rd8 hi (by omega)), cbd_of (g1 S), ob_of (rd8 hi (by omega)), hS.e8, sh_pow _ (by omega), cbd_of (g2 S)]
  · unfold fS_applied
    rw [ob_of (h.i30 hi), cbd_of (f1 w), ob_of (h.i31 hi), hS.e8, sh_pow _ (by omega), cbd_of (f2 w)]
theorem a_scaled (b : Nat) (a v : Int32) : Agr b (fun w => fN_scaled b a v w) (fun S => gM_scaled a v S) := by
  refine Agr.same fun w S hi => ?_
  obtain ⟨X, cd, el, tl, Y, V, od, nA, mx, rfl, hr, hS, -, -, -⟩ := hi
  show ∃ r, gM_scaled a v S = _ ∧ fN_scaled (X 0 0) a v w = _
  unfold gM_scaled fN_scaled
  rcases idx a (n := 8) (by decide) with c | ⟨i, hi8, rfl⟩
  · refine ⟨0, ?_, by rw [cbd_of (isScale0 c w), if_pos rfl]⟩
    by_cases q : a < 0
    · rw [if_pos q]
    · have q2 : (nI 8).toInt ≤ a.toInt := Int32.le_iff_toInt_le.mp (c.resolve_left q)
      have q3 : (7 : Int32) < a := Int32.lt_iff_toInt_lt.mpr (by rw [nI_toInt (by omega)] at q2; rw [show (7 : Int32).toInt = 7 from rfl]; omega)
      rw [if_neg q, if_pos q3]
  · rw [cbd_of (isScale1 hi8 w), if_neg i10, cbd_of (wthn _ _ _ w), if_neg (nI_pos (show i < 2 ^ 31 by omega)), if_neg (show ¬ (7 : Int32) < nI i from (nI_nlt (show i ≤ 7 by omega) (by decide) : ¬ nI 7 < nI i))]
    by_cases c1 : v < -16777216
    · exact ⟨0, by rw [if_pos c1], by rw [if_pos (Or.inl c1), if_pos rfl]⟩
    · by_cases c2 : 16777216 < v
      · exact ⟨0, by rw [if_neg c1, if_neg (Int32.not_le.mpr c2)], by rw [if_pos (show v < -16777216 ∨ 16777216 < v from Or.inr c2), if_pos rfl]⟩
      · obtain ⟨r, k1, k2⟩ := scal_both hr hS hi8 v
        refine ⟨r, ?_, ?_⟩
        · rw [if_neg c1, if_pos (Int32.not_lt.mp c2), cbd_of k1]
        · rw [if_neg (show ¬ (v < -16777216 ∨ 16777216 < v) from fun q => q.elim c1 c2), if_neg i10, ob_of hr.q02, ob_of (hr.q9 hi8), ob_of (hr.r3 hi8), cbd_of k2]
/-- a tensor's cells as the class reads them -/
def Vc (S : sM) (V : Nat → Nat → Nat → Int32) (t : Nat) : Nat → Int32 := if N S 0 t = 1 then V 6 t else V 5 t
theorem RC.cla {w : cW} {S : sM} {X : Nat → Nat → Nat} {cd : Nat → Nat × Nat} {el : Nat → Nat} {tl : Nat → Nat} {Y : Nat → Nat → Int32} {V : Nat → Nat → Nat → Int32} {od : Nat → Nat} {nA : Nat} {mx : Int32} (h : RC w S X cd el tl Y V od nA mx) {t : Nat} (ht : t < N S 6 0) : w.1 (clA S X t) = some (iA (N S 1 t) (Vc S V t)) := by
  unfold clA Vc
  by_cases c : N S 0 t = 1
  · rw [if_pos c, if_pos c]
    exact h.cel t ht c
  · rw [if_neg c, if_neg c]
    exact h.giv t ht
theorem RC.ldc {w : cW} {S : sM} {X : Nat → Nat → Nat} {cd : Nat → Nat × Nat} {el : Nat → Nat} {tl : Nat → Nat} {Y : Nat → Nat → Int32} {V : Nat → Nat → Nat → Int32} {od : Nat → Nat} {nA : Nat} {mx : Int32} (h : RC w S X cd el tl Y V od nA mx) {t j : Nat} (ht : t < N S 6 0) (hj : j < N S 1 t) : ldI w (some (clA S X t)) .int (nI j) = some (Vc S V t j) := ldI_in (h.cla ht) (by decide) rfl rfl hj (N_lt _ _ _)
/-- what a run may read is alike -/
theorem run_cell {S : sM} {V : Nat → Nat → Nat → Int32} {d : Nat} (hS : OKS S) (hG : GIV S V) (hR : RUN S V d) {t j : Nat} (ht : t < N S 6 0) (hj : j < N S 1 t) (hm : N S 0 t = 2 → mk S t d < d) : Vc S V t j = S 5 (t * 64 + j) := by
  have hk := hS.kdl t ht
  unfold Vc
  by_cases c : N S 0 t = 1
  · rw [if_pos c]
    exact hR.ri t ht c j hj
  · rw [if_neg c]
    by_cases c2 : N S 0 t = 2
    · exact hR.rm t ht c2 (hm c2) j hj
    · rw [hR.rc t ht (by omega) j hj]
      exact hG t ht c2 j hj
theorem a_cell (b : Nat) (a i : Int32) : Agr b (fun w => fN_cell b a i w) (fun S => gM_cell a i S) := by
  refine Agr.same fun w S hi => ?_
  obtain ⟨X, cd, el, tl, Y, V, od, nA, mx, rfl, hr, hS, hG, hP, hR⟩ := hi
  show ∃ r, gM_cell a i S = _ ∧ fN_cell (X 0 0) a i w = _
  unfold gM_cell fN_cell
  have h20 := hS.t20
  have h14 := hS.o14
  rcases idx a (N_lt S 6 0) with c | ⟨t, ht, rfl⟩
  · rw [cbd_of (g_noT1 hS c), ob_of hr.r0, cbd_of (hr.tAt0 c)]
    exact ⟨-1000, rfl, rfl⟩
  · rw [cbd_of (g_noT0 hS ht), ob_of hr.r0, cbd_of (hr.tAt ht), if_pos rfl, if_neg (sne (X 4 t)), ob_of (hr.r4 ht)]
    have h64 := hS.ln64 t ht
    rcases idx i (N_lt S 1 t) with ci | ⟨j, hj, rfl⟩
    · refine ⟨-1000, ?_, ?_⟩
      · by_cases q : i < 0
        · rw [if_pos q]
        · rw [if_neg q, ob_of (rd20 (show t < 20 by omega) (by omega)), hS.e1, if_neg (Int32.not_lt.mpr (ci.resolve_left q))]
      · have hn : fT_hasCell (X 4 t) i w = some (0, w) := by
          unfold fT_hasCell
          by_cases q : i < 0
          · rw [if_pos q]
          · rw [if_neg q, ob_of (hr.t2 ht), hS.e1, if_pos (ci.resolve_left q)]
        rw [cbd_of hn, if_pos rfl]
    · obtain ⟨ea, el64⟩ := at64 hS ht hj
      have hn : fT_hasCell (X 4 t) (nI j) w = some (1, w) := by
        unfold fT_hasCell
        rw [if_neg (nI_pos (by omega)), ob_of (hr.t2 ht), hS.e1, if_neg (nI_ge hj (N_lt _ _ _))]
      rw [cbd_of hn, if_neg i10, if_neg (nI_pos (show j < 2 ^ 31 by omega)), ob_of (rd20 (show t < 20 by omega) (by omega)), hS.e1, if_pos (nI_lt hj (N_lt _ _ _)), ob_of (rd20 (show t < 20 by omega) (by omega)), ob_of (hr.t1 ht), hS.e0]
      by_cases k0 : N S 0 t = 0
      · have e : Vc S V t j = S 4 (t * 64 + j) := by
          unfold Vc
          rw [if_neg (by omega)]
          exact hG t ht (by omega) j hj
        refine ⟨S 4 (t * 64 + j), ?_, ?_⟩
        · rw [if_pos ((Neq0 S 0 t).mpr k0), ea, ob_of (rd1280 el64 (by omega))]
        · rw [if_pos ((Neq0 S 0 t).mpr k0), ob_of (hr.t5 ht), ob_of (hr.ldc ht hj), e]
      · rw [if_neg (fun q => k0 ((Neq0 S 0 t).mp q)), if_neg (fun q => k0 ((Neq0 S 0 t).mp q)), bnd_eq, ob_of hr.i05]
        rcases hS.dn with dn | ⟨p, d, hd, ed⟩
        · exact ⟨-1000, by rw [dn, if_pos (by decide)], by rw [dn, if_pos rfl]⟩
        · have hp := hP p
          have hR := hR d hd ed
          have y7 := hp.y7 t ht
          rw [if_neg (show ¬ S 18 0 < 0 by rw [ed]; exact nI_pos (by omega)), if_neg (show ¬ S 18 0 = -1 from fun q => (m1_ne hS hd (q.symm.trans ed))), cbd_of (g_lives hS ht p), ob_of hr.i05, ob_of (hr.r4 ht)]
          unfold fT_livesAfter
          rw [ob_of (hr.t7 ht), y7]
          cases c : lv S t
          · exact ⟨-1000, rfl, rfl⟩
          · rw [if_pos rfl, if_neg i10, if_neg i10, cbd_of (g_begin hS (by omega)), bnd_eq, ob_of (hr.t8 ht), hp.y8 t ht c]
            by_cases c1 : S 18 0 ≤ bgn S t
            · exact ⟨-1000, by rw [if_pos c1], by rw [if_pos c1]; rfl⟩
            · rw [if_neg c1, if_neg c1, cbd_of (g_end hS (by omega)), bnd_eq, ob_of (hr.t9 ht), hp.y9 t ht c]
              by_cases c2 : edn S t < S 18 0 - 1
              · exact ⟨-1000, by rw [if_neg (Int32.not_le.mpr c2)], by rw [if_pos c2]; rfl⟩
              · have hm : N S 0 t = 2 → mk S t d < d := by
                  intro k2
                  have l1 : mk S t (N S 14 0) < N S 14 0 := by
                    unfold lv at c
                    simp [k2] at c
                    exact c
                  have l2 : bgn S t = nI (mk S t (N S 14 0)) := by
                    unfold bgn mI
                    rw [if_neg (by omega), if_pos l1]
                  rw [l2, ed] at c1
                  have l3 : mk S t (N S 14 0) < d := by
                    by_cases z : mk S t (N S 14 0) < d
                    · exact z
                    · exact absurd (nI_le (by omega) (by omega)) c1
                  rw [mk_of (n := d) l3 (mk_yes l1) (fun q hq => mk_no hq)]
                  exact l3
                have e := run_cell hS hG hR ht hj hm
                refine ⟨S 5 (t * 64 + j), ?_, ?_⟩
                · rw [if_pos (Int32.not_lt.mp c2), ea, ob_of (rd1280 el64 (by omega))]
                · rw [if_neg c2, cbd_some, if_neg i10, ob_of (hr.t5 ht), ob_of (hr.ldc ht hj), e]
theorem RC.sum_loop {w : cW} {S : sM} {X : Nat → Nat → Nat} {cd : Nat → Nat × Nat} {el : Nat → Nat} {tl : Nat → Nat} {Y : Nat → Nat → Int32} {V : Nat → Nat → Nat → Int32} {od : Nat → Nat} {nA : Nat} {mx : Int32} (h : RC w S X cd el tl Y V od nA mx) (hS : OKS S) (hA : nA ≤ 20) : ∀ d i fu, i + d = nA → d < fu → fA_sumOfLengths_l4 (X 1 0) fu (nI (sumN (fun k => N S 1 (od k)) i)) (nI i) w = some (nI (sumN (fun k => N S 1 (od k)) nA), w) := by
  intro d
  induction d with
  | zero =>
    intro i fu h1 h2
    obtain ⟨fu, rfl⟩ : ∃ k, fu = k + 1 := ⟨fu - 1, by omega⟩
    rw [fA_sumOfLengths_l4_s]
    unfold fA_sumOfLengths_b4
    have e : i = nA := by omega
    rw [ob_of h.q10, ob_of h.l2, cbd_of h.z2, if_pos (nI_le (by omega) (by omega)), e]
  | succ d ih =>
    intro i fu h1 h2
    obtain ⟨fu, rfl⟩ : ∃ k, fu = k + 1 := ⟨fu - 1, by omega⟩
    have hi := ih (i + 1) fu (by omega) (by omega)
    have hk : i < nA := by omega
    rw [fA_sumOfLengths_l4_s]
    unfold fA_sumOfLengths_b4
    rw [ob_of h.q10, ob_of h.l2, cbd_of h.z2, if_neg (nI_ge hk (by omega)), ob_of h.q10, ob_of h.l2, cbd_of (h.g2 hk), ob_of (h.c4 (h.odl i hk)), ob_of (h.t2 (h.odl i hk)), hS.e1, bnd_eq, bnd_eq, nI_1, nI_add]
    exact hi
theorem PRP.a20 {S : sM} {Y : Nat → Nat → Int32} {od : Nat → Nat} {nA : Nat} {mx : Int32} (h : PRP S Y od nA mx) (hS : OKS S) : nA ≤ 20 := by
  have h20 := hS.t20
  by_cases c : nA ≤ 20
  · exact c
  · have h1 := h.ord.lt (k := 20) (by omega)
    omega
theorem maxN_0 (f : Nat → Nat) (hf : ∀ i, f i = 0) : ∀ n, maxN f n = 0
  | 0 => rfl
  | n + 1 => by unfold maxN; rw [maxN_0 f hf n, hf n]; rfl
theorem sumN_0 (f : Nat → Nat) (hf : ∀ i, f i = 0) : ∀ n, sumN f n = 0
  | 0 => rfl
  | n + 1 => by unfold sumN; rw [sumN_0 f hf n, hf n]
theorem a_count (b : Nat) (a : Int32) : Agr b (fun w => fN_count b a w) (fun S => gM_count a S) := by
  refine Agr.same fun w S hi => ?_
  obtain ⟨X, cd, el, tl, Y, V, od, nA, mx, rfl, hr, hS, hG, hP, hR⟩ := hi
  show ∃ r, gM_count a S = _ ∧ fN_count (X 0 0) a w = _
  have h20 := hS.t20
  have hL := Lp_lives hS
  unfold gM_count fN_count
  by_cases c0 : a = 0
  · exact ⟨S 6 0, by rw [if_pos c0, bnd_eq], by rw [if_pos c0, ob_of hr.q00, ob_of hr.l0, cbd_of hr.z0, hS.e6]⟩
  · rw [if_neg c0, if_neg c0]
    by_cases c1 : a = 1
    · exact ⟨S 14 0, by rw [if_pos c1, bnd_eq], by rw [if_pos c1, ob_of hr.q01, ob_of hr.l1, cbd_of hr.z1, hS.e14]⟩
    · rw [if_neg c1, if_neg c1]
      by_cases c2 : a = 2
      · rw [if_pos c2, if_pos c2, bnd_eq, ob_of hr.i04]
        by_cases p : S 15 0 = 0
        · exact ⟨0, by rw [if_pos p], by rw [if_pos p]⟩
        · exact ⟨1, by rw [if_neg p], by rw [if_neg p]⟩
      · rw [if_neg c2, if_neg c2]
        by_cases c3 : a = 3
        · exact ⟨S 18 0, by rw [if_pos c3, bnd_eq], by rw [if_pos c3, ob_of hr.i05]⟩
        · rw [if_neg c3, if_neg c3]
          by_cases c4 : a = 4
          · rw [if_pos c4, if_pos c4, ob_of hr.i04]
            rcases hS.pr with p | p
            · rw [Lp0 p] at hL
              refine ⟨0, ?_, by rw [if_pos p]⟩
              rw [cbd_of (g_arena hS hL (fun t _ q => absurd q Bool.false_ne_true)), maxN_0 (arF S fun _ => false) (fun i => rfl)]
              rfl
            · have hp := hP p
              rw [Lp1 p] at hL
              refine ⟨mx, ?_, ?_⟩
              · rw [cbd_of (g_arena hS hL hp.h16), hp.mxx]
              · rw [if_neg (by rw [p]; decide), ob_of hr.q03, ob_of hr.i11]
          · rw [if_neg c4, if_neg c4]
            by_cases c5 : a = 5
            · rw [if_pos c5, if_pos c5, ob_of hr.i04]
              rcases hS.pr with p | p
              · rw [Lp0 p] at hL
                refine ⟨0, ?_, by rw [if_pos p]⟩
                refine (count_loop hS hL (N S 6 0) 0 FU (by omega) (by unfold FU; omega)).trans ?_
                rw [sumN_0 (lnF S fun _ => false) (fun i => rfl)]
                rfl
              · have hp := hP p
                have hA := hp.a20 hS
                rw [Lp1 p] at hL
                refine ⟨nI (sumN (fun k => N S 1 (od k)) nA), ?_, ?_⟩
                · refine (count_loop hS hL (N S 6 0) 0 FU (by omega) (by unfold FU; omega)).trans ?_
                  rw [hp.sm]
                · have e : fA_sumOfLengths (X 1 0) w = some (nI (sumN (fun k => N S 1 (od k)) nA), w) := hr.sum_loop hS hA nA 0 FU (by omega) (by unfold FU; omega)
                  rw [if_neg (by rw [p]; decide), ob_of hr.q03, ob_of hr.r1, cbd_of e]
            · exact ⟨-1, by rw [if_neg c5], by rw [if_neg c5]⟩
