/-! prepare: THE REFERENCE'S SIDE, AND BOTH -/
theorem ORD.cong {S S' : sM} {L : Nat → Bool} {od : Nat → Nat} {nA : Nat} (h : ORD S L od nA) (h1 : S' 1 = S 1) (h6 : S' 6 = S 6) : ORD S' L od nA := by
  have n1 : ∀ i, N S' 1 i = N S 1 i := fun i => by unfold N; rw [h1]
  have n6 : N S' 6 0 = N S 6 0 := by unfold N; rw [h6]
  refine ⟨fun t => ?_, fun k => ?_⟩
  · rw [n6, n1, bf_cong h1 h6]; exact h.p1 t
  · rw [n6, n1, bf_cong h1 h6]; exact h.p2 k
theorem bfP00 {S : sM} (hS : OKS S) {L : Nat → Bool} {u : Nat} (hu : u < N S 6 0) : bfP S L 0 0 u = L u := by
  have := hS.ln1 u hu
  unfold bfP
  have e : decide (0 < N S 1 u) = true := decide_eq_true (by omega)
  rw [e]
  simp
theorem LO.ord {S : sM} {Y : Nat → Nat → Int32} {od : Nat → Nat} {nA : Nat} {mx : Int32} (h : LO S Y od nA mx 0 0) (hS : OKS S) : ORD S (lv S) od nA := by
  refine ⟨fun t ht q => h.p1 t ht (by rw [bfP00 hS ht]; exact q), fun k hk => ?_⟩
  obtain ⟨a1, a2, a3⟩ := h.p2 k hk
  exact ⟨a1, bfP_lv a2, a3⟩
/-- the reference's array of who lies where in the order -/
def paF (od : Nat → Nat) (nA k : Nat) : Int32 := if k < nA then nI (od k) else -1
def sameB (S S' : sM) : Prop := ∀ j, j ≠ 15 → j ≠ 16 → j ≠ 17 → S' j = S j
section PREP
variable {S : sM} {Y : Nat → Nat → Int32} {od : Nat → Nat} {nA : Nat} {mx : Int32}
theorem sB_lv {S' : sM} (h : sameB S S') : lv S' = lv S := lv_cong (h 0 (by omega) (by omega) (by omega)) (h 12 (by omega) (by omega) (by omega)) (h 14 (by omega) (by omega) (by omega))
theorem sB_bgn {S' : sM} (h : sameB S S') (t : Nat) : bgn S' t = bgn S t := bgn_cong (h 0 (by omega) (by omega) (by omega)) (h 12 (by omega) (by omega) (by omega)) (h 14 (by omega) (by omega) (by omega)) t
theorem sB_edn {S' : sM} (h : sameB S S') (t : Nat) : edn S' t = edn S t := edn_cong (h 0 (by omega) (by omega) (by omega)) (h 3 (by omega) (by omega) (by omega)) (h 10 (by omega) (by omega) (by omega)) (h 11 (by omega) (by omega) (by omega)) (h 12 (by omega) (by omega) (by omega)) (h 14 (by omega) (by omega) (by omega)) t
theorem sB_N {S' : sM} (h : sameB S S') (j i : Nat) (h15 : j ≠ 15) (h16 : j ≠ 16) (h17 : j ≠ 17) : N S' j i = N S j i := by
  unfold N
  rw [h j h15 h16 h17]
theorem sB_ok {S' : sM} (h : sameB S S') (hS : OKS S) (hg : ∀ o, o < N S 14 0 → flt S o = 0) (h15 : S' 15 0 = 1) (h18 : S 18 0 = -1) : OKS S' := by
  have nj : ∀ j i, j ≠ 15 → j ≠ 16 → j ≠ 17 → N S' j i = N S j i := fun j i => sB_N h j i
  have n6 := nj 6 0 (by omega) (by omega) (by omega)
  have n14 := nj 14 0 (by omega) (by omega) (by omega)
  refine ⟨fun j i hj => ?_, by rw [n6]; exact hS.t20, by rw [n14]; exact hS.o14, fun t ht => ?_, fun t ht => ?_, fun t ht => ?_, fun t ht hz => ?_, ?_, fun t ht => ?_, fun t j ht hj => ?_, ?_, ?_, ?_, fun i => ?_, fun o ho => ?_, Or.inr h15, ?_, fun _ o ho => ?_⟩
  · rw [h j (by omega) (by omega) (by omega)]
    exact hS.nn j i hj
  · rw [n6] at ht
    rw [nj 0 t (by omega) (by omega) (by omega)]; exact hS.kdl t ht
  · rw [n6] at ht
    rw [nj 1 t (by omega) (by omega) (by omega)]; exact hS.ln1 t ht
  · rw [n6] at ht
    rw [nj 1 t (by omega) (by omega) (by omega)]; exact hS.ln64 t ht
  · rw [n6] at ht
    rw [nj 0 t (by omega) (by omega) (by omega)] at hz
    rw [nj 1 t (by omega) (by omega) (by omega)]; exact hS.ln16 t ht hz
  · rw [h 3 (by omega) (by omega) (by omega)]; exact hS.kp
  · rw [n6] at ht
    rw [h 3 (by omega) (by omega) (by omega)]; exact hS.kz t ht
  · rw [n6] at ht
    rw [h 4 (by omega) (by omega) (by omega)]; exact hS.gz t j ht hj
  · rw [h 4 (by omega) (by omega) (by omega)]; exact hS.by4
  · rw [h 5 (by omega) (by omega) (by omega)]; exact hS.by5
  · rw [h 7 (by omega) (by omega) (by omega)]; exact hS.mp
  · rw [nj 8 i (by omega) (by omega) (by omega)]; exact hS.sh i
  · rw [n14] at ho
    rw [n6, nj 9 o (by omega) (by omega) (by omega), nj 10 o (by omega) (by omega) (by omega), nj 11 o (by omega) (by omega) (by omega), nj 12 o (by omega) (by omega) (by omega), nj 13 o (by omega) (by omega) (by omega)]
    exact hS.opk o ho
  · rw [h 18 (by omega) (by omega) (by omega)]; exact Or.inl h18
  · rw [n14] at ho
    rw [flt_cong (S := S) (fun j hj => h j (by omega) (by omega) (by omega))]
    exact hg o ho
theorem g_place1 (hS : OKS S) (hg : ∀ o, o < N S 14 0 → flt S o = 0) (h18 : S 18 0 = -1) (ho : ORD S (lv S) od nA) {S1 : sM} (h1 : sameB S S1) (h15 : S1 15 0 = 1) : ∀ e i fu (f : Nat → Int32), i + e = 20 → e < fu → (∀ k, k < i → f k = paF od nA k) → ∃ f' : Nat → Int32, gM_prepare_l93 fu (nI i) (sUp S1 17 f) = gM_prepare_l118 FU 0 (sUp S1 17 f') ∧ ∀ k, k < 20 → f' k = paF od nA k := by
  intro e
  induction e with
  | zero =>
    intro i fu f he h2 h3
    obtain ⟨fu, rfl⟩ : ∃ k, fu = k + 1 := ⟨fu - 1, by omega⟩
    refine ⟨f, ?_, fun k hk => h3 k (by omega)⟩
    rw [gM_prepare_l93_s]
    unfold gM_prepare_b93
    rw [if_pos (show (20 : Int32) ≤ nI i from (nI_le (by omega) (by omega) : nI 20 ≤ nI i))]
  | succ e ih =>
    intro i fu f he h2 h3
    obtain ⟨fu, rfl⟩ : ∃ k, fu = k + 1 := ⟨fu - 1, by omega⟩
    have hb : sameB S (sUp S1 17 f) := fun j j15 j16 j17 => by rw [sUp_n _ _ j17]; exact h1 j j15 j16 j17
    have hO := sB_ok hb hS hg (show sUp S1 17 f 15 0 = 1 from h15) h18
    have hL : ∀ t, t < N (sUp S1 17 f) 6 0 → gM_lives (nI t) (sUp S1 17 f) = some (if lv S t = true then 1 else 0, sUp S1 17 f) := fun t ht => by
      rw [g_lives hO ht h15, sB_lv hb]
    have hord : ORD (sUp S1 17 f) (lv S) od nA := ho.cong (hb 1 (by omega) (by omega) (by omega)) (hb 6 (by omega) (by omega) (by omega))
    have s1 := g_placed hO hL hord (n := i) (by omega)
    obtain ⟨f', q1, q2⟩ := ih (i + 1) fu (upd f i (paF od nA i)) (by omega) (by omega) (fun k hk => by
      by_cases c : k = i
      · rw [c, pk_us]
      · rw [pk_un c]; exact h3 k (by omega))
    refine ⟨f', ?_, q2⟩
    have w1 : wrS (sUp S1 17 f) 17 (nI i) (vp_nar .int (if i < nA then nI (od i) else -1)) = some (sUp S1 17 (upd f i (paF od nA i))) := by
      rw [wrS_in (show i < lenM 17 by show i < 20; omega) (by decide), nar_int, sUp_u, sUp_s]
      rfl
    rw [gM_prepare_l93_s]
    unfold gM_prepare_b93
    rw [if_neg (show ¬ (20 : Int32) ≤ nI i from (nI_ge (by omega) (by omega) : ¬ nI 20 ≤ nI i)), cbd_of s1, ob_of w1, bnd_eq, nI_1]
    exact q1
theorem g_apart_loop (hS : OKS S) (hL : LO S Y od nA mx 0 0) {S3 : sM} (hb : sameB S S3) (h3 : OKS S3) (h17 : ∀ k, k < 20 → S3 17 k = paF od nA k) {n t g : Nat} (hn : n ≤ nA) (ht : t < N S 6 0) (hg : g ≤ 400) (h16 : ∀ q, q < n → S3 16 (od q) = nI (P0 Y (od q))) : ∀ e k fu, k + e = n → e < fu → (∀ q, q < k → clash S (P0 Y) t g (od q) = false) → gM_apart_l3 fu (nI t) (nI g) (nI n) (nI k) S3 = some (if free S (P0 Y) od t g n = true then 1 else 0, S3) := by
  have hA := hL.a20 hS
  have h20 := hS.t20
  intro e
  induction e with
  | zero =>
    intro k fu he h2 hc
    obtain ⟨fu, rfl⟩ : ∃ k, fu = k + 1 := ⟨fu - 1, by omega⟩
    rw [gM_apart_l3_s]
    unfold gM_apart_b3
    rw [if_pos (nI_le (by omega) (by omega)), if_pos (free_all (fun q hq => hc q (by omega)))]
  | succ e ih =>
    intro k fu he h2 hc
    obtain ⟨fu, rfl⟩ : ∃ k, fu = k + 1 := ⟨fu - 1, by omega⟩
    have hk : k < nA := by omega
    have hkn : k < n := by omega
    obtain ⟨a1, a2, -⟩ := hL.pl k hk
    obtain ⟨b1, b2, -⟩ := hL.p2 k hk
    have lt64 := hS.ln64 t ht
    have lu64 := hS.ln64 _ b1
    have nx : clash S (P0 Y) t g (od k) = false → gM_apart_l3 fu (nI t) (nI g) (nI n) (nI (k + 1)) S3 = some (if free S (P0 Y) od t g n = true then 1 else 0, S3) := fun hcl => ih (k + 1) fu (by omega) (by omega) (fun q hq => by
      by_cases z : q = k
      · rw [z]; exact hcl
      · exact hc q (by omega))
    have r17 : rdS S3 17 (nI k) = some (nI (od k)) := by
      rw [rd20 (show k < 20 by omega) (by omega), h17 k (by omega)]
      unfold paF
      rw [if_pos hk]
    have r16 : rdS S3 16 (nI (od k)) = some (nI (P0 Y (od k))) := by rw [rd20 (show od k < 20 by omega) (by omega), h16 k hkn]
    have r1 : ∀ u, u < N S 6 0 → rdS S3 1 (nI u) = some (nI (N S 1 u)) := fun u hu => by
      rw [rd20 (show u < 20 by omega) (by omega), h3.e1, sB_N hb 1 u (by omega) (by omega) (by omega)]
    rw [gM_apart_l3_s]
    unfold gM_apart_b3 gM_apart_b51
    rw [if_neg (nI_ge hkn (by omega)), ob_of r17, cbd_of (g_begin h3 (show t < 20 by omega)), cbd_of (g_end h3 (show od k < 20 by omega)), sB_bgn hb, sB_edn hb]
    by_cases c1 : edn S (od k) < bgn S t
    · rw [if_pos c1, if_pos rfl, bnd_eq, nI_1]
      refine nx ?_
      unfold clash
      simp [c1]
    · rw [if_neg c1, cbd_of (g_begin h3 (show od k < 20 by omega)), cbd_of (g_end h3 (show t < 20 by omega)), sB_bgn hb, sB_edn hb]
      by_cases c2 : edn S t < bgn S (od k)
      · rw [if_pos c2, if_pos rfl, bnd_eq, nI_1]
        refine nx ?_
        unfold clash
        simp [c2]
      · rw [if_neg c2, if_neg i10, ob_of r16, ob_of (r1 _ b1), nI_add]
        by_cases c3 : P0 Y (od k) + N S 1 (od k) ≤ g
        · rw [if_pos (nI_le c3 (by omega)), bnd_eq, nI_1]
          refine nx ?_
          unfold clash
          rw [decide_eq_false (by omega)]
          rfl
        · rw [if_neg (nI_ge (by omega) (by omega)), ob_of r16, ob_of (r1 t ht), nI_add]
          by_cases c4 : g + N S 1 t ≤ P0 Y (od k)
          · rw [if_pos (nI_le c4 (by omega)), bnd_eq, nI_1]
            refine nx ?_
            unfold clash
            rw [decide_eq_false (show ¬ P0 Y (od k) < g + N S 1 t by omega)]
            simp
          · have hcl : clash S (P0 Y) t g (od k) = true := by
              unfold clash
              rw [decide_eq_true (show g < P0 Y (od k) + N S 1 (od k) by omega), decide_eq_true (show P0 Y (od k) < g + N S 1 t by omega), decide_eq_false c1, decide_eq_false c2]
              rfl
            rw [if_neg (nI_ge (by omega) (by omega)), free_not hcl hkn]
            rfl
theorem g_at_loop (hS : OKS S) (hL : LO S Y od nA mx 0 0) {S3 : sM} (hb : sameB S S3) (h3 : OKS S3) (h17 : ∀ k, k < 20 → S3 17 k = paF od nA k) (rec118 : Int32 → sM → Option (Int32 × sM)) {n m : Nat} (hn : n < nA) (hm : 4 * m ≤ 304) (hf : free S (P0 Y) od (od n) (4 * m) n = true) (hl : ∀ m', m' < m → free S (P0 Y) od (od n) (4 * m') n = false) (h16 : ∀ q, q < n → S3 16 (od q) = nI (P0 Y (od q))) : ∀ e k fu, k + e = m → e < fu → gM_prepare_l135 rec118 fu (nI n) (nI (4 * k)) S3 = gM_prepare_b163 rec118 (nI n) (nI (4 * m)) S3 := by
  have hA := hL.a20 hS
  have h20 := hS.t20
  obtain ⟨b1, b2, -⟩ := hL.p2 n hn
  have r17 : rdS S3 17 (nI n) = some (nI (od n)) := by
    rw [rd20 (show n < 20 by omega) (by omega), h17 n (by omega)]
    unfold paF
    rw [if_pos hn]
  intro e
  induction e with
  | zero =>
    intro k fu he h2
    obtain ⟨fu, rfl⟩ : ∃ k, fu = k + 1 := ⟨fu - 1, by omega⟩
    have e : k = m := by omega
    subst e
    have s1 : gM_apart (nI (od n)) (nI (4 * k)) (nI n) S3 = _ := g_apart_loop hS hL hb h3 h17 (g := 4 * k) (show n ≤ nA by omega) b1 (by omega) h16 n 0 FU (by omega) (by unfold FU; omega) (fun q hq => absurd hq (Nat.not_lt_zero q))
    rw [gM_prepare_l135_s]
    unfold gM_prepare_b135
    rw [if_neg (show ¬ (400 : Int32) ≤ nI (4 * k) from (nI_ge (by omega) (by omega) : ¬ nI 400 ≤ nI (4 * k))), ob_of r17, cbd_of s1, hf, if_pos rfl, if_neg i10]
  | succ e ih =>
    intro k fu he h2
    obtain ⟨fu, rfl⟩ : ∃ k, fu = k + 1 := ⟨fu - 1, by omega⟩
    have hi := ih (k + 1) fu (by omega) (by omega)
    have s1 : gM_apart (nI (od n)) (nI (4 * k)) (nI n) S3 = _ := g_apart_loop hS hL hb h3 h17 (g := 4 * k) (show n ≤ nA by omega) b1 (by omega) h16 n 0 FU (by omega) (by unfold FU; omega) (fun q hq => absurd hq (Nat.not_lt_zero q))
    rw [gM_prepare_l135_s]
    unfold gM_prepare_b135
    rw [if_neg (show ¬ (400 : Int32) ≤ nI (4 * k) from (nI_ge (by omega) (by omega) : ¬ nI 400 ≤ nI (4 * k))), ob_of r17, cbd_of s1, hl k (by omega), if_neg Bool.false_ne_true, if_pos rfl, bnd_eq, show nI (4 * k) + 4 = nI (4 * (k + 1)) from (nI_add (4 * k) 4)]
    exact hi
theorem g_place2 (hS : OKS S) (hg : ∀ o, o < N S 14 0 → flt S o = 0) (h18 : S 18 0 = -1) (hL : LO S Y od nA mx 0 0) {S2 : sM} (h2b : sameB S S2) (h15 : S2 15 0 = 1) (h17 : ∀ k, k < 20 → S2 17 k = paF od nA k) : ∀ e n fu (g : Nat → Int32), n + e = 20 → e < fu → (∀ q, q < n → q < nA → g (od q) = nI (P0 Y (od q))) → ∃ g' : Nat → Int32, gM_prepare_l118 fu (nI n) (sUp S2 16 g) = cbd (gM_arena (sUp S2 16 g')) (fun x S' => some (x, S')) ∧ ∀ q, q < nA → g' (od q) = nI (P0 Y (od q)) := by
  have hA := hL.a20 hS
  have h20 := hS.t20
  intro e
  induction e with
  | zero =>
    intro n fu g he h2 h3
    obtain ⟨fu, rfl⟩ : ∃ k, fu = k + 1 := ⟨fu - 1, by omega⟩
    refine ⟨g, ?_, fun q hq => h3 q (by omega) hq⟩
    rw [gM_prepare_l118_s]
    unfold gM_prepare_b118
    rw [if_pos (show (20 : Int32) ≤ nI n from (nI_le (by omega) (by omega) : nI 20 ≤ nI n))]
  | succ e ih =>
    intro n fu g he h2 h3
    obtain ⟨fu, rfl⟩ : ∃ k, fu = k + 1 := ⟨fu - 1, by omega⟩
    have hb : sameB S (sUp S2 16 g) := fun j j15 j16 j17 => by rw [sUp_n _ _ j16]; exact h2b j j15 j16 j17
    have hO := sB_ok hb hS hg (show sUp S2 16 g 15 0 = 1 from h15) h18
    have k17 : ∀ k, k < 20 → sUp S2 16 g 17 k = paF od nA k := fun k hk => h17 k hk
    have r17 : rdS (sUp S2 16 g) 17 (nI n) = some (paF od nA n) := by rw [rd20 (show n < 20 by omega) (by omega), k17 n (by omega)]
    by_cases c : n < nA
    · obtain ⟨a1, a2, m, a3, a4, a5⟩ := hL.pl n c
      obtain ⟨b1, b2, b3⟩ := hL.p2 n c
      have epa : paF od nA n = nI (od n) := if_pos c
      have hne : ∀ q, q < nA → q ≠ n → od q ≠ od n := by
        intro q hq hqn z
        have b4 := (hL.p2 q hq).2.2
        rw [z, b3] at b4
        exact hqn b4.symm
      have s1 := g_at_loop hS hL hb hO k17 (gM_prepare_l118 fu) c (m := m) (by omega) a4 a5 (fun q hq => by
        rw [sUp_s]
        exact h3 q hq (by omega)) m 0 FU (by omega) (by unfold FU; omega)
      obtain ⟨g', q1, q2⟩ := ih (n + 1) fu (upd g (od n) (nI (P0 Y (od n)))) (by omega) (by omega) (fun q hq hqA => by
        by_cases z : q = n
        · rw [z, pk_us]
        · rw [pk_un (hne q hqA z)]
          exact h3 q (by omega) hqA)
      refine ⟨g', ?_, q2⟩
      have w1 : wrS (sUp S2 16 g) 16 (nI (od n)) (vp_nar .int (nI (4 * m))) = some (sUp S2 16 (upd g (od n) (nI (P0 Y (od n))))) := by
        rw [wrS_in (show od n < lenM 16 by show od n < 20; omega) (by decide), nar_int, sUp_u, sUp_s, a3]
      rw [gM_prepare_l118_s]
      unfold gM_prepare_b118
      rw [if_neg (show ¬ (20 : Int32) ≤ nI n from (nI_ge (by omega) (by omega) : ¬ nI 20 ≤ nI n)), ob_of r17, epa, if_neg (nI_pos (by omega))]
      refine s1.trans ?_
      unfold gM_prepare_b163
      rw [ob_of r17, epa, ob_of w1, bnd_eq, nI_1]
      exact q1
    · have epa : paF od nA n = -1 := if_neg c
      obtain ⟨g', q1, q2⟩ := ih (n + 1) fu g (by omega) (by omega) (fun q hq hqA => h3 q (by omega) hqA)
      refine ⟨g', ?_, q2⟩
      rw [gM_prepare_l118_s]
      unfold gM_prepare_b118
      rw [if_neg (show ¬ (20 : Int32) ≤ nI n from (nI_ge (by omega) (by omega) : ¬ nI 20 ≤ nI n)), ob_of r17, epa, if_pos (by decide), bnd_eq, nI_1]
      exact q1
end PREP
theorem a_prepare (b : Nat) : Agr b (fun w => fN_prepare b w) (fun S => gM_prepare S) := by
  intro w S hi
  have hi0 := hi
  obtain ⟨X, cd, el, tl, Y, V, od, nA, mx, rfl, hr, hS, hG, hP, hR⟩ := hi
  show ∃ r S' w', gM_prepare S = _ ∧ fN_prepare (X 0 0) w = _ ∧ _
  have h20 := hS.t20
  have h14 := hS.o14
  unfold gM_prepare fN_prepare
  rw [bnd_eq, ob_of hr.i04]
  rcases hS.pr with p | p
  · rw [if_pos p, if_pos p, ob_of hr.r0]
    have h18 := notrun hS p
    rcases fault1 hr hS (N S 14 0) 0 FU (by omega) (by unfold FU; omega) (fun o ho => absurd ho (Nat.not_lt_zero o)) with ⟨hg, f1, f2⟩ | ⟨r, r0, f1, f2⟩
    · rcases fault2 hr hS (N S 6 0) 0 FU (by omega) (by unfold FU; omega) with ⟨e1, e2⟩ | ⟨e1, e2⟩
      · have ff : fN_firstFault (X 0 0) w = some (0, w) := f1.trans e1
        obtain ⟨w1, Y1, a1, a2, a3⟩ := lives hr hS hg
        obtain ⟨w2, cd2, el2, tl2, Y2, od2, nA2, mx2, b1, b2, b3⟩ := layAll a2 hS a3
        have hA := b3.a20 hS
        -- the reference
        obtain ⟨S1, hS1⟩ : ∃ S1, S1 = sUp S 15 (upd (S 15) 0 1) := ⟨_, rfl⟩
        have z15 : S1 15 0 = 1 := by rw [hS1]; rfl
        have s1b : sameB S S1 := fun j j15 _ _ => by rw [hS1, sUp_n _ _ j15]
        have pz : ptZ S 15 1 = some S1 := by unfold ptZ; rw [if_pos (Or.inr rfl), hS1]
        have hord := b3.ord hS
        obtain ⟨f', q1, q2⟩ := g_place1 hS hg h18 hord s1b z15 20 0 FU (S1 17) (by omega) (by unfold FU; omega) (fun k hk => absurd hk (Nat.not_lt_zero k))
        rw [sUp_id] at q1
        obtain ⟨S2, hS2⟩ : ∃ S2, S2 = sUp S1 17 f' := ⟨_, rfl⟩
        rw [← hS2] at q1
        have s2b : sameB S S2 := fun j j15 j16 j17 => by rw [hS2, sUp_n _ _ j17]; exact s1b j j15 j16 j17
        have y15 : S2 15 0 = 1 := by rw [hS2]; exact z15
        have y17 : ∀ k, k < 20 → S2 17 k = paF od2 nA2 k := fun k hk => by rw [hS2, sUp_s]; exact q2 k hk
        obtain ⟨g', q3, q4⟩ := g_place2 hS hg h18 b3 s2b y15 y17 20 0 FU (S2 16) (by omega) (by unfold FU; omega) (fun q hq => absurd hq (Nat.not_lt_zero q))
        rw [sUp_id] at q3
        obtain ⟨S3, hS3⟩ : ∃ S3, S3 = sUp S2 16 g' := ⟨_, rfl⟩
        rw [← hS3] at q3
        have s3b : sameB S S3 := fun j j15 j16 j17 => by rw [hS3, sUp_n _ _ j16]; exact s2b j j15 j16 j17
        have x15 : S3 15 0 = 1 := by rw [hS3]; exact y15
        have hO3 := sB_ok s3b hS hg x15 h18
        have eL := sB_lv s3b
        have n6 : N S3 6 0 = N S 6 0 := sB_N s3b 6 0 (by omega) (by omega) (by omega)
        have n1 : ∀ u, N S3 1 u = N S 1 u := fun u => sB_N s3b 1 u (by omega) (by omega) (by omega)
        have pla : ∀ t, t < N S 6 0 → lv S t = true → Y2 10 t = nI (P0 Y2 t) ∧ P0 Y2 t ≤ 320 ∧ S3 16 t = nI (P0 Y2 t) := by
          intro t ht hv
          obtain ⟨c1, c2⟩ := hord.p1 t ht hv
          obtain ⟨d1, d2, -⟩ := b3.pl _ c1
          have d3 := q4 _ c1
          rw [c2] at d1 d2 d3
          exact ⟨d1, by omega, by rw [hS3, sUp_s]; exact d3⟩
        have hL3 : ∀ t, t < N S3 6 0 → gM_lives (nI t) S3 = some (if lv S t = true then 1 else 0, S3) := fun t ht => by rw [g_lives hO3 ht x15, eL]
        have h16 : ∀ t, t < N S3 6 0 → lv S t = true → ¬ S3 16 t < 0 ∧ N S3 16 t ≤ 400 := by
          intro t ht hv
          rw [n6] at ht
          obtain ⟨d1, d2, d3⟩ := pla t ht hv
          refine ⟨by rw [d3]; exact nI_pos (by omega), ?_⟩
          rw [N_of d3 (by omega)]
          omega
        have ga := g_arena hO3 hL3 h16
        have emx : nI (maxN (arF S3 (lv S)) (N S3 6 0)) = mx2 := by
          rw [b3.mxx, n6]
          congr 1
          refine maxN_cong (fun u hu => ?_)
          unfold arF
          rw [bfP00 hS hu]
          by_cases hv : lv S u = true
          · rw [if_pos hv, if_pos hv, N_of (pla u hu hv).2.2 (by have := (pla u hu hv).2.1; omega), n1]
          · rw [if_neg hv, if_neg hv]
        rw [emx] at ga
        -- the class
        have r1 := b2.setN (k := 4) (j := 15) (Or.inl ⟨rfl, rfl⟩) 1 rfl
        have r2 := r1.congS (S' := S3) (fun j _ _ j16 j17 => by rw [hS3, sUp_n _ _ j16, hS2, sUp_n _ _ j17, hS1])
        refine ⟨mx2, S3, _, ?_, ?_, X, cd2, el2, tl2, Y2, V, od2, nA2, mx2, rfl, r2, hO3, ?_, fun _ => ?_, ?_⟩
        · refine f2.trans (e2.trans ?_)
          unfold gM_prepare_b86
          rw [ob_of pz]
          refine q1.trans (q3.trans ?_)
          rw [cbd_of ga]
        · rw [cbd_of ff, if_pos rfl, ob_of hr.r0, cbd_of a1, ob_of a2.q03, ob_of a2.q00, ob_some, ob_of a2.r1, cbd_of b1, ob_of (pZ_in b2.net (Nat.le_of_ble_eq_true rfl) (Or.inr rfl)), ob_of r1.q03, ob_of r1.i11]
        · intro t ht k2 j hj
          rw [n6] at ht
          rw [sB_N s3b 0 t (by omega) (by omega) (by omega)] at k2
          rw [n1] at hj
          rw [s3b 4 (by omega) (by omega) (by omega)]
          exact hG t ht k2 j hj
        · refine ⟨fun t ht => ?_, fun t ht hv => ?_, fun t ht hv => ?_, fun t ht hv => ?_, fun t ht hv => ?_, ?_, ?_, ?_⟩
          · rw [n6] at ht
            rw [eL]; exact (b3.yy t ht).1
          · rw [n6] at ht
            rw [eL] at hv
            rw [sB_bgn s3b]; exact ((b3.yy t ht).2 hv).1
          · rw [n6] at ht
            rw [eL] at hv
            rw [sB_edn s3b]; exact ((b3.yy t ht).2 hv).2
          · rw [n6] at ht
            rw [eL] at hv
            rw [(pla t ht hv).2.2]; exact (pla t ht hv).1
          · rw [eL] at hv
            exact h16 t ht hv
          · rw [eL]
            exact hord.cong (s3b 1 (by omega) (by omega) (by omega)) (s3b 6 (by omega) (by omega) (by omega))
          · rw [eL, n6]
            have e5 := b3.sm
            rw [sumN_cong (f := lnF S3 (lv S)) (f' := fun u => if bfP S (lv S) 0 0 u = true then N S 1 u else 0) (fun u hu => by
              unfold lnF
              rw [bfP00 hS hu, n1])] at e5
            rw [← e5]
            exact sumN_cong (fun k _ => n1 _)
          · rw [eL]; exact emx.symm
        · intro d hd q
          rw [s3b 18 (by omega) (by omega) (by omega)] at q
          rw [sB_N s3b 14 0 (by omega) (by omega) (by omega)] at hd
          exact (m1_ne hS hd (h18.symm.trans q)).elim
      · have ff : fN_firstFault (X 0 0) w = some (-1000, w) := f1.trans e1
        refine ⟨-1000, S, w, f2.trans e2, ?_, hi0⟩
        rw [cbd_of ff, if_neg (by decide)]
    · have ff : fN_firstFault (X 0 0) w = some (r, w) := f1
      refine ⟨r, S, w, f2, ?_, hi0⟩
      rw [cbd_of ff, if_neg r0]
  · exact ⟨-3, S, w, by rw [if_neg (by rw [p]; decide)], by rw [if_neg (by rw [p]; decide)], hi0⟩
