/-! start -/
theorem sUp_u (S : sM) (j : Nat) (f g : Nat → Int32) : sUp (sUp S j f) j g = sUp S j g := by
  funext k
  unfold sUp
  by_cases c : k = j
  · rw [if_pos c, if_pos c]
  · rw [if_neg c, if_neg c, if_neg c]
theorem sUp_id (S : sM) (j : Nat) : sUp S j (S j) = S := by
  funext k
  unfold sUp
  by_cases c : k = j
  · rw [if_pos c, c]
  · rw [if_neg c]
theorem gstart_loop (S : sM) : ∀ d i fu (f : Nat → Int32), i + d = 1280 → d < fu → (∀ k, k < i → f k = S 4 k) → ∃ f' : Nat → Int32, gM_start_l12 fu (nI i) (sUp S 5 f) = gM_start_b37 (sUp S 5 f') ∧ (∀ k, k < 1280 → f' k = S 4 k) ∧ ∀ k, 1280 ≤ k → f' k = f k := by
  intro d
  induction d with
  | zero =>
    intro i fu f h1 h2 h3
    obtain ⟨fu, rfl⟩ : ∃ k, fu = k + 1 := ⟨fu - 1, by omega⟩
    rw [gM_start_l12_s]
    unfold gM_start_b12
    refine ⟨f, ?_, fun k hk => h3 k (by omega), fun k _ => rfl⟩
    rw [if_pos (show (1280 : Int32) ≤ nI i from (nI_le (by omega) (by omega) : nI 1280 ≤ nI i))]
  | succ d ih =>
    intro i fu f h1 h2 h3
    obtain ⟨fu, rfl⟩ : ∃ k, fu = k + 1 := ⟨fu - 1, by omega⟩
    obtain ⟨f', q1, q2, q3⟩ := ih (i + 1) fu (upd f i (S 4 i)) (by omega) (by omega) (fun k hk => by
      by_cases c : k = i
      · rw [c, pk_us]
      · rw [pk_un c]; exact h3 k (by omega))
    refine ⟨f', ?_, q2, fun k hk => by rw [q3 k hk, pk_un (by omega)]⟩
    rw [gM_start_l12_s]
    unfold gM_start_b12
    have r1 : rdS (sUp S 5 f) 4 (nI i) = some (S 4 i) := rd1280 (S := sUp S 5 f) (by omega) (by omega)
    have w1 : wrS (sUp S 5 f) 5 (nI i) (vp_nar .int (S 4 i)) = some (sUp S 5 (upd f i (S 4 i))) := by
      rw [wrS_in (show i < lenM 5 by show i < 1280; omega) (by decide), nar_int, sUp_u]
      rfl
    rw [if_neg (show ¬ (1280 : Int32) ≤ nI i from (nI_ge (by omega) (by omega) : ¬ nI 1280 ≤ nI i)), ob_of r1, ob_of w1, bnd_eq, nI_1]
    exact q1
theorem RC.take {w : cW} {S : sM} {X : Nat → Nat → Nat} {cd : Nat → Nat × Nat} {el : Nat → Nat} {tl : Nat → Nat} {Y : Nat → Nat → Int32} {V : Nat → Nat → Nat → Int32} {od : Nat → Nat} {nA : Nat} {mx : Int32} (h : RC w S X cd el tl Y V od nA mx) (hS : OKS S) {t : Nat} (ht : t < N S 6 0) : ∃ w' V', fT_takeGiven (X 4 t) w = some ((), w') ∧ RC w' S X cd el tl Y V' od nA mx ∧ w'.2 = w.2 ∧ (∀ k u, (k ≠ 6 ∨ u ≠ t) → V' k u = V k u) ∧ (N S 0 t = 1 → ∀ j, j < N S 1 t → V' 6 t j = V 5 t j) := by
  unfold fT_takeGiven
  rw [ob_of (h.t1 ht), hS.e0]
  by_cases c : N S 0 t = 1
  · have hc : cpI w (some (X 5 t)) 0 (some (X 6 t)) 0 (nI (N S 1 t)) = some (va_up w.1 (X 6 t) (some (iA (N S 1 t) (va_cpy (V 5 t) (V 6 t) 0 0 (N S 1 t)))), w.2) := by
      have h64 := hS.ln64 t ht
      unfold cpI
      rw [ob_of (cArr_in (h.giv t ht)), ob_of (cArr_in (h.cel t ht c))]
      dsimp only
      rw [nI_clamp (N_lt S 1 t), sb_cl0, if_pos ⟨rfl, rfl, by decide, by decide, nI_pos (N_lt S 1 t), by omega, by omega⟩]
    have h5 := h.t5 ht
    unfold clA at h5
    rw [if_pos c] at h5
    rw [if_pos ((Neq1 S 0 t).mpr c), ob_of (h.t4 ht), ob_of h5, ob_of (h.t2 ht), hS.e1, ob_of hc]
    refine ⟨_, _, rfl, h.setV (k := 6) ht (Or.inr ⟨rfl, c⟩) _, rfl, fun k u q => upV_n _ _ q, fun _ j hj => ?_⟩
    rw [upV_s, pk_cpy_in (Nat.zero_le _) (by omega), Nat.zero_add, Nat.sub_zero]
  · rw [if_neg (fun q => c ((Neq1 S 0 t).mp q))]
    exact ⟨w, V, rfl, h, rfl, fun _ _ _ => rfl, fun q => absurd q c⟩
theorem fstart_loop {S : sM} {X : Nat → Nat → Nat} {cd : Nat → Nat × Nat} {el : Nat → Nat} {tl : Nat → Nat} {Y : Nat → Nat → Int32} {od : Nat → Nat} {nA : Nat} {mx : Int32} (hS : OKS S) (V0 : Nat → Nat → Nat → Int32) : ∀ d i fu (w : cW) (V : Nat → Nat → Nat → Int32), RC w S X cd el tl Y V od nA mx → i + d = N S 6 0 → d < fu → (∀ u, V 5 u = V0 5 u) → (∀ t, t < i → N S 0 t = 1 → ∀ j, j < N S 1 t → V 6 t j = V0 5 t j) → ∃ w' V', fN_start_l12 (X 0 0) fu (nI i) w = fN_start_b43 (X 0 0) w' ∧ RC w' S X cd el tl Y V' od nA mx ∧ (∀ u, V' 5 u = V0 5 u) ∧ ∀ t, t < N S 6 0 → N S 0 t = 1 → ∀ j, j < N S 1 t → V' 6 t j = V0 5 t j := by
  have h20 := hS.t20
  intro d
  induction d with
  | zero =>
    intro i fu w V hr h1 h2 h3 h4
    obtain ⟨fu, rfl⟩ : ∃ k, fu = k + 1 := ⟨fu - 1, by omega⟩
    refine ⟨w, V, ?_, hr, h3, fun t ht => h4 t (by omega)⟩
    rw [fN_start_l12_s]
    unfold fN_start_b12
    rw [ob_of hr.q00, ob_of hr.l0, cbd_of hr.z0, if_pos (nI_le (by omega) (by omega))]
  | succ d ih =>
    intro i fu w V hr h1 h2 h3 h4
    obtain ⟨fu, rfl⟩ : ∃ k, fu = k + 1 := ⟨fu - 1, by omega⟩
    have hi : i < N S 6 0 := by omega
    obtain ⟨w1, V1, q1, q2, q3, q4, q5⟩ := hr.take hS hi
    obtain ⟨w', V', p1, p2, p3, p4⟩ := ih (i + 1) fu w1 V1 q2 (by omega) (by omega) (fun u => by rw [q4 5 u (by omega)]; exact h3 u) (fun t ht hk j hj => by
      by_cases c : t = i
      · subst c
        rw [q5 hk j hj, h3]
      · rw [q4 6 t (Or.inr c)]
        exact h4 t (by omega) hk j hj)
    refine ⟨w', V', ?_, p2, p3, p4⟩
    rw [fN_start_l12_s]
    unfold fN_start_b12
    rw [ob_of hr.q00, ob_of hr.l0, cbd_of hr.z0, if_neg (nI_ge hi (by omega)), ob_of hr.q00, ob_of hr.l0, cbd_of (hr.g0 hi), ob_of (hr.c4 hi), ob_of (hr.r4 hi), cbd_of q1, bnd_eq, nI_1]
    exact p1
theorem a_start (b : Nat) : Agr b (fun w => fN_start b w) (fun S => gM_start S) := by
  intro w S hi
  have hi0 := hi
  obtain ⟨X, cd, el, tl, Y, V, od, nA, mx, rfl, hr, hS, hG, hP, hR⟩ := hi
  show ∃ r S' w', gM_start S = _ ∧ fN_start (X 0 0) w = _ ∧ _
  have h20 := hS.t20
  unfold gM_start fN_start
  rw [bnd_eq, ob_of hr.i04]
  rcases hS.pr with p | p
  · exact ⟨-3, S, w, by rw [if_pos p], by rw [if_pos p], hi0⟩
  · rw [if_neg (by rw [p]; decide), if_neg (by rw [p]; decide)]
    obtain ⟨f', g1, g2, g3⟩ := gstart_loop S 1280 0 FU (S 5) (by omega) (by unfold FU; omega) (fun k hk => absurd hk (Nat.not_lt_zero k))
    rw [sUp_id] at g1
    obtain ⟨w1, V1, q1, q2, q3, q4⟩ := fstart_loop (X := X) (cd := cd) (el := el) (tl := tl) (Y := Y) (od := od) (nA := nA) (mx := mx) hS V (N S 6 0) 0 FU w V hr (by omega) (by unfold FU; omega) (fun _ => rfl) (fun t ht => absurd ht (Nat.not_lt_zero t))
    have r1 := (q2.congS (S' := sUp S 5 f') (fun j _ h5 _ _ => sUp_n _ _ h5))
    have r2 := r1.setN (k := 5) (j := 18) (Or.inr ⟨rfl, rfl⟩) 0 rfl
    refine ⟨nI (N S 14 0), _, _, g1.trans ?_, q1.trans ?_, X, cd, el, tl, Y, V1, od, nA, mx, rfl, r2, ?_, ?_, fun _ => (hP p).cong (fun j _ h5 h18 => by rw [sUp_n _ _ h18, sUp_n _ _ h5]), ?_⟩
    · unfold gM_start_b37
      rw [bnd_eq, bnd_eq]
      show some (S 14 0, _) = _
      rw [hS.e14]
      rfl
    · unfold fN_start_b43
      rw [ob_of (pI_in r1.net (Nat.le_of_ble_eq_true rfl)), ob_of r2.q01, ob_of r2.l1, cbd_of r2.z1]
      rfl
    · refine ⟨fun j i hj => ?_, hS.t20, hS.o14, hS.kdl, hS.ln1, hS.ln64, hS.ln16, hS.kp, hS.kz, hS.gz, hS.by4, fun k => ?_, hS.mp, hS.sh, hS.opk, hS.pr, Or.inr ⟨p, 0, Nat.zero_le _, rfl⟩, hS.gd⟩
      · rw [sUp_n _ _ (by omega), sUp_n _ _ (by omega)]
        exact hS.nn j i hj
      · show By (f' k)
        by_cases c : k < 1280
        · rw [g2 k c]; exact hS.by4 k
        · rw [g3 k (by omega)]; exact hS.by5 k
    · intro t ht k2 j hj
      show V1 5 t j = S 4 (t * 64 + j)
      rw [q3]
      exact hG t ht k2 j hj
    · intro d hd q
      have hd : d ≤ N S 14 0 := hd
      have h14 := hS.o14
      have q : (0 : Int32) = nI d := q
      have d0 : d = 0 := ((nI_eq (a := 0) (by omega) (by omega)).mp q).symm
      refine ⟨fun t ht h0 j hj => ?_, fun t ht h0 j hj => ?_, fun t ht h0 hm j hj => ?_⟩
      · have := at64 hS ht hj
        show f' (t * 64 + j) = S 4 (t * 64 + j)
        exact g2 _ this.2
      · have := at64 hS ht hj
        show V1 6 t j = f' (t * 64 + j)
        rw [g2 _ this.2, q4 t ht h0 j hj]
        have h0 : N S 0 t = 1 := h0
        exact hG t ht (by omega) j hj
      · rw [d0] at hm
        exact absurd hm (Nat.not_lt_zero _)
