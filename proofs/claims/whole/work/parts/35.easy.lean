/-! METHODS THAT ONLY READ, AND THE SMALL ONES -/
theorem sne (a : Nat) : ¬ (some a = none) := by simp
theorem i10 : ¬ (1 : Int32) = 0 := by decide
theorem idx (a : Int32) {n : Nat} (hn : n < 2 ^ 31) : (a < 0 ∨ nI n ≤ a) ∨ ∃ t, t < n ∧ a = nI t := by
  rcases pk_ix a hn with q | q | q
  · exact Or.inl (Or.inl q)
  · exact Or.inl (Or.inr q)
  · exact Or.inr q
/-- who lives, as the reference says it -/
def Lp (S : sM) : Nat → Bool := if S 15 0 = 1 then lv S else fun _ => false
theorem Lp1 {S : sM} (h : S 15 0 = 1) : Lp S = lv S := if_pos h
theorem Lp0 {S : sM} (h : S 15 0 = 0) : Lp S = fun _ => false := if_neg (by rw [h]; decide)
theorem Lp_lives {S : sM} (h : OKS S) : ∀ t, t < N S 6 0 → gM_lives (nI t) S = some (if Lp S t = true then 1 else 0, S) := by
  intro t ht
  rcases h.pr with c | c
  · rw [g_lives0 h (Or.inr c), Lp0 c]
    rfl
  · rw [g_lives h ht c, Lp1 c]
theorem a_offset (b : Nat) (a : Int32) : Agr b (fun w => fN_offset b a w) (fun S => gM_offset a S) := by
  refine Agr.same fun w S hi => ?_
  obtain ⟨X, cd, el, tl, Y, V, od, nA, mx, rfl, hr, hS, -, hP, -⟩ := hi
  show ∃ r, gM_offset a S = _ ∧ fN_offset (X 0 0) a w = _
  unfold gM_offset fN_offset
  rcases idx a (N_lt S 6 0) with c | ⟨t, ht, rfl⟩
  · rw [cbd_of (g_lives0 hS (Or.inl c)), ob_of hr.r0, cbd_of (hr.living0 (Or.inl c))]
    exact ⟨-1, rfl, rfl⟩
  · rcases hS.pr with p | p
    · rw [cbd_of (g_lives0 hS (Or.inr p)), ob_of hr.r0, cbd_of (hr.living0 (Or.inr p))]
      exact ⟨-1, rfl, rfl⟩
    · have hp := hP p
      have h20 := hS.t20
      have y7 := hp.y7 t ht
      rw [cbd_of (g_lives hS ht p), ob_of hr.r0]
      cases c : lv S t
      · rw [c] at y7
        rw [cbd_of (hr.living_0 ht p y7)]
        exact ⟨-1, rfl, rfl⟩
      · refine ⟨S 16 t, ?_, ?_⟩
        · rw [if_pos rfl, if_neg (by decide), ob_of (rd20 (show t < 20 by omega) (by omega))]
        · rw [cbd_of (hr.living_1 ht p (by rw [y7, c]; decide)), if_neg (by simp), ob_of (hr.t10 ht), hp.y10 t ht c]
theorem a_life (b : Nat) (a e : Int32) : Agr b (fun w => fN_life b a e w) (fun S => gM_life a e S) := by
  refine Agr.same fun w S hi => ?_
  obtain ⟨X, cd, el, tl, Y, V, od, nA, mx, rfl, hr, hS, -, hP, -⟩ := hi
  show ∃ r, gM_life a e S = _ ∧ fN_life (X 0 0) a e w = _
  unfold gM_life fN_life
  rcases idx a (N_lt S 6 0) with c | ⟨t, ht, rfl⟩
  · rw [cbd_of (g_lives0 hS (Or.inl c)), ob_of hr.r0, cbd_of (hr.living0 (Or.inl c))]
    exact ⟨-1000, rfl, rfl⟩
  · rcases hS.pr with p | p
    · rw [cbd_of (g_lives0 hS (Or.inr p)), ob_of hr.r0, cbd_of (hr.living0 (Or.inr p))]
      exact ⟨-1000, rfl, rfl⟩
    · have hp := hP p
      have h20 := hS.t20
      have y7 := hp.y7 t ht
      rw [cbd_of (g_lives hS ht p), ob_of hr.r0]
      cases c : lv S t
      · rw [c] at y7
        rw [cbd_of (hr.living_0 ht p y7)]
        exact ⟨-1000, rfl, rfl⟩
      · by_cases d : e = 0
        · refine ⟨bgn S t, ?_, ?_⟩
          · rw [if_pos rfl, if_neg (by decide), if_pos d, cbd_of (g_begin hS (by omega))]
          · rw [cbd_of (hr.living_1 ht p (by rw [y7, c]; decide)), if_neg (by simp), if_pos d, ob_of (hr.t8 ht), hp.y8 t ht c]
        · refine ⟨edn S t, ?_, ?_⟩
          · rw [if_pos rfl, if_neg (by decide), if_neg d, cbd_of (g_end hS (by omega))]
          · rw [cbd_of (hr.living_1 ht p (by rw [y7, c]; decide)), if_neg (by simp), if_neg d, ob_of (hr.t9 ht), hp.y9 t ht c]
theorem a_placed (b : Nat) (a : Int32) : Agr b (fun w => fN_placed b a w) (fun S => gM_placed a S) := by
  refine Agr.same fun w S hi => ?_
  obtain ⟨X, cd, el, tl, Y, V, od, nA, mx, rfl, hr, hS, -, hP, -⟩ := hi
  show ∃ r, gM_placed a S = _ ∧ fN_placed (X 0 0) a w = _
  unfold fN_placed
  rw [ob_of hr.i04]
  have h20 := hS.t20
  rcases hS.pr with p | p
  · refine ⟨-1, ?_, by rw [if_pos p]⟩
    rcases idx a (n := 20) (by decide) with c | ⟨t, ht, rfl⟩
    · exact g_placed0 c
    · rw [g_placed hS (Lp_lives hS) (ord0 (od := fun _ => 0) (fun t _ => by rw [Lp0 p])) ht]
      rfl
  · have hp := hP p
    have hL := Lp_lives hS
    rw [Lp1 p] at hL
    have hA : nA ≤ 20 := by
      by_cases c : nA ≤ 20
      · exact c
      · have h1 := hp.ord.lt (k := 20) (by omega)
        omega
    rw [if_neg (by rw [p]; decide)]
    rcases idx a (n := 20) (by decide) with c | ⟨t, ht, rfl⟩
    · refine ⟨-1, g_placed0 c, ?_⟩
      by_cases d : a < 0
      · rw [if_pos d]
      · rw [if_neg d, ob_of hr.q03, ob_of hr.q10, ob_of hr.l2, cbd_of hr.z2, if_neg (Int32.not_lt.mpr (Int32.le_trans (nI_le hA (by decide)) (c.resolve_left d)))]
    · refine ⟨_, g_placed hS hL hp.ord ht, ?_⟩
      rw [if_neg (nI_pos (by omega)), ob_of hr.q03, ob_of hr.q10, ob_of hr.l2, cbd_of hr.z2]
      by_cases d : t < nA
      · rw [if_pos (nI_lt d (by omega)), ob_of hr.q03, ob_of hr.q10, ob_of hr.l2, cbd_of (hr.g2 d), ob_of (hr.c4 (hr.odl t d)), ob_of (hr.t0 (hr.odl t d)), if_pos d]
      · rw [if_neg (nI_nlt (by omega) (by omega)), if_neg d]
theorem a_reopen (b : Nat) : Agr b (fun w => fN_reopen b w) (fun S => gM_reopen S) := by
  intro w S hi
  have hi0 := hi
  obtain ⟨X, cd, el, tl, Y, V, od, nA, mx, rfl, hr, hS, hG, hP, hR⟩ := hi
  show ∃ r S' w', gM_reopen S = _ ∧ fN_reopen (X 0 0) w = _ ∧ _
  unfold gM_reopen fN_reopen
  rw [ob_of hr.i04, bnd_eq]
  rcases hS.pr with p | p
  · exact ⟨-3, S, w, by rw [if_pos p], by rw [if_pos p], hi0⟩
  · have e1 : ptZ S 15 0 = some (sUp S 15 (upd (S 15) 0 0)) := by unfold ptZ; rw [if_pos (Or.inl rfl)]
    have r1 := hr.setN (k := 4) (j := 15) (Or.inl ⟨rfl, rfl⟩) 0 rfl
    have r2 := r1.setN (k := 5) (j := 18) (Or.inr ⟨rfl, rfl⟩) (-1) rfl
    refine ⟨0, _, _, ?_, ?_, X, cd, el, tl, Y, V, od, nA, mx, rfl, r2, ?_, hG, ?_, ?_⟩
    · rw [if_neg (by rw [p]; decide), ob_of e1, bnd_eq]
      rfl
    · rw [if_neg (by rw [p]; decide), ob_of (pZ_in hr.net (Nat.le_of_ble_eq_true rfl) (Or.inl rfl)), ob_of (pI_in r1.net (Nat.le_of_ble_eq_true rfl))]
    · refine ⟨fun j i hj => ?_, hS.t20, hS.o14, hS.kdl, hS.ln1, hS.ln64, hS.ln16, hS.kp, hS.kz, hS.gz, hS.by4, hS.by5, hS.mp, hS.sh, hS.opk, Or.inl rfl, Or.inl rfl, fun q => absurd (show (0 : Int32) = 1 from q) (by decide)⟩
      rw [sUp_n _ _ (by omega), sUp_n _ _ (by omega)]
      exact hS.nn j i hj
    · intro q
      exact absurd (show (0 : Int32) = 1 from q) (by decide)
    · intro d hd q
      have q : (-1 : Int32) = nI d := q
      have := nI_pos' (n := d) (by have : N S 14 0 ≤ 14 := hS.o14; have : d ≤ N S 14 0 := hd; omega)
      rw [← q] at this
      exact absurd this (by decide)
theorem notrun {S : sM} (h : OKS S) (p : S 15 0 = 0) : S 18 0 = -1 := by
  rcases h.dn with c | c
  · exact c
  · rw [p] at c
    exact absurd c.1 (by decide)
theorem m1_ne {S : sM} {d : Nat} (h : OKS S) (hd : d ≤ N S 14 0) (e : (-1 : Int32) = nI d) : False := by
  have h1 := nI_pos' (n := d) (by have := h.o14; omega)
  rw [← e] at h1
  exact absurd h1 (by decide)
theorem nar_int (x : Int32) : vp_nar .int x = x := rfl
theorem nar_bool {x : Int32} (h : x = 0 ∨ x = 1) : vp_nar .boolean x = x := by
  rcases h with rfl | rfl <;> rfl
theorem a_keep (b : Nat) (a e : Int32) (he : e = 0 ∨ e = 1) : Agr b (fun w => fN_keep b a e w) (fun S => gM_keep a e S) := by
  intro w S hi
  have hi0 := hi
  obtain ⟨X, cd, el, tl, Y, V, od, nA, mx, rfl, hr, hS, hG, hP, hR⟩ := hi
  show ∃ r S' w', gM_keep a e S = _ ∧ fN_keep (X 0 0) a e w = _ ∧ _
  unfold gM_keep fN_keep
  have h20 := hS.t20
  rcases idx a (N_lt S 6 0) with c | ⟨t, ht, rfl⟩
  · rw [cbd_of (g_noT1 hS c), ob_of hr.r0, cbd_of (hr.tAt0 c)]
    exact ⟨-1, S, w, rfl, rfl, hi0⟩
  · rw [cbd_of (g_noT0 hS ht), ob_of hr.r0, cbd_of (hr.tAt ht), if_pos rfl, if_neg (sne (X 4 t)), ob_of (rd20 (show t < 20 by omega) (by omega)), ob_of (hr.t1 ht)]
    by_cases k0 : S 0 t = 0
    · exact ⟨-1, S, w, by rw [if_pos k0], by rw [if_pos k0], hi0⟩
    · rw [if_neg k0, if_neg k0, bnd_eq, ob_of hr.i04]
      rcases hS.pr with p | p
      · have e1 : wrS S 3 (nI t) (vp_nar .boolean e) = some (sUp S 3 (upd (S 3) t e)) := by rw [wrS_in (show t < lenM 3 by show t < 20; omega) (by decide), nar_bool he]
        have r1 := hr.setK ht e rfl
        refine ⟨0, _, _, ?_, ?_, X, cd, el, tl, Y, V, od, nA, mx, rfl, r1, ?_, hG, ?_, ?_⟩
        · rw [if_pos p, ob_of e1]
        · rw [if_pos p, ob_of (pZ_in (hr.ten t ht) (Nat.le_of_ble_eq_true rfl) he)]
        · refine ⟨fun j i hj => ?_, hS.t20, hS.o14, hS.kdl, hS.ln1, hS.ln64, hS.ln16, fun u => ?_, fun u hu => ?_, hS.gz, hS.by4, hS.by5, hS.mp, hS.sh, hS.opk, hS.pr, hS.dn, fun q => absurd (p.symm.trans (show S 15 0 = 1 from q)) (by decide)⟩
          · rw [sUp_n _ _ (by omega)]
            exact hS.nn j i hj
          · show upd (S 3) t e u = 0 ∨ upd (S 3) t e u = 1
            by_cases q : u = t
            · rw [q, pk_us]; exact he
            · rw [pk_un q]; exact hS.kp u
          · show upd (S 3) t e u = 0
            have hu : N S 6 0 ≤ u := hu
            rw [pk_un (by omega)]
            exact hS.kz u hu
        · intro q
          exact absurd (p.symm.trans (show S 15 0 = 1 from q)) (by decide)
        · intro d hd q
          exact (m1_ne hS hd ((notrun hS p).symm.trans q)).elim
      · exact ⟨-3, S, w, by rw [if_neg (by rw [p]; decide)], by rw [if_neg (by rw [p]; decide)], hi0⟩
theorem by_of {x : Int32} (h : ¬ (x < -128 ∨ 127 < x)) : By x := by
  have h1 : ¬ x < -128 := fun q => h (Or.inl q)
  have h2 : ¬ 127 < x := fun q => h (Or.inr q)
  rw [Int32.lt_iff_toInt_lt] at h1 h2
  have e1 : (-128 : Int32).toInt = -128 := rfl
  have e2 : (127 : Int32).toInt = 127 := rfl
  unfold By
  omega
theorem g_noByte (x : Int32) (S : sM) : gM_noByte x S = some (if x < -128 ∨ 127 < x then 1 else 0, S) := by
  unfold gM_noByte
  by_cases c : x < -128
  · rw [if_pos c, if_pos (Or.inl c)]
  · rw [if_neg c]
    by_cases d : 127 < x
    · rw [if_neg (Int32.not_le.mpr d), if_pos (Or.inr d)]
    · rw [if_pos (Int32.not_lt.mp d), if_neg (fun q => q.elim c d)]
theorem at64 {S : sM} (hS : OKS S) {t j : Nat} (ht : t < N S 6 0) (hj : j < N S 1 t) : nI t * 64 + nI j = nI (t * 64 + j) ∧ t * 64 + j < 1280 := by
  have h20 := hS.t20
  have h64 := hS.ln64 t ht
  refine ⟨?_, by omega⟩
  rw [show (64 : Int32) = nI 64 from rfl, pk_mul, nI_add]
theorem a_set (b : Nat) (a i x : Int32) : Agr b (fun w => fN_set b a i x w) (fun S => gM_set a i x S) := by
  intro w S hi
  have hi0 := hi
  obtain ⟨X, cd, el, tl, Y, V, od, nA, mx, rfl, hr, hS, hG, hP, hR⟩ := hi
  show ∃ r S' w', gM_set a i x S = _ ∧ fN_set (X 0 0) a i x w = _ ∧ _
  unfold gM_set fN_set
  have h20 := hS.t20
  rcases idx a (N_lt S 6 0) with c | ⟨t, ht, rfl⟩
  · rw [cbd_of (g_noT1 hS c), ob_of hr.r0, cbd_of (hr.tAt0 c)]
    exact ⟨-1, S, w, rfl, rfl, hi0⟩
  · rw [cbd_of (g_noT0 hS ht), ob_of hr.r0, cbd_of (hr.tAt ht), if_pos rfl, if_neg (sne (X 4 t)), ob_of (rd20 (show t < 20 by omega) (by omega)), ob_of (hr.t1 ht)]
    by_cases k0 : S 0 t = 2
    · exact ⟨-1, S, w, by rw [if_pos k0], by rw [if_pos k0], hi0⟩
    · rw [if_neg k0, if_neg k0, ob_of (hr.r4 ht)]
      unfold fT_hasCell
      rcases idx i (N_lt S 1 t) with ci | ⟨j, hj, rfl⟩
      · refine ⟨-1, S, w, ?_, ?_, hi0⟩
        · by_cases q : i < 0
          · rw [if_pos q]
          · rw [if_neg q, ob_of (rd20 (show t < 20 by omega) (by omega)), hS.e1, if_pos (ci.resolve_left q)]
        · by_cases q : i < 0
          · rw [if_pos q]; rfl
          · rw [if_neg q, ob_of (hr.t2 ht), hS.e1, if_pos (ci.resolve_left q)]; rfl
      · obtain ⟨ea, el64⟩ := at64 hS ht hj
        have hl64 := hS.ln64 t ht
        have hn : (if nI j < 0 then some ((0 : Int32), w) else (gI w (some (X 4 t)) 4 2).bind fun x1 => if x1 ≤ nI j then some (0, w) else some (1, w)) = some (1, w) := by
          rw [if_neg (nI_pos (by omega)), ob_of (hr.t2 ht), hS.e1, if_neg (nI_ge hj (N_lt _ _ _))]
        rw [cbd_of hn, if_neg (nI_pos (show j < 2 ^ 31 by omega)), ob_of (rd20 (show t < 20 by omega) (by omega)), hS.e1, if_neg (nI_ge hj (N_lt _ _ _)), if_neg i10, cbd_of (g_noByte x S), cbd_of (isCell x w)]
        by_cases cb : x < -128 ∨ 127 < x
        · exact ⟨-1, S, w, by rw [if_pos cb]; rfl, by rw [if_pos cb]; rfl, hi0⟩
        · rw [if_neg cb, if_neg cb, if_pos rfl, if_neg i10, bnd_eq, ob_of hr.i04]
          have e1 : wrS S 4 (nI t * 64 + nI j) (vp_nar .int x) = some (sUp S 4 (upd (S 4) (t * 64 + j) x)) := by rw [ea, wrS_in (show t * 64 + j < lenM 4 from el64) (by decide), nar_int]
          have s1 := stI_in (w := w) (ty := .int) (i := nI j) (x := x) (hr.giv t ht) (by decide) (by decide) rfl rfl hj (N_lt _ _ _)
          have r1 := (hr.setV ht (Or.inl rfl) (upd (V 5 t) j (vp_nar .int x))).congS (S' := sUp S 4 (upd (S 4) (t * 64 + j) x)) (fun k h4 _ _ _ => sUp_n _ _ h4)
          have fin : ∀ (hkk : S 15 0 = 1 → ¬ N S 0 t = 0), INV (va_up w.1 (X 5 t) (some (iA (N S 1 t) (upd (V 5 t) j (vp_nar .int x)))), w.2) (X 0 0) (sUp S 4 (upd (S 4) (t * 64 + j) x)) := by
            intro hkk
            refine ⟨X, cd, el, tl, Y, _, od, nA, mx, rfl, r1, ?_, ?_, fun q => (hP q).cong (fun k h4 _ _ => sUp_n _ _ h4), ?_⟩
            · refine ⟨fun k i hk => ?_, hS.t20, hS.o14, hS.kdl, hS.ln1, hS.ln64, hS.ln16, hS.kp, hS.kz, fun u k hu hk => ?_, fun k => ?_, hS.by5, hS.mp, hS.sh, hS.opk, hS.pr, hS.dn, hS.gd⟩
              · rw [sUp_n _ _ (by omega)]
                exact hS.nn k i hk
              · have hu : N S 6 0 ≤ u := hu
                show upd (S 4) (t * 64 + j) x _ = 0
                rw [pk_un (by omega)]
                exact hS.gz u k hu hk
              · show By (upd (S 4) (t * 64 + j) x k)
                by_cases q : k = t * 64 + j
                · rw [q, pk_us]; exact by_of cb
                · rw [pk_un q]; exact hS.by4 k
            · intro u hu k2 k hk
              have hu : u < N S 6 0 := hu
              have k2 : N S 0 u ≠ 2 := k2
              have hk : k < N S 1 u := hk
              have hl := hS.ln64 u hu
              show upV V 5 t _ 5 u k = upd (S 4) (t * 64 + j) x (u * 64 + k)
              by_cases q : u = t
              · subst q
                rw [upV_s]
                by_cases q2 : k = j
                · rw [q2, pk_us, pk_us]; rfl
                · rw [pk_un q2, pk_un (by omega)]
                  exact hG u hu k2 k hk
              · rw [upV_n _ _ (Or.inr q), pk_un (by omega)]
                exact hG u hu k2 k hk
            · intro d hd q
              have hR := hR d hd q
              have hp1 : S 15 0 = 1 := by
                rcases hS.dn with z | z
                · exact (m1_ne hS hd (z.symm.trans q)).elim
                · exact z.1
              refine ⟨fun u hu h0 k hk => ?_, fun u hu h0 k hk => ?_, fun u hu h0 hm k hk => ?_⟩
              · have hu : u < N S 6 0 := hu
                have h0 : N S 0 u = 0 := h0
                have hk' : k < N S 1 u := hk
                have hl := hS.ln64 u hu
                show S 5 (u * 64 + k) = upd (S 4) (t * 64 + j) x (u * 64 + k)
                have ne : u ≠ t := fun z => hkk hp1 (by rw [← z]; exact h0)
                rw [pk_un (by omega)]
                exact hR.rc u hu h0 k hk'
              · show upV V 5 t _ 6 u k = S 5 (u * 64 + k)
                rw [upV_n _ _ (by omega)]
                exact hR.ri u hu h0 k hk
              · show upV V 5 t _ 5 u k = S 5 (u * 64 + k)
                have ne : u ≠ t := by
                  intro z
                  have h0 : N S 0 u = 2 := h0
                  rw [z] at h0
                  exact k0 (by rw [hS.e0, h0]; rfl)
                rw [upV_n _ _ (Or.inr ne)]
                exact hR.rm u hu h0 hm k hk
          unfold gM_set_b61
          rcases hS.pr with p | p
          · refine ⟨0, _, _, ?_, ?_, fin (fun z => absurd (p.symm.trans z) (by decide))⟩
            · rw [if_pos p, ob_of e1]
            · rw [if_pos p, ob_of (hr.t4 ht), ob_of s1]
          · rw [if_neg (by rw [p]; decide), if_neg (by rw [p]; decide), ob_of (rd20 (show t < 20 by omega) (by omega)), ob_of (hr.t1 ht), hS.e0]
            by_cases kz : N S 0 t = 0
            · exact ⟨-3, S, w, by rw [if_pos ((Neq0 S 0 t).mpr kz)], by rw [if_pos ((Neq0 S 0 t).mpr kz)], hi0⟩
            · refine ⟨0, _, _, ?_, ?_, fin (fun _ => kz)⟩
              · rw [if_neg (fun z => kz ((Neq0 S 0 t).mp z)), ob_of e1]
              · rw [if_neg (fun z => kz ((Neq0 S 0 t).mp z)), ob_of (hr.t4 ht), ob_of s1]
theorem a_scale (b : Nat) (a m s : Int32) : Agr b (fun w => fN_scale b a m s w) (fun S => gM_scale a m s S) := by
  intro w S hi
  have hi0 := hi
  obtain ⟨X, cd, el, tl, Y, V, od, nA, mx, rfl, hr, hS, hG, hP, hR⟩ := hi
  show ∃ r S' w', gM_scale a m s S = _ ∧ fN_scale (X 0 0) a m s w = _ ∧ _
  unfold gM_scale fN_scale
  rcases idx a (n := 8) (by decide) with c | ⟨i, hi8, rfl⟩
  · rw [cbd_of (isScale0 c w), if_pos rfl]
    refine ⟨-1, S, w, ?_, rfl, hi0⟩
    by_cases q : a < 0
    · rw [if_pos q]
    · have q2 : (nI 8).toInt ≤ a.toInt := Int32.le_iff_toInt_le.mp (c.resolve_left q)
      have q3 : (7 : Int32) < a := Int32.lt_iff_toInt_lt.mpr (by rw [nI_toInt (by omega)] at q2; rw [show (7 : Int32).toInt = 7 from rfl]; omega)
      rw [if_neg q, if_pos q3]
  · rw [cbd_of (isScale1 hi8 w), if_neg i10, if_neg (nI_pos (show i < 2 ^ 31 by omega)), if_neg (show ¬ (7 : Int32) < nI i from (nI_nlt (show i ≤ 7 by omega) (by decide) : ¬ nI 7 < nI i))]
    by_cases cm : m < 0
    · exact ⟨-1, S, w, by rw [if_pos cm], by rw [if_pos cm], hi0⟩
    · rw [if_neg cm, if_neg cm, cbd_of (wthn _ _ _ w)]
      by_cases cs : s < 0
      · exact ⟨-1, S, w, by rw [if_pos cs], by rw [if_pos (show s < 0 ∨ 30 < s from Or.inl cs)]; rfl, hi0⟩
      · rw [if_neg cs]
        by_cases cs2 : 30 < s
        · exact ⟨-1, S, w, by rw [if_neg (Int32.not_le.mpr cs2)], by rw [if_pos (show s < 0 ∨ 30 < s from Or.inr cs2)]; rfl, hi0⟩
        · rw [if_pos (Int32.not_lt.mp cs2), if_neg (show ¬ (s < 0 ∨ 30 < s) from fun q => q.elim cs cs2), if_neg i10, bnd_eq, ob_of hr.i04]
          rcases hS.pr with p | p
          · have e1 : wrS S 7 (nI i) (vp_nar .int m) = some (sUp S 7 (upd (S 7) i m)) := by rw [wrS_in (show i < lenM 7 from hi8) (by decide), nar_int]
            have e2 : wrS (sUp S 7 (upd (S 7) i m)) 8 (nI i) (vp_nar .int s) = some (sUp (sUp S 7 (upd (S 7) i m)) 8 (upd (S 8) i s)) := by rw [wrS_in (show i < lenM 8 from hi8) (by decide), nar_int]; rfl
            have r1 := hr.setS hi8 (Or.inl ⟨rfl, rfl⟩) m
            have r2 := r1.setS hi8 (Or.inr ⟨rfl, rfl⟩) s
            refine ⟨0, _, _, ?_, ?_, X, cd, el, tl, Y, V, od, nA, mx, rfl, r2, ?_, hG, ?_, ?_⟩
            · rw [if_pos p, ob_of e1, ob_of e2]
              rfl
            · rw [if_pos p, ob_of hr.q02, ob_of (hr.q9 hi8), ob_of (pI_in (hr.scl i hi8) (Nat.le_of_ble_eq_true rfl))]
              show (gQ (va_up w.1 (X 3 i) (some (.inr (3, ([.int (S 7 i), .int (S 8 i)] : List Value).set 0 (.int m)))), w.2) (some (X 0 0)) 0 2).bind _ = _
              rw [ob_of r1.q02, ob_of (r1.q9 hi8), ob_of (pI_in (r1.scl i hi8) (Nat.le_of_ble_eq_true rfl))]
            · have hs30 : (nI 0).toInt ≤ s.toInt ∧ s.toInt ≤ 30 := by
                have q1 := Int32.not_lt.mp cs
                have q2 := Int32.not_lt.mp cs2
                rw [Int32.le_iff_toInt_le] at q1 q2
                exact ⟨q1, q2⟩
              refine ⟨fun j k hj => ?_, hS.t20, hS.o14, hS.kdl, hS.ln1, hS.ln64, hS.ln16, hS.kp, hS.kz, hS.gz, hS.by4, hS.by5, fun k => ?_, fun k => ?_, hS.opk, hS.pr, hS.dn, fun q => absurd (p.symm.trans (show S 15 0 = 1 from q)) (by decide)⟩
              · by_cases z : j = 8
                · subst z
                  show ¬ upd (S 8) i s k < 0
                  by_cases q : k = i
                  · rw [q, pk_us]; exact cs
                  · rw [pk_un q]; exact hS.nn 8 k hj
                · rw [sUp_n _ _ z, sUp_n _ _ (by omega)]
                  exact hS.nn j k hj
              · show ¬ upd (S 7) i m k < 0
                by_cases q : k = i
                · rw [q, pk_us]; exact cm
                · rw [pk_un q]; exact hS.mp k
              · show (upd (S 8) i s k).toNatClampNeg ≤ 30
                by_cases q : k = i
                · rw [q, pk_us]
                  unfold Int32.toNatClampNeg
                  omega
                · rw [pk_un q]; exact hS.sh k
            · intro q
              exact absurd (p.symm.trans (show S 15 0 = 1 from q)) (by decide)
            · intro d hd q
              exact (m1_ne hS hd ((notrun hS p).symm.trans q)).elim
          · exact ⟨-3, S, w, by rw [if_neg (by rw [p]; decide)], by rw [if_neg (by rw [p]; decide)], hi0⟩
