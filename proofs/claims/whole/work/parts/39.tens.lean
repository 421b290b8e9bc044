/-! tensor AND operator -/
theorem a_tensor (b : Nat) (a1 a2 a3 : Int32) : Agr b (fun w => fN_tensor b a1 a2 a3 w) (fun S => gM_tensor a1 a2 a3 S) := by
  intro w S hi
  have hi0 := hi
  obtain ⟨X, cd, el, tl, Y, V, od, nA, mx, rfl, hr, hS, hG, hP, hR⟩ := hi
  show ∃ r S' w', gM_tensor a1 a2 a3 S = _ ∧ fN_tensor (X 0 0) a1 a2 a3 w = _ ∧ _
  have h20 := hS.t20
  unfold gM_tensor fN_tensor
  rw [cbd_of (wthn _ _ _ w)]
  by_cases c1 : a1 < 0 ∨ 2 < a1
  · refine ⟨-1, S, w, ?_, by rw [if_pos c1, if_pos rfl], hi0⟩
    by_cases c : a1 < 0
    · rw [if_pos c]
    · rw [if_neg c, if_pos (c1.resolve_left c)]
  · obtain ⟨k, hk, rfl⟩ : ∃ k, k ≤ 2 ∧ a1 = nI k := nI_of2 (M := 2) (n := 2) rfl (fun q => c1 (Or.inl q)) (Int32.not_lt.mp (fun q => c1 (Or.inr q)))
    obtain ⟨g, hg, eg⟩ : ∃ g : Nat, (g = if k = 0 then 64 else 16) ∧ ∀ w : cW, fT_greatestLength (nI k) w = some (nI g, w) := by
      refine ⟨_, rfl, fun w => ?_⟩
      unfold fT_greatestLength
      by_cases c : k = 0
      · rw [if_pos (show nI k = 0 by rw [c]; rfl), if_pos c]; rfl
      · rw [if_neg (nI_ne0 (by omega) (by omega)), if_neg c]; rfl
    have hg64 : g ≤ 64 := by rw [hg]; split <;> omega
    have em : ∀ (x : Int32), (if nI k = 0 then gM_tensor_b26 (nI k) a2 x a2 64 S else gM_tensor_b26 (nI k) a2 x a2 16 S) = gM_tensor_b26 (nI k) a2 x a2 (nI g) S := by
      intro x
      by_cases c : k = 0
      · rw [if_pos (show nI k = 0 by rw [c]; rfl), hg, if_pos c]; rfl
      · rw [if_neg (nI_ne0 (by omega) (by omega)), hg, if_neg c]; rfl
    rw [if_neg c1, if_neg (fun q => c1 (Or.inl q)), if_neg (fun q => c1 (Or.inr q)), if_neg i10, cbd_of (eg w), cbd_of (wthn _ _ _ w), em]
    by_cases c2 : a2 < 1 ∨ nI g < a2
    · refine ⟨-1, S, w, ?_, by rw [if_pos c2, if_pos rfl], hi0⟩
      by_cases c : a2 < 1
      · rw [if_pos c]
      · rw [if_neg c]
        unfold gM_tensor_b26
        rw [if_pos (c2.resolve_left c)]
    · have c2a : ¬ a2 < 1 := fun q => c2 (Or.inl q)
      have c2b : ¬ nI g < a2 := fun q => c2 (Or.inr q)
      have q1 : (1 : Int32).toInt ≤ a2.toInt := Int32.le_iff_toInt_le.mp (Int32.not_lt.mp c2a)
      have q1 : 1 ≤ a2.toInt := q1
      obtain ⟨l, hl, rfl⟩ : ∃ l, l ≤ g ∧ a2 = nI l := nI_of2 (nI_toInt (by omega)) (fun q => by have := Int32.lt_iff_toInt_lt.mp q; have : a2.toInt < 0 := this; omega) (Int32.not_lt.mp c2b)
      have hl1 : 1 ≤ l := by rw [nI_toInt (by omega)] at q1; omega
      unfold gM_tensor_b26
      rw [if_neg c2a, if_neg c2b, if_neg c2, if_neg i10, cbd_of (g_noByte a3 S), cbd_of (isCell a3 w)]
      by_cases cb : a3 < -128 ∨ 127 < a3
      · exact ⟨-1, S, w, by rw [if_pos cb]; rfl, by rw [if_pos cb]; rfl, hi0⟩
      · rw [if_neg cb, if_neg cb, if_pos rfl, if_neg i10, bnd_eq, ob_of hr.i04]
        rcases hS.pr with p | p
        · rw [if_pos p, if_pos p, bnd_eq, ob_of hr.q00, ob_of hr.l0, cbd_of hr.z0, hS.e6]
          obtain ⟨nT, hT⟩ : ∃ nT, N S 6 0 = nT := ⟨_, rfl⟩
          rw [hT] at h20 ⊢
          by_cases c20 : nT = 20
          · exact ⟨-2, S, w, by rw [if_pos (by rw [c20]; rfl)], by rw [if_neg (show ¬ nI nT < 20 from (nI_nlt (by omega) (by omega) : ¬ nI nT < nI 20))], hi0⟩
          · have hn : nT < 20 := by omega
            obtain ⟨S6, h6⟩ : ∃ S6, S6 = sUp S 0 (upd (S 0) nT (nI k)) := ⟨_, rfl⟩
            obtain ⟨S8, h8⟩ : ∃ S8, S8 = sUp S6 1 (upd (S6 1) nT (nI l)) := ⟨_, rfl⟩
            obtain ⟨S10, h10⟩ : ∃ S10, S10 = sUp S8 2 (upd (S8 2) nT a3) := ⟨_, rfl⟩
            obtain ⟨S12, h12⟩ : ∃ S12, S12 = sUp S10 6 (upd (S10 6) 0 (nI (nT + 1))) := ⟨_, rfl⟩
            have s6 : S 6 0 = nI nT := by rw [hS.e6, hT]
            have t6 : S6 6 0 = nI nT := by rw [h6]; exact s6
            have t8 : S8 6 0 = nI nT := by rw [h8, h6]; exact s6
            have t10 : S10 6 0 = nI nT := by rw [h10, h8, h6]; exact s6
            have w6 : wrS S 0 (nI nT) (vp_nar .int (nI k)) = some S6 := by rw [wrS_in (show nT < lenM 0 from hn) (by decide), nar_int, h6]
            have w8 : wrS S6 1 (nI nT) (vp_nar .int (nI l)) = some S8 := by rw [wrS_in (show nT < lenM 1 from hn) (by decide), nar_int, h8]
            have w10 : wrS S8 2 (nI nT) (vp_nar .int a3) = some S10 := by rw [wrS_in (show nT < lenM 2 from hn) (by decide), nar_int, h10]
            have w12 : ptI S10 6 (nI nT + 1) = S12 := by rw [h12, nI_1]; rfl
            have e0 : S12 0 = upd (S 0) nT (nI k) := by rw [h12, h10, h8, h6]; rfl
            have e1 : S12 1 = upd (S 1) nT (nI l) := by rw [h12, h10, h8, h6]; rfl
            have e2 : S12 2 = upd (S 2) nT a3 := by rw [h12, h10, h8, h6]; rfl
            have e6 : S12 6 = upd (S 6) 0 (nI (nT + 1)) := by rw [h12, h10, h8, h6]; rfl
            have ej : ∀ j, j ≠ 0 → j ≠ 1 → j ≠ 2 → j ≠ 6 → S12 j = S j := by
              intro j j0 j1 j2 j6
              rw [h12, sUp_n _ _ j6, h10, sUp_n _ _ j2, h8, sUp_n _ _ j1, h6, sUp_n _ _ j0]
            have hN6 : N S12 6 0 = nT + 1 := N_of (by rw [e6, pk_us]) (by omega)
            have hold : ∀ t, t < nT → S12 0 t = S 0 t ∧ S12 1 t = S 1 t ∧ S12 2 t = S 2 t := fun t ht => by
              rw [e0, e1, e2, pk_un (by omega), pk_un (by omega), pk_un (by omega)]
              exact ⟨rfl, rfl, rfl⟩
            have hop : ∀ o, o < N S 14 0 → N S 10 o < nT ∧ N S 11 o < nT ∧ N S 12 o < nT := fun o ho => by
              obtain ⟨-, q1, q2, q3, -⟩ := hS.opk o ho
              omega
            obtain ⟨w1, w', X', cd', el', tl', f1, f2, f3, f4, f5, f6⟩ := hr.addT (S' := S12) (k := k) (l := l) (z := a3) hT hn hk (by omega) hN6 ej hold (by rw [e0, pk_us]) (by rw [e1, pk_us]) (by rw [e2, pk_us]) (hS.kz nT (by omega)) hop
            refine ⟨nI nT, S12, w', ?_, ?_, X', cd', el', tl', _, _, od, nA, mx, f4, f5, ?_, ?_, ?_, ?_⟩
            · rw [if_neg (show ¬ nI nT = 20 from fun q => c20 ((nI_eq (by omega) (by omega)).mp (q : nI nT = nI 20))), bnd_eq, ob_of w6, bnd_eq, t6, ob_of w8, bnd_eq, t8, ob_of w10, bnd_eq, t10, bnd_eq, w12, bnd_eq, e6, pk_us, nI_pred]
            · rw [if_pos (show nI nT < 20 from (nI_lt hn (by omega) : nI nT < nI 20)), ob_of hr.q00, ob_of hr.l0, cbd_of hr.z0, ob_of hr.q00, bnd_eq, hT, cbd_of f1, ob_of f2, cbd_of f3]
            · have n0 : ∀ t, t ≠ nT → N S12 0 t = N S 0 t := fun t ht => by unfold N; rw [e0, pk_un ht]
              have n1 : ∀ t, t ≠ nT → N S12 1 t = N S 1 t := fun t ht => by unfold N; rw [e1, pk_un ht]
              have k0 : N S12 0 nT = k := N_of (by rw [e0, pk_us]) (by omega)
              have k1 : N S12 1 nT = l := N_of (by rw [e1, pk_us]) (by omega)
              have nj : ∀ j i, j ≠ 0 → j ≠ 1 → j ≠ 2 → j ≠ 6 → N S12 j i = N S j i := fun j i j0 j1 j2 j6 => by unfold N; rw [ej j j0 j1 j2 j6]
              have n14 : N S12 14 0 = N S 14 0 := nj 14 0 (by omega) (by omega) (by omega) (by omega)
              refine ⟨fun j i hj => ?_, by omega, by rw [n14]; exact hS.o14, fun t ht => ?_, fun t ht => ?_, fun t ht => ?_, fun t ht hz => ?_, ?_, fun t ht => ?_, fun t j ht hj => ?_, ?_, ?_, ?_, fun i => ?_, fun o ho => ?_, ?_, ?_, fun q => ?_⟩
              · by_cases z0 : j = 0
                · rw [z0, e0]
                  by_cases z : i = nT
                  · rw [z, pk_us]; exact nI_pos (by omega)
                  · rw [pk_un z]; exact hS.nn 0 i (by omega)
                · by_cases z1 : j = 1
                  · rw [z1, e1]
                    by_cases z : i = nT
                    · rw [z, pk_us]; exact nI_pos (by omega)
                    · rw [pk_un z]; exact hS.nn 1 i (by omega)
                  · by_cases z6 : j = 6
                    · rw [z6, e6]
                      by_cases z : i = 0
                      · rw [z, pk_us]; exact nI_pos (by omega)
                      · rw [pk_un z]; exact hS.nn 6 i (by omega)
                    · rw [ej j z0 z1 (by omega) z6]
                      exact hS.nn j i hj
              · by_cases z : t = nT
                · rw [z, k0]; exact hk
                · rw [n0 t z]; exact hS.kdl t (by omega)
              · by_cases z : t = nT
                · rw [z, k1]; exact hl1
                · rw [n1 t z]; exact hS.ln1 t (by omega)
              · by_cases z : t = nT
                · rw [z, k1]; omega
                · rw [n1 t z]; exact hS.ln64 t (by omega)
              · by_cases z : t = nT
                · rw [z, k0] at hz
                  rw [z, k1]
                  rw [hg, if_neg hz] at hl
                  exact hl
                · rw [n0 t z] at hz
                  rw [n1 t z]; exact hS.ln16 t (by omega) hz
              · rw [ej 3 (by omega) (by omega) (by omega) (by omega)]; exact hS.kp
              · rw [ej 3 (by omega) (by omega) (by omega) (by omega)]; exact hS.kz t (by omega)
              · rw [ej 4 (by omega) (by omega) (by omega) (by omega)]; exact hS.gz t j (by omega) hj
              · rw [ej 4 (by omega) (by omega) (by omega) (by omega)]; exact hS.by4
              · rw [ej 5 (by omega) (by omega) (by omega) (by omega)]; exact hS.by5
              · rw [ej 7 (by omega) (by omega) (by omega) (by omega)]; exact hS.mp
              · rw [nj 8 i (by omega) (by omega) (by omega) (by omega)]; exact hS.sh i
              · rw [n14] at ho
                rw [nj 9 o (by omega) (by omega) (by omega) (by omega), nj 10 o (by omega) (by omega) (by omega) (by omega), nj 11 o (by omega) (by omega) (by omega) (by omega), nj 12 o (by omega) (by omega) (by omega) (by omega), nj 13 o (by omega) (by omega) (by omega) (by omega)]
                obtain ⟨q1, q2, q3, q4, q5⟩ := hS.opk o ho
                exact ⟨q1, by omega, by omega, by omega, q5⟩
              · rw [ej 15 (by omega) (by omega) (by omega) (by omega)]; exact hS.pr
              · rw [ej 18 (by omega) (by omega) (by omega) (by omega)]; exact Or.inl (notrun hS p)
              · rw [ej 15 (by omega) (by omega) (by omega) (by omega), p] at q
                exact absurd q (by decide)
            · intro t ht k2 j hj
              rw [hN6] at ht
              rw [ej 4 (by omega) (by omega) (by omega) (by omega)]
              by_cases z : t = nT
              · have k1 : N S12 1 nT = l := N_of (by rw [e1, pk_us]) (by omega)
                rw [z, k1] at hj
                rw [z, nwV_s, hS.gz nT j (by omega) (by omega)]
              · have n0 : N S12 0 t = N S 0 t := by unfold N; rw [e0, pk_un z]
                have n1 : N S12 1 t = N S 1 t := by unfold N; rw [e1, pk_un z]
                rw [n0] at k2
                rw [n1] at hj
                rw [nwV_n _ _ z]
                exact hG t (by omega) k2 j hj
            · intro q
              rw [ej 15 (by omega) (by omega) (by omega) (by omega), p] at q
              exact absurd q (by decide)
            · intro d hd q
              have n14 : N S12 14 0 = N S 14 0 := by unfold N; rw [ej 14 (by omega) (by omega) (by omega) (by omega)]
              rw [ej 18 (by omega) (by omega) (by omega) (by omega)] at q
              rw [n14] at hd
              exact (m1_ne hS hd ((notrun hS p).symm.trans q)).elim
        · exact ⟨-3, S, w, by rw [if_neg (by rw [p]; decide)], by rw [if_neg (by rw [p]; decide)], hi0⟩
theorem a_operator (b : Nat) (a1 a2 a3 a4 a5 : Int32) : Agr b (fun w => fN_operator b a1 a2 a3 a4 a5 w) (fun S => gM_operator a1 a2 a3 a4 a5 S) := by
  intro w S hi
  have hi0 := hi
  obtain ⟨X, cd, el, tl, Y, V, od, nA, mx, rfl, hr, hS, hG, hP, hR⟩ := hi
  show ∃ r S' w', gM_operator a1 a2 a3 a4 a5 S = _ ∧ fN_operator (X 0 0) a1 a2 a3 a4 a5 w = _ ∧ _
  have h20 := hS.t20
  have h14 := hS.o14
  obtain ⟨r2, hr2⟩ : ∃ r : Option Nat, fN_tensorAt (X 0 0) a2 w = some (r, w) ∧ ((r = none ∧ (a2 < 0 ∨ nI (N S 6 0) ≤ a2)) ∨ ∃ t, t < N S 6 0 ∧ a2 = nI t ∧ r = some (X 4 t)) := by
    rcases idx a2 (N_lt S 6 0) with c | ⟨t, ht, rfl⟩
    · exact ⟨_, hr.tAt0 c, Or.inl ⟨rfl, c⟩⟩
    · exact ⟨_, hr.tAt ht, Or.inr ⟨t, ht, rfl, rfl⟩⟩
  obtain ⟨r3, hr3⟩ : ∃ r : Option Nat, fN_tensorAt (X 0 0) a3 w = some (r, w) ∧ ((r = none ∧ (a3 < 0 ∨ nI (N S 6 0) ≤ a3)) ∨ ∃ t, t < N S 6 0 ∧ a3 = nI t ∧ r = some (X 4 t)) := by
    rcases idx a3 (N_lt S 6 0) with c | ⟨t, ht, rfl⟩
    · exact ⟨_, hr.tAt0 c, Or.inl ⟨rfl, c⟩⟩
    · exact ⟨_, hr.tAt ht, Or.inr ⟨t, ht, rfl, rfl⟩⟩
  obtain ⟨r4, hr4⟩ : ∃ r : Option Nat, fN_tensorAt (X 0 0) a4 w = some (r, w) ∧ ((r = none ∧ (a4 < 0 ∨ nI (N S 6 0) ≤ a4)) ∨ ∃ t, t < N S 6 0 ∧ a4 = nI t ∧ r = some (X 4 t)) := by
    rcases idx a4 (N_lt S 6 0) with c | ⟨t, ht, rfl⟩
    · exact ⟨_, hr.tAt0 c, Or.inl ⟨rfl, c⟩⟩
    · exact ⟨_, hr.tAt ht, Or.inr ⟨t, ht, rfl, rfl⟩⟩
  unfold gM_operator fN_operator
  rw [ob_of hr.r0, cbd_of hr2.1, ob_of hr.r0, cbd_of hr3.1, ob_of hr.r0, cbd_of hr4.1, cbd_of (wthn _ _ _ w)]
  by_cases c1 : a1 < 0 ∨ 7 < a1
  · refine ⟨-1, S, w, ?_, by rw [if_pos c1, if_pos rfl], hi0⟩
    by_cases c : a1 < 0
    · rw [if_pos c]
    · rw [if_neg c, if_pos (c1.resolve_left c)]
  · obtain ⟨k, hk, rfl⟩ : ∃ k, k ≤ 7 ∧ a1 = nI k := nI_of2 (M := 7) (n := 7) rfl (fun q => c1 (Or.inl q)) (Int32.not_lt.mp (fun q => c1 (Or.inr q)))
    rw [if_neg c1, if_neg (fun q => c1 (Or.inl q)), if_neg (fun q => c1 (Or.inr q)), if_neg i10]
    rcases hr2.2 with ⟨rfl, c⟩ | ⟨ta, hta, rfl, rfl⟩
    · exact ⟨-1, S, w, by rw [cbd_of (g_noT1 hS c)]; rfl, by rw [if_pos rfl], hi0⟩
    rw [cbd_of (g_noT0 hS hta), if_pos rfl, if_neg (sne (X 4 ta))]
    rcases hr3.2 with ⟨rfl, c⟩ | ⟨tb, htb, rfl, rfl⟩
    · exact ⟨-1, S, w, by rw [cbd_of (g_noT1 hS c)]; rfl, by rw [if_pos rfl], hi0⟩
    rw [cbd_of (g_noT0 hS htb), if_pos rfl, if_neg (sne (X 4 tb))]
    rcases hr4.2 with ⟨rfl, c⟩ | ⟨tc, htc, rfl, rfl⟩
    · exact ⟨-1, S, w, by rw [cbd_of (g_noT1 hS c)]; rfl, by rw [if_pos rfl], hi0⟩
    rw [cbd_of (g_noT0 hS htc), if_pos rfl, if_neg (sne (X 4 tc))]
    rcases idx a5 (n := 8) (by decide) with c | ⟨p5, h5, rfl⟩
    · refine ⟨-1, S, w, ?_, by rw [cbd_of (isScale0 c w), if_pos rfl], hi0⟩
      by_cases q : a5 < 0
      · rw [if_pos q]
      · have q2 : (nI 8).toInt ≤ a5.toInt := Int32.le_iff_toInt_le.mp (c.resolve_left q)
        have q3 : (7 : Int32) < a5 := Int32.lt_iff_toInt_lt.mpr (by rw [nI_toInt (by omega)] at q2; rw [show (7 : Int32).toInt = 7 from rfl]; omega)
        rw [if_neg q, if_neg (Int32.not_le.mpr q3)]
    rw [cbd_of (isScale1 h5 w), if_neg i10, if_neg (nI_pos (show p5 < 2 ^ 31 by omega)), if_pos (show nI p5 ≤ 7 from (nI_le (show p5 ≤ 7 by omega) (by omega) : nI p5 ≤ nI 7)), bnd_eq, ob_of hr.i04]
    rcases hS.pr with p | p
    · rw [if_pos p, if_pos p, bnd_eq, ob_of hr.q01, ob_of hr.l1, cbd_of hr.z1, hS.e14]
      obtain ⟨nO, hT⟩ : ∃ nO, N S 14 0 = nO := ⟨_, rfl⟩
      rw [hT] at h14 ⊢
      by_cases c14 : nO = 14
      · exact ⟨-2, S, w, by rw [if_pos (by rw [c14]; rfl)], by rw [if_neg (show ¬ nI nO < 14 from (nI_nlt (by omega) (by omega) : ¬ nI nO < nI 14))], hi0⟩
      · have hn : nO < 14 := by omega
        obtain ⟨S10, d10⟩ : ∃ S10, S10 = sUp S 9 (upd (S 9) nO (nI k)) := ⟨_, rfl⟩
        obtain ⟨S12, d12⟩ : ∃ S12, S12 = sUp S10 10 (upd (S10 10) nO (nI ta)) := ⟨_, rfl⟩
        obtain ⟨S14, d14⟩ : ∃ S14, S14 = sUp S12 11 (upd (S12 11) nO (nI tb)) := ⟨_, rfl⟩
        obtain ⟨S16, d16⟩ : ∃ S16, S16 = sUp S14 12 (upd (S14 12) nO (nI tc)) := ⟨_, rfl⟩
        obtain ⟨S18, d18⟩ : ∃ S18, S18 = sUp S16 13 (upd (S16 13) nO (nI p5)) := ⟨_, rfl⟩
        obtain ⟨S20, d20⟩ : ∃ S20, S20 = sUp S18 14 (upd (S18 14) 0 (nI (nO + 1))) := ⟨_, rfl⟩
        have s14 : S 14 0 = nI nO := by rw [hS.e14, hT]
        have t10 : S10 14 0 = nI nO := by rw [d10]; exact s14
        have t12 : S12 14 0 = nI nO := by rw [d12, d10]; exact s14
        have t14 : S14 14 0 = nI nO := by rw [d14, d12, d10]; exact s14
        have t16 : S16 14 0 = nI nO := by rw [d16, d14, d12, d10]; exact s14
        have t18 : S18 14 0 = nI nO := by rw [d18, d16, d14, d12, d10]; exact s14
        have w10 : wrS S 9 (nI nO) (vp_nar .int (nI k)) = some S10 := by rw [wrS_in (show nO < lenM 9 from hn) (by decide), nar_int, d10]
        have w12 : wrS S10 10 (nI nO) (vp_nar .int (nI ta)) = some S12 := by rw [wrS_in (show nO < lenM 10 from hn) (by decide), nar_int, d12]
        have w14 : wrS S12 11 (nI nO) (vp_nar .int (nI tb)) = some S14 := by rw [wrS_in (show nO < lenM 11 from hn) (by decide), nar_int, d14]
        have w16 : wrS S14 12 (nI nO) (vp_nar .int (nI tc)) = some S16 := by rw [wrS_in (show nO < lenM 12 from hn) (by decide), nar_int, d16]
        have w18 : wrS S16 13 (nI nO) (vp_nar .int (nI p5)) = some S18 := by rw [wrS_in (show nO < lenM 13 from hn) (by decide), nar_int, d18]
        have w20 : ptI S18 14 (nI nO + 1) = S20 := by rw [d20, nI_1]; rfl
        have e9 : S20 9 = upd (S 9) nO (nI k) := by rw [d20, d18, d16, d14, d12, d10]; rfl
        have e10 : S20 10 = upd (S 10) nO (nI ta) := by rw [d20, d18, d16, d14, d12, d10]; rfl
        have e11 : S20 11 = upd (S 11) nO (nI tb) := by rw [d20, d18, d16, d14, d12, d10]; rfl
        have e12 : S20 12 = upd (S 12) nO (nI tc) := by rw [d20, d18, d16, d14, d12, d10]; rfl
        have e13 : S20 13 = upd (S 13) nO (nI p5) := by rw [d20, d18, d16, d14, d12, d10]; rfl
        have e14 : S20 14 = upd (S 14) 0 (nI (nO + 1)) := by rw [d20, d18, d16, d14, d12, d10]; rfl
        have ej : ∀ j, j ≠ 9 → j ≠ 10 → j ≠ 11 → j ≠ 12 → j ≠ 13 → j ≠ 14 → S20 j = S j := by
          intro j j9 j10 j11 j12 j13 j14
          rw [d20, sUp_n _ _ j14, d18, sUp_n _ _ j13, d16, sUp_n _ _ j12, d14, sUp_n _ _ j11, d12, sUp_n _ _ j10, d10, sUp_n _ _ j9]
        have hN : N S20 14 0 = nO + 1 := N_of (by rw [e14, pk_us]) (by omega)
        have hold : ∀ t, t < nO → S20 9 t = S 9 t ∧ S20 10 t = S 10 t ∧ S20 11 t = S 11 t ∧ S20 12 t = S 12 t ∧ S20 13 t = S 13 t := fun t ht => by
          rw [e9, e10, e11, e12, e13, pk_un (by omega), pk_un (by omega), pk_un (by omega), pk_un (by omega), pk_un (by omega)]
          exact ⟨rfl, rfl, rfl, rfl, rfl⟩
        have v9 : N S20 9 nO = k := N_of (by rw [e9, pk_us]) (by omega)
        have v10 : N S20 10 nO = ta := N_of (by rw [e10, pk_us]) (by omega)
        have v11 : N S20 11 nO = tb := N_of (by rw [e11, pk_us]) (by omega)
        have v12 : N S20 12 nO = tc := N_of (by rw [e12, pk_us]) (by omega)
        have v13 : N S20 13 nO = p5 := N_of (by rw [e13, pk_us]) (by omega)
        obtain ⟨w1, w', X', cd', el', tl', f1, f2, f3, f4, f4b, f5, f6⟩ := hr.addO (S' := S20) (k := nI k) (p := nI p5) hT hn hN ej hold (by rw [e9, pk_us]) v10 v11 v12 (by rw [e13, pk_us])
        refine ⟨nI nO, S20, w', ?_, ?_, X', cd', el', tl', Y, V, od, nA, mx, f4, f5, ?_, ?_, ?_, ?_⟩
        · rw [if_neg (show ¬ nI nO = 14 from fun q => c14 ((nI_eq (by omega) (by omega)).mp (q : nI nO = nI 14))), bnd_eq, ob_of w10, bnd_eq, t10, ob_of w12, bnd_eq, t12, ob_of w14, bnd_eq, t14, ob_of w16, bnd_eq, t16, ob_of w18, bnd_eq, t18, bnd_eq, w20, bnd_eq, e14, pk_us, nI_pred]
        · rw [if_pos (show nI nO < 14 from (nI_lt hn (by omega) : nI nO < nI 14)), ob_of hr.q01, bnd_eq, ob_some, ob_some, ob_some, cbd_of f1, ob_of f2, cbd_of f3]
          have g1 := f5.q01
          have g2 := f5.l1
          have g3 := f5.z1
          rw [f4, f4b] at g1
          rw [f4b] at g2 g3
          rw [ob_of g1, ob_of g2, cbd_of g3, hN, nI_pred]
        · have nj : ∀ j i, j ≠ 9 → j ≠ 10 → j ≠ 11 → j ≠ 12 → j ≠ 13 → j ≠ 14 → N S20 j i = N S j i := fun j i j9 j10 j11 j12 j13 j14 => by unfold N; rw [ej j j9 j10 j11 j12 j13 j14]
          have n6 : N S20 6 0 = N S 6 0 := nj 6 0 (by omega) (by omega) (by omega) (by omega) (by omega) (by omega)
          have n0 : ∀ t, N S20 0 t = N S 0 t := fun t => nj 0 t (by omega) (by omega) (by omega) (by omega) (by omega) (by omega)
          have n1 : ∀ t, N S20 1 t = N S 1 t := fun t => nj 1 t (by omega) (by omega) (by omega) (by omega) (by omega) (by omega)
          have up : ∀ (j i x : Nat), x < 2 ^ 31 → (j = 9 ∨ j = 10 ∨ j = 11 ∨ j = 12 ∨ j = 13) → S20 j = upd (S j) nO (nI x) → ¬ S20 j i < 0 := by
            intro j i x hx hj e
            rw [e]
            by_cases z : i = nO
            · rw [z, pk_us]; exact nI_pos hx
            · rw [pk_un z]; exact hS.nn j i (by omega)
          refine ⟨fun j i hj => ?_, by rw [n6]; exact hS.t20, by omega, fun t ht => ?_, fun t ht => ?_, fun t ht => ?_, fun t ht hz => ?_, ?_, fun t ht => ?_, fun t j ht hj => ?_, ?_, ?_, ?_, fun i => ?_, fun o ho => ?_, ?_, ?_, fun q => ?_⟩
          · by_cases z9 : j = 9
            · rw [z9]; exact up 9 i k (by omega) (by omega) e9
            · by_cases z10 : j = 10
              · rw [z10]; exact up 10 i ta (by omega) (by omega) e10
              · by_cases z11 : j = 11
                · rw [z11]; exact up 11 i tb (by omega) (by omega) e11
                · by_cases z12 : j = 12
                  · rw [z12]; exact up 12 i tc (by omega) (by omega) e12
                  · by_cases z13 : j = 13
                    · rw [z13]; exact up 13 i p5 (by omega) (by omega) e13
                    · by_cases z14 : j = 14
                      · rw [z14, e14]
                        by_cases z : i = 0
                        · rw [z, pk_us]; exact nI_pos (by omega)
                        · rw [pk_un z]; exact hS.nn 14 i (by omega)
                      · rw [ej j z9 z10 z11 z12 z13 z14]
                        exact hS.nn j i hj
          · rw [n6] at ht; rw [n0]; exact hS.kdl t ht
          · rw [n6] at ht; rw [n1]; exact hS.ln1 t ht
          · rw [n6] at ht; rw [n1]; exact hS.ln64 t ht
          · rw [n6] at ht; rw [n0] at hz; rw [n1]; exact hS.ln16 t ht hz
          · rw [ej 3 (by omega) (by omega) (by omega) (by omega) (by omega) (by omega)]; exact hS.kp
          · rw [n6] at ht; rw [ej 3 (by omega) (by omega) (by omega) (by omega) (by omega) (by omega)]; exact hS.kz t ht
          · rw [n6] at ht; rw [ej 4 (by omega) (by omega) (by omega) (by omega) (by omega) (by omega)]; exact hS.gz t j ht hj
          · rw [ej 4 (by omega) (by omega) (by omega) (by omega) (by omega) (by omega)]; exact hS.by4
          · rw [ej 5 (by omega) (by omega) (by omega) (by omega) (by omega) (by omega)]; exact hS.by5
          · rw [ej 7 (by omega) (by omega) (by omega) (by omega) (by omega) (by omega)]; exact hS.mp
          · rw [nj 8 i (by omega) (by omega) (by omega) (by omega) (by omega) (by omega)]; exact hS.sh i
          · rw [n6]
            by_cases z : o = nO
            · rw [z, v9, v10, v11, v12, v13]
              exact ⟨hk, hta, htb, htc, by omega⟩
            · have z' : o < nO := by omega
              obtain ⟨q9, q10, q11, q12, q13⟩ := hold o z'
              have := hS.opk o (by omega)
              unfold N at this ⊢
              rw [q9, q10, q11, q12, q13]
              exact this
          · rw [ej 15 (by omega) (by omega) (by omega) (by omega) (by omega) (by omega)]; exact hS.pr
          · rw [ej 18 (by omega) (by omega) (by omega) (by omega) (by omega) (by omega)]; exact Or.inl (notrun hS p)
          · rw [ej 15 (by omega) (by omega) (by omega) (by omega) (by omega) (by omega), p] at q
            exact absurd q (by decide)
        · intro t ht k2 j hj
          have n6 : N S20 6 0 = N S 6 0 := by unfold N; rw [ej 6 (by omega) (by omega) (by omega) (by omega) (by omega) (by omega)]
          have n0 : N S20 0 t = N S 0 t := by unfold N; rw [ej 0 (by omega) (by omega) (by omega) (by omega) (by omega) (by omega)]
          have n1 : N S20 1 t = N S 1 t := by unfold N; rw [ej 1 (by omega) (by omega) (by omega) (by omega) (by omega) (by omega)]
          rw [n6] at ht
          rw [n0] at k2
          rw [n1] at hj
          rw [ej 4 (by omega) (by omega) (by omega) (by omega) (by omega) (by omega)]
          exact hG t ht k2 j hj
        · intro q
          rw [ej 15 (by omega) (by omega) (by omega) (by omega) (by omega) (by omega), p] at q
          exact absurd q (by decide)
        · intro d hd q
          rw [ej 18 (by omega) (by omega) (by omega) (by omega) (by omega) (by omega)] at q
          have h1 := nI_pos' (n := d) (by omega)
          rw [← (notrun hS p).symm.trans q] at h1
          exact absurd h1 (by decide)
    · exact ⟨-3, S, w, by rw [if_neg (by rw [p]; decide)], by rw [if_neg (by rw [p]; decide)], hi0⟩
