/-! FROM THE LAW'S FUNCTION TO THE CLAIM: at the start the world holds the script and ArrayList's empty array, both only read -/
def wIni (b z mi n L : Nat) (xs : Nat → Int32) : cW := (fun a => if a = b then some (.inl (5, L, .inl xs)) else if a = z then some (.inl (4, 0, .inr (.inr (.inr (.inr (fun _ => none)))))) else none, n, z, mi)
/-- what is left to prove: a statement about functions alone -/
def lawPure : Prop := ∀ (b z mi n L : Nat) (xs : Nat → Int32), L ≤ 3072 → b < n → z < n → b ≠ z → ∃ w', fW_law b (wIni b z mi n L xs) = some (1, w')
theorem arr_prim {args : Array Value} {s : State} {ty : FieldType} (h : (Cond.arrayClass ty).before args s = true) : ∃ c : ClassId, ArrOfT s c ty ∧ s.vm.findClass ("[" ++ ty.toString) = some c := by
  obtain ⟨c, k, comp, h1, h2, h3⟩ := Cond.arrayClass_spec h
  exact ⟨c, fun n z => ⟨(fun k h => by cases h), k, h2, comp, h3⟩, h1⟩
theorem arr_ref {s : State} {C : String} (h : va_AO C s) : ∃ c : ClassId, ArrOfT s c (.object C) ∧ va_RA s c (.object C) := by
  obtain ⟨comp, c, k, h1, h2, h3, h4, h5⟩ := Cond.arrayOver_spec h
  exact ⟨c, fun n z => ⟨(fun k h => by cases h), k, h3, comp, h4⟩, k, comp, h3, h4, h1, h5⟩
set_option maxHeartbeats 4000000 in
set_option maxRecDepth 100000 in
theorem start_pure (hpure : lawPure) {p : Program} {e : Env} {s : State} {m : MethodId} {below : List Frame} {meth : Method} {c : Code} (l : Launch) {b L : Nat} {xs : Nat → Int32} (hL : L ≤ 3072) (C0 : lw_At p s m meth c b L xs) : W p l e room_1 s m #[Value.ref b] below meth c s.heap [] 0 0 (lw_Z below #[Value.ref b] s) (entryFrame m ([Value.ref b] : List Value).toArray 4) := by
  obtain ⟨hx, hb, hr, hml, hown, hts, hX, hbl, hlocks, hgv⟩ := C0
  have hgd : ∀ w ∈ lw_gd, w.before #[Value.ref b] s = true := fun w hw => hts w (List.mem_filter.mp hw).1
  have hs := flat_of_before _ hgv
  have hA : ∀ a : Nat, a < s.heap.size → ¬ (fun q => s.heap.size ≤ q) a := fun a h1 h2 => Nat.not_le.mpr h1 h2
  -- classes
  obtain ⟨c0, i0, k0⟩ := u_known (n := 6) hgd inN (hgd _ q17)
  obtain ⟨c1, i1, k1⟩ := u_known (n := 2) hgd inA (hgd _ q53)
  obtain ⟨c2, i2, k2⟩ := u_known (n := 5) hgd inO (hgd _ q269)
  obtain ⟨c3, i3, k3⟩ := u_known (n := 2) hgd inS (hgd _ q69)
  obtain ⟨c4, i4, k4⟩ := u_known (n := 11) hgd inT (hgd _ q121)
  obtain ⟨c5, i5, k5⟩ := u_known (n := 19) hgd inM (hgd _ q469)
  obtain ⟨c6, i6, k6⟩ := u_known (n := 3) hgd inL (hgd _ q25)
  obtain ⟨D, hD⟩ : ∃ D : va_G, ∀ (k : Nat) (q : vw_C), vwCl[k]? = some q → u_Kn s q.1 q.2.1 q.2.2 (D.1 k) (D.2 k) := by
    refine ⟨(fun k => match k with | 0 => c0 | 1 => c1 | 2 => c2 | 3 => c3 | 4 => c4 | 5 => c5 | _ => c6, fun k => match k with | 0 => i0 | 1 => i1 | 2 => i2 | 3 => i3 | 4 => i4 | 5 => i5 | _ => i6), ?_⟩
    intro k q hq
    match k, hq with
    | 0, hq => cases hq; exact k0
    | 1, hq => cases hq; exact k1
    | 2, hq => cases hq; exact k2
    | 3, hq => cases hq; exact k3
    | 4, hq => cases hq; exact k4
    | 5, hq => cases hq; exact k5
    | 6, hq => cases hq; exact k6
    | k + 7, hq => simp [vwCl] at hq
  -- arrays
  have hcX : cX s := fun x hx => lw_ex_of x hx _ s (hts x (lw_ex_in x hx))
  obtain ⟨a0, r0, r0'⟩ := arr_prim (hgd _ q176)
  obtain ⟨a1, r1, r1'⟩ := arr_prim (hgd _ q533)
  obtain ⟨a2, r2, r2'⟩ := arr_ref (C := "java/lang/Object") (hcX _ x221)
  obtain ⟨a3, r3, r3'⟩ := arr_ref (C := "ArenaNetwork$Scale") (hcX _ x51)
  obtain ⟨tA, hT⟩ : ∃ tA : Nat → ClassId, ∀ t : Nat, t < aN → ArrOfT s (tA t) (aTy t) ∧ va_RA s (tA t) (aTy t) := by
    refine ⟨fun t => match t with | 0 => a0 | 1 => a1 | 2 => a2 | 3 => a3 | 4 => a2 | _ => a0, ?_⟩
    intro t ht
    match t, ht with
    | 0, _ => exact ⟨r0, r0'⟩
    | 1, _ => exact ⟨r1, r1'⟩
    | 2, _ => exact ⟨r2, r2'⟩
    | 3, _ => exact ⟨r3, r3'⟩
    | 4, _ => exact ⟨r2, r2'⟩
    | 5, _ => exact ⟨r0, r0'⟩
    | t + 6, ht => exact absurd (show t + 6 < 6 from ht) (by omega)
  -- the empty array
  have hlen : (Term.length (.static zC zN zD)).eval #[Value.ref b] s none [] s = some (.int (Int32.ofNat 0)) := va_eqt (hs (Cond.eq (.length (.static zC zN zD)) (.int 0)) (by decide +kernel))
  obtain ⟨z, hz1, hz2⟩ := va_Tof (tm := .static zC zN zD) (ty := .object "java/lang/Object") (N := 0) (f := fun _ => .null) (A := fun _ => False) (by decide) (hs _ (by decide +kernel)) hlen (fun j hj => absurd hj (Nat.not_lt_zero j)) (fun _ _ h => h)
  have hZ : va_Z zC zN zD (.ref z) (fun q => s.heap.size ≤ q) s s.heap := va_Zref (hts (.laysStatic zC zN zD) (List.mem_of_getElem? (i := 72) rfl)) (hgd _ q4) hz1 hA
  obtain ⟨mi, hmi⟩ := va_Mi.of (C := mC) (hs _ (by decide +kernel))
  obtain ⟨scr, s1, s2, s3, s4, s5⟩ := hX
  obtain ⟨zc, z1, z2, z3, z4, z5, z6, -⟩ := hz2
  have hzl : z < s.heap.size := (Array.getElem?_eq_some_iff.mp z1).1
  have hbz : b ≠ z := by
    intro e
    subst e
    cases s1.symm.trans z1
    obtain ⟨-, k1, g1, co1, g2⟩ := s2
    obtain ⟨-, k2, g3, co2, g4⟩ := z2
    cases g1.symm.trans g3
    cases g2.symm.trans g4
  obtain ⟨w', hw⟩ := hpure b z mi s.heap.size L xs hL hbl hzl hbz
  rw [lg_entry_eq]
  have hl := lv_entry [Value.ref b] (n := 4) (Nat.le_of_ble_eq_true rfl)
  have hHm : cHm (s.heap.size, D, tA) s (wIni b z mi s.heap.size L xs).1 s.heap := by
    intro a x ha
    have ha : (if a = b then some (.inl (5, L, .inl xs)) else if a = z then some (.inl (4, 0, .inr (.inr (.inr (.inr (fun _ => none)))))) else none : Option cE) = some x := ha
    by_cases c1 : a = b
    · rw [if_pos c1] at ha
      cases ha
      subst c1
      unfold cAt
      dsimp only
      rw [if_neg (by decide)]
      exact ⟨scr, s1, s2, s3, by rw [s4]; exact Nat.le_refl _, by rw [s4], fun j hj => s5 j hj, fun h => h⟩
    · rw [if_neg c1] at ha
      by_cases c2 : a = z
      · rw [if_pos c2] at ha
        cases ha
        subst c2
        unfold cAt
        dsimp only
        rw [if_neg (by decide)]
        exact ⟨zc, z1, z2, z3, z4, z5, fun j hj => absurd hj (Nat.not_lt_zero j), fun h => h⟩
      · rw [if_neg c2] at ha
        cases ha
  have hwr : ∀ (a : Nat) (x : cE), (wIni b z mi s.heap.size L xs).1 a = some x → wrE x = true → False := by
    intro a x ha hx
    have ha : (if a = b then some (.inl (5, L, .inl xs)) else if a = z then some (.inl (4, 0, .inr (.inr (.inr (.inr (fun _ => none)))))) else none : Option cE) = some x := ha
    by_cases c1 : a = b
    · rw [if_pos c1] at ha
      cases ha
      exact absurd (show false = true from hx) (by decide)
    · rw [if_neg c1] at ha
      by_cases c2 : a = z
      · rw [if_pos c2] at ha
        cases ha
        exact absurd (show false = true from hx) (by decide)
      · rw [if_neg c2] at ha
        cases ha
  have hok : okw (s.heap.size, D, tA) (wIni b z mi s.heap.size L xs) s := ⟨⟨⟨hD, fun k q h => by simp at h⟩, hT, hcX⟩, ⟨hZ, hmi⟩, rfl, hHm, Nat.le_refl _, fun a x h1 h2 => (hwr a x h1 h2).elim⟩
  exact tW_law (C := (p, l, e, room_1, s, m, #[Value.ref b], below, meth, c, lw_Z below #[Value.ref b] s, 4, (s.heap.size, D, tA), wIni b z mi s.heap.size L xs)) (w0 := wIni b z mi s.heap.size L xs) (r := 1) ⟨hx, hb, hml, rfl, hown, hgd, hok, hlocks⟩ ⟨hr, rfl, ⟨b, rfl⟩, rfl, rfl, rfl⟩ rfl b _ hw s.heap [] _ ⟨rfl, hHm, fun a x h1 h2 => (hwr a x h1 h2).elim, va_S.rf, rfl⟩ hl
