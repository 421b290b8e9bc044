/-! THE LAYER V: what ArrayList's own code needs: copies of arrays of references (kind aO), their class objects, casts to Object[] -/
section VJDK
variable {C : xC} {cc : ByteArray} {nL : Nat} {own : String} {Ts : List Cond} {w : cW} {k n pc : Nat} {lv : List (Nat × Value)} {st : List Value} {β : Type} {z : β}
def cpQ (w : cW) (rs : Option Nat) (sp : Int32) (rd : Option Nat) (dp i : Int32) : Option cW := (cArr w rs).bind fun q => (cArr w rd).bind fun u => match q.2.2.2 with
  | .inr (.inr (.inr (.inr f))) => match u.2.2.2 with
    | .inr (.inr (.inr (.inr g))) => if q.2.1 = aO ∧ u.2.1 = aO ∧ ¬ sp < 0 ∧ ¬ dp < 0 ∧ ¬ i < 0 ∧ sp.toNatClampNeg + i.toNatClampNeg ≤ q.2.2.1 ∧ dp.toNatClampNeg + i.toNatClampNeg ≤ u.2.2.1 ∧ (List.range i.toNatClampNeg).all (fun j => qOk w aO (f (sp.toNatClampNeg + j))) = true then some (va_up w.1 u.1 (some (.inl (aO, u.2.2.1, .inr (.inr (.inr (.inr (va_cpy f g sp.toNatClampNeg dp.toNatClampNeg i.toNatClampNeg))))))), w.2) else none
    | _ => none
  | _ => none
theorem cpQ_of {w w' : cW} {rs rd : Option Nat} {sp dp i : Int32} (h : cpQ w rs sp rd dp i = some w') : ∃ a0 a n0 n1 f g, rs = some a0 ∧ rd = some a ∧ w.1 a0 = some (.inl (aO, n0, .inr (.inr (.inr (.inr f))))) ∧ w.1 a = some (.inl (aO, n1, .inr (.inr (.inr (.inr g))))) ∧ ¬ sp < 0 ∧ ¬ dp < 0 ∧ ¬ i < 0 ∧ sp.toNatClampNeg + i.toNatClampNeg ≤ n0 ∧ dp.toNatClampNeg + i.toNatClampNeg ≤ n1 ∧ (∀ j, j < i.toNatClampNeg → qOk w aO (f (sp.toNatClampNeg + j)) = true) ∧ w' = (va_up w.1 a (some (.inl (aO, n1, .inr (.inr (.inr (.inr (va_cpy f g sp.toNatClampNeg dp.toNatClampNeg i.toNatClampNeg))))))), w.2) := by
  obtain ⟨⟨a0, t0, n0, y0⟩, h0, hz⟩ := ob h
  obtain ⟨⟨a1, t1, n1, y1⟩, h1, hy⟩ := ob hz
  obtain ⟨rfl, g0⟩ := cArr_of h0
  obtain ⟨rfl, g1⟩ := cArr_of h1
  rcases y0 with f | f | f | f | f
  · cases hy
  · cases hy
  · cases hy
  · cases hy
  · rcases y1 with g | g | g | g | g
    · cases hy
    · cases hy
    · cases hy
    · cases hy
    · try dsimp only at hy
      by_cases hc : t0 = aO ∧ t1 = aO ∧ ¬ sp < 0 ∧ ¬ dp < 0 ∧ ¬ i < 0 ∧ sp.toNatClampNeg + i.toNatClampNeg ≤ n0 ∧ dp.toNatClampNeg + i.toNatClampNeg ≤ n1 ∧ (List.range i.toNatClampNeg).all (fun j => qOk w aO (f (sp.toNatClampNeg + j))) = true
      · rw [if_pos hc] at hy
        obtain ⟨rfl, rfl, c1, c2, c3, c4, c5, c6⟩ := hc
        cases hy
        exact ⟨a0, a1, n0, n1, f, g, rfl, rfl, g0, g1, c1, c2, c3, c4, c5, fun j hj => List.all_eq_true.mp c6 j (List.mem_range.mpr hj), rfl⟩
      · rw [if_neg hc] at hy
        cases hy
theorem v_copyQ {index : Nat} {rs rd : Option Nat} {sp dp i : Int32} {F : cW → Option β} (hC : okC C cc nL own lw_gd) (hAs : cAs C.2.2.2.2.1) (hd : decode cc pc = .ok (.invokestatic index, 3)) (hlk : Cond.methodLink own index arraycopyName ∈ lw_gd) (hnat : Cond.native arraycopyName ∈ lw_gd) (hstat : Cond.static arraycopyName ∈ lw_gd) (hini : Cond.initialized "java/lang/System" ∈ lw_gd) (hR : 1 ≤ (xR C).frames ∧ 8 + (nativeFrameWords "java/lang/System" "arraycopy" 5 + 11) ≤ (xR C).locals) (hst : (st.map fun v => v.category).sum ≤ 8) (hf : (cpQ w rs sp rd dp i).bind F = some z) (kk : ∀ w', F w' = some z → V C w' k n (pc + 3) lv st) : V C w k n pc lv (.int i :: .int dp :: va_rf rd :: .int sp :: va_rf rs :: st) := by
  have hK := hC.K
  obtain ⟨p, l, e, R, s, m, args, below, meth, c, Q, nL, G, w0⟩ := C
  obtain ⟨w', hp, hf⟩ := ob hf
  obtain ⟨a0, a, n0, n1, f, g, rfl, rfl, g0, g1, h1, h2, h3, h4, h5, h6, rfl⟩ := cpQ_of hp
  intro H locs ls hok hl T hT X
  have hts := hC.2.2.2.2.2.1
  dsimp only [xR] at hR
  have hc0 : H[a0]? = some (vp_cell (G.2.2 aO) (n0, .inr (.inr (.inr (.inr f))))) := cAt_arr (by decide) (hok.2.1 a0 _ g0)
  have hc1 : H[a]? = some (vp_cell (G.2.2 aO) (n1, .inr (.inr (.inr (.inr g))))) := cAt_arr (by decide) (hok.2.1 a _ g1)
  obtain ⟨-, k0, hk0, cm0, hkk0⟩ := (hK.2.1 aO (by decide)).1 n0 (fun j => va_rf (f j))
  obtain ⟨-, k1, hk1, cm1, hkk1⟩ := (hK.2.1 aO (by decide)).1 n1 (fun j => va_rf (g j))
  have hRA := (hK.2.1 aO (by decide)).2
  obtain ⟨vm', X', step⟩ := X.arraycopy hC.1 hC.2.2.2.2.1 (hts _ hlk) (hts _ hnat) (hts _ hstat) (hts _ hini) (src := a0) (dst := a) (cs := vp_cell (G.2.2 aO) (n0, .inr (.inr (.inr (.inr f))))) (cd := vp_cell (G.2.2 aO) (n1, .inr (.inr (.inr (.inr g))))) (srcPos := sp) (destPos := dp) (n := i) (by rw [hT]; exact hc0) (by rw [hT]; exact hc1)
    (fun _ h => by cases h) (fun _ h => by cases h) (fun h => by cases h) (fun h => by cases h) hk0 hk1 hkk0 hkk1 rfl h1 h2 h3
    (by rw [nn_clamp sp h1, nn_clamp i h3]; show ¬ _ > ((arrV _ n0 (fun j => va_rf (f j))).slots.size : Int); rw [arrV_size]; omega)
    (by rw [nn_clamp dp h2, nn_clamp i h3]; show ¬ _ > ((arrV _ n1 (fun j => va_rf (g j))).slots.size : Int); rw [arrV_size]; omega)
    (fun vm₁ hal j hj => by
      have e : (vp_cell (G.2.2 aO) (n0, .inr (.inr (.inr (.inr f))))).slots.getD (sp.toNatClampNeg + j) .null = va_rf (f (sp.toNatClampNeg + j)) := by
        show (arrV _ n0 (fun j => va_rf (f j))).slots.getD _ _ = _
        rw [Array.getD_eq_getD_getElem?, arrV_read _ _ (by omega)]
        rfl
      rw [e]
      have h6 := h6 j hj
      cases hy : f (sp.toNatClampNeg + j) with
      | none => exact ⟨rfl, trivial⟩
      | some y =>
        rw [hy] at h6
        unfold qOk at h6
        dsimp only at h6
        cases hv : w.1 y with
        | none => rw [hv] at h6; cases h6
        | some x =>
          rw [hv] at h6
          rcases x with x | ⟨ci, fs⟩
          · cases h6
          · dsimp only at h6
            obtain ⟨q, hq, cellV, q1, q2, q3, -⟩ := hok.2.1 y _ hv
            have hcl := (hK.1.1 ci q hq).2
            have hfc : s.vm.findClass q.1 = some cellV.cls := by rw [q2]; exact hcl.1
            obtain ⟨kC, hkC, -⟩ := Vm.findClass_spec hfc
            obtain ⟨kA, comp, r1, r2, r3, -⟩ := hRA
            cases hk1.symm.trans r1
            cases hkk1.symm.trans r2
            obtain ⟨kE, hkE, -⟩ := Vm.findClass_spec r3
            obtain ⟨kC', hkC', -⟩ := hal.2.2 _ _ hkC
            obtain ⟨kE', hkE', -⟩ := hal.2.2 _ _ hkE
            refine ⟨rfl, cellV, (show T.heap[y]? = some cellV by rw [hT]; exact q1), (fun q h => by rw [q3] at h; cases h), ⟨kC', hkC'⟩, ?_, ?_⟩
            · exact ⟨kE', hkE'⟩
            · show vm₁.assignable _ _ = true
              rw [hal.assignable]
              exact hAs aO ci q _ h6 rfl hq _ _ r3 hfc)
    (g := F0 m pc ls (.int i :: .int dp :: .ref a :: .int sp :: .ref a0 :: st)) rfl (by show ls.size = _; rw [hl.1, hC.2.2.1]) (rest := st) rfl (by rw [hC.2.1]; exact hd) hR.1 (by show 2 * 0 + _ + _ ≤ _; omega)
  have e1 : copied (vp_cell (G.2.2 aO) (n0, .inr (.inr (.inr (.inr f))))) (vp_cell (G.2.2 aO) (n1, .inr (.inr (.inr (.inr g))))) sp dp i = vp_cell (G.2.2 aO) (n1, .inr (.inr (.inr (.inr (va_cpy f g sp.toNatClampNeg dp.toNatClampNeg i.toNatClampNeg))))) := by
    rw [vp_cell_q, vp_cell_q, vp_cell_q]
    exact va_copied (fun z => va_rf z) _ _ f g h4
  rw [e1] at X' step
  have hla : a < H.size := (Array.getElem?_eq_some_iff.mp hc1).1
  have hheap : ((T.setVm vm').setCell a (vp_cell (G.2.2 aO) (n1, .inr (.inr (.inr (.inr (va_cpy f g sp.toNatClampNeg dp.toNatClampNeg i.toNatClampNeg))))))).heap = H.setIfInBounds a (vp_cell (G.2.2 aO) (n1, .inr (.inr (.inr (.inr (va_cpy f g sp.toNatClampNeg dp.toNatClampNeg i.toNatClampNeg)))))) := by rw [← hT]; rfl
  have oq : ∀ q : Nat, q ≠ a → (H.setIfInBounds a (vp_cell (G.2.2 aO) (n1, .inr (.inr (.inr (.inr (va_cpy f g sp.toNatClampNeg dp.toNatClampNeg i.toNatClampNeg)))))))[q]? = H[q]? := fun q hq => by simp [Array.getElem?_setIfInBounds, Ne.symm hq]
  obtain ⟨t, a1, b1⟩ := kk _ hf _ _ ls (okc.puts hok g1 rfl (cAt_arr' (by decide) (show (H.setIfInBounds a _)[a]? = some _ by simp [Array.getElem?_setIfInBounds, hla])) (by simp) oq (fun q hq => by
      obtain ⟨y, -, hy⟩ := List.mem_map.mp hq
      rw [← hy])) hl _ hheap X'
  exact ⟨t, step t a1, b1⟩
/-- an array of kind aO, whose class object is asked, or that is cast to Object[] -/
def cGC (w : cW) (r : Option Nat) : Option Unit := (cArr w r).bind fun q => if q.2.1 = aO then some () else none
theorem cGC_of {w : cW} {r : Option Nat} (h : cGC w r = some ()) : ∃ a x, r = some a ∧ w.1 a = some (.inl (aO, x)) := by
  obtain ⟨⟨a, t, x⟩, h0, hy⟩ := ob h
  obtain ⟨rfl, g0⟩ := cArr_of h0
  try dsimp only at hy
  by_cases ht : t = aO
  · subst ht
    exact ⟨a, x, rfl, g0⟩
  · rw [if_neg ht] at hy
    cases hy
theorem aO_cls {G : cG} {s : State} (hK : cK G s) : s.vm.findClass mC = some (G.2.2 aO) := by
  obtain ⟨_, _, _, _, _, h⟩ := (hK.2.1 aO (by decide)).2
  exact h
theorem v_castA {index : Nat} {r : Option Nat} {F : Unit → Option β} (hC : okC C cc nL own lw_gd) (hd : decode cc pc = .ok (.checkcast index, 3)) (hcl : Cond.classLink own index mC ∈ lw_gd) (hf : (cGC w r).bind F = some z) (kk : F () = some z → V C w k n (pc + 3) lv (va_rf r :: st)) : V C w k n pc lv (va_rf r :: st) := by
  have hK := hC.K
  obtain ⟨p, l, e, R, s, m, args, below, meth, c, Q, nL, G, w0⟩ := C
  obtain ⟨⟨⟩, hx, hf1⟩ := ob hf
  obtain ⟨a, x, rfl, ha⟩ := cGC_of hx
  intro H locs ls hok hl
  exact va_castA (D := G.2.1) (cl := vwCl) hC.1 hC.2.1 hC.2.2.2.2.1 (hC.2.2.2.2.2.1 _ hcl) (va_P1 (q := (a, .inl (G.2.2 aO, x))) (cAt_arr (by decide) (hok.2.1 a _ ha))) 0 rfl (aO_cls hK) hd (kk hf1 H locs ls hok hl)
abbrev yGC : MethodName := ⟨"java/lang/Object", "getClass", "()Ljava/lang/Class;"⟩
theorem v_getC {index : Nat} {r : Option Nat} {F : Unit → Option β} (hC : okC C cc nL own lw_gd) (hd : decode cc pc = .ok (.invokevirtual index, 3)) (hlk : Cond.methodLink own index yGC ∈ lw_gd) (hnat : Cond.native yGC ∈ lw_gd) (hinst : Cond.instanceMethod yGC ∈ lw_gd) (hsel : Cond.selects mC yGC yGC ∈ lw_ex ∨ Cond.selects mC yGC yGC ∈ lw_gd) (hdc : Cond.declares yGC ∈ lw_ex ∨ Cond.declares yGC ∈ lw_gd) (hR : 1 ≤ (xR C).frames ∧ 22 ≤ (xR C).locals) (hst : (st.map fun v => v.category).sum ≤ 8) (hf : (cGC w r).bind F = some z) (kk : F () = some z → V C w k n (pc + 3) lv (va_rf (some w.2.2.2) :: st)) : V C w k n pc lv (va_rf r :: st) := by
  have hK := hC.K
  obtain ⟨p, l, e, R, s, m, args, below, meth, c, Q, nL, G, w0⟩ := C
  obtain ⟨⟨⟩, hx, hf1⟩ := ob hf
  obtain ⟨a, x, rfl, ha⟩ := cGC_of hx
  intro H locs ls hok hl
  have hts := hC.2.2.2.2.2.1
  have h0 := hC.2.2.2.2.2.2.1
  dsimp only [xR] at hR
  have hk2 := kk hf1 H locs ls hok hl
  rw [hok.2.2.2.2] at hk2
  have hs2 : (Cond.selects mC yGC yGC).before args s = true := by
    rcases hsel with h | h
    · exact va_Nw.use rfl (hK.2.2 _ h)
    · exact hts _ h
  have hs3 : (Cond.declares yGC).before args s = true := by
    rcases hdc with h | h
    · exact va_Nw.use rfl (hK.2.2 _ h)
    · exact hts _ h
  have hc1 := cAt_arr (x := x) (t := aO) (by decide) (hok.2.1 a _ ha)
  have hvm0 : (vp_cell (G.2.2 aO) x).vm = .none := by
    obtain ⟨n, f | f | f | f | f⟩ := x <;> rfl
  have hcl0 : (vp_cell (G.2.2 aO) x).cls = G.2.2 aO := by
    obtain ⟨n, f | f | f | f | f⟩ := x <;> rfl
  exact va_getC hC.1 hC.2.1 (by rw [hC.2.2.1]; exact hl.1.symm) hC.2.2.2.2.1 (hts _ hlk) hs3 hs2 (hts _ hinst) (hts _ hnat) h0.2.1.2 ⟨_, hc1, by rw [hvm0]; rfl, by rw [hcl0]; exact aO_cls hK⟩ hR.1 (by omega) hd hk2
end VJDK
