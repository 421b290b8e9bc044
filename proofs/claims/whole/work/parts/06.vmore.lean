/-! THE LAYER V: fields by their types, the JDK's own members that have rows, loops -/
def lp {τ : Type} (bot : τ) (body : τ → τ) : Nat → τ
  | 0 => bot
  | n + 1 => body (lp bot body n)
theorem lp_P {τ : Type} {bot : τ} {body : τ → τ} {P : τ → Prop} (h0 : P bot) (hs : ∀ f, P f → P (body f)) : ∀ n, P (lp bot body n)
  | 0 => h0
  | n + 1 => hs _ (lp_P h0 hs n)
/-- how often a loop may go round -/
def FU : Nat := 5000
section VMORE
variable {C : xC} {cc : ByteArray} {nL : Nat} {own : String} {Ts : List Cond} {w : cW} {k n pc : Nat} {lv : List (Nat × Value)} {st : List Value} {β : Type} {z : β}
theorem v_iincB {i : Nat} {j : Int} {x v : Int32} {F : Int32 → Option β} (hC : okC C cc nL own Ts) (hd : decode cc pc = .ok (.iinc i j, 3)) (q : Nat) (hq : lv[q]? = some (i, .int x)) (hv : Int32.ofInt j = v) (hn : i < nL) (lv' : Int32 → List (Nat × Value)) (hl' : ∀ y : Int32, (i, Value.int y) :: lv.filter (fun q => !(q.1 == i) && !(q.1 + 1 == i && q.2.category == 2)) = lv' y) (hf : bnd (x + v) F = some z) (kk : ∀ y : Int32, F y = some z → V C w k n (pc + 3) (lv' y) st) : V C w k n pc lv st :=
  v_iinc hC hd q hq (by rw [hv]) hn (lv' (x + v)) (hl' (x + v)) (kk (x + v) hf)
theorem narrow_rf {ty : FieldType} (h : (∃ N, ty = .object N) ∨ ∃ t, ty = .array t) (r : Option Nat) : narrow ty (va_rf r) = va_rf r := by
  rcases h with ⟨N, rfl⟩ | ⟨t, rfl⟩ <;> cases r <;> rfl
theorem fits_rf {ty : FieldType} (h : (∃ N, ty = .object N) ∨ ∃ t, ty = .array t) (r : Option Nat) : fits ty (va_rf r) = true := by
  rcases h with ⟨N, rfl⟩ | ⟨t, rfl⟩ <;> cases r <;> rfl
theorem pZ_of {w w' : cW} {r : Option Nat} {ci j : Nat} {x : Int32} (h : pZ w r ci j x = some w') : (x = 0 ∨ x = 1) ∧ pF w r ci j (.int x) = some w' := by
  unfold pZ at h
  by_cases hx : x = 0 ∨ x = 1
  · rw [if_pos hx] at h
    exact ⟨hx, h⟩
  · rw [if_neg hx] at h
    cases h
section PUTS
variable {ref CN : String} {T : u_T} {N ci index : Nat} {r : Option Nat} {F : cW → Option β}
theorem v_putI {x : Int32} (hC : okC C cc nL own Ts) (hd : decode cc pc = .ok (.putfield index, 3)) (hin : ∀ x ∈ u_ws CN T N, x ∈ Ts) (hc : vwCl[ci]? = some (CN, T, N)) (ty0 : Nat → FieldType) (hty : ∀ k, k < N → parseFieldDescriptor (T k).2.2.1 = some (ty0 k)) (hnm : ∀ a, a < N → ∀ b, b < N → a ≠ b → (T a).2.1 ≠ (T b).2.1) (j : Nat) (hj : j < N) (hlink : Cond.fieldLink own index ref (T j).2.1 (T j).2.2.1 ∈ Ts) (hsm : ref = (T j).1 ∨ Cond.sameField ref (T j).1 (T j).2.1 (T j).2.2.1 ∈ Ts) (hfin : (T j).2.2.2 = false) (hdt : parseFieldDescriptor (T j).2.2.1 = some .int) (hf : (pI w r ci j x).bind F = some z) (kk : ∀ w', F w' = some z → V C w' k n (pc + 3) lv st) : V C w k n pc lv (.int x :: va_rf r :: st) := by
  obtain ⟨w', hp, hf⟩ := ob hf
  exact v_putF hC hd hin hc ty0 hty hnm j hj hlink hsm hfin hdt rfl rfl hp (kk w' hf)
theorem v_putZ {x : Int32} (hC : okC C cc nL own Ts) (hd : decode cc pc = .ok (.putfield index, 3)) (hin : ∀ x ∈ u_ws CN T N, x ∈ Ts) (hc : vwCl[ci]? = some (CN, T, N)) (ty0 : Nat → FieldType) (hty : ∀ k, k < N → parseFieldDescriptor (T k).2.2.1 = some (ty0 k)) (hnm : ∀ a, a < N → ∀ b, b < N → a ≠ b → (T a).2.1 ≠ (T b).2.1) (j : Nat) (hj : j < N) (hlink : Cond.fieldLink own index ref (T j).2.1 (T j).2.2.1 ∈ Ts) (hsm : ref = (T j).1 ∨ Cond.sameField ref (T j).1 (T j).2.1 (T j).2.2.1 ∈ Ts) (hfin : (T j).2.2.2 = false) (hdt : parseFieldDescriptor (T j).2.2.1 = some .boolean) (hf : (pZ w r ci j x).bind F = some z) (kk : ∀ w', F w' = some z → V C w' k n (pc + 3) lv st) : V C w k n pc lv (.int x :: va_rf r :: st) := by
  obtain ⟨w', hp, hf⟩ := ob hf
  obtain ⟨hx, hp⟩ := pZ_of hp
  exact v_putF hC hd hin hc ty0 hty hnm j hj hlink hsm hfin hdt (by rcases hx with rfl | rfl <;> rfl) (by rcases hx with rfl | rfl <;> rfl) hp (kk w' hf)
theorem v_putQ {x : Option Nat} {ty : FieldType} (hC : okC C cc nL own Ts) (hd : decode cc pc = .ok (.putfield index, 3)) (hin : ∀ x ∈ u_ws CN T N, x ∈ Ts) (hc : vwCl[ci]? = some (CN, T, N)) (ty0 : Nat → FieldType) (hty : ∀ k, k < N → parseFieldDescriptor (T k).2.2.1 = some (ty0 k)) (hnm : ∀ a, a < N → ∀ b, b < N → a ≠ b → (T a).2.1 ≠ (T b).2.1) (j : Nat) (hj : j < N) (hlink : Cond.fieldLink own index ref (T j).2.1 (T j).2.2.1 ∈ Ts) (hsm : ref = (T j).1 ∨ Cond.sameField ref (T j).1 (T j).2.1 (T j).2.2.1 ∈ Ts) (hfin : (T j).2.2.2 = false) (hdt : parseFieldDescriptor (T j).2.2.1 = some ty) (hrt : (∃ N, ty = .object N) ∨ ∃ t, ty = .array t) (hf : (pQ w r ci j x).bind F = some z) (kk : ∀ w', F w' = some z → V C w' k n (pc + 3) lv st) : V C w k n pc lv (va_rf x :: va_rf r :: st) := by
  obtain ⟨w', hp, hf⟩ := ob hf
  exact v_putF hC hd hin hc ty0 hty hnm j hj hlink hsm hfin hdt (narrow_rf hrt x) (fits_rf hrt x) hp (kk w' hf)
theorem v_putCI {x : Int32} (hC : okC C cc nL own Ts) (hd : decode cc pc = .ok (.putfield index, 3)) (hin : ∀ x ∈ u_ws CN T N, x ∈ Ts) (hc : vwCl[ci]? = some (CN, T, N)) (ty0 : Nat → FieldType) (hty : ∀ k, k < N → parseFieldDescriptor (T k).2.2.1 = some (ty0 k)) (hnm : ∀ a, a < N → ∀ b, b < N → a ≠ b → (T a).2.1 ≠ (T b).2.1) (j : Nat) (hj : j < N) (hlink : Cond.fieldLink own index (T j).1 (T j).2.1 (T j).2.2.1 ∈ Ts) (hfin : (T j).2.2.2 = true) (hname : (xmeth C).name = "<init>") (hdecl : (T j).1 = own) (hdt : parseFieldDescriptor (T j).2.2.1 = some .int) (hf : (pI w r ci j x).bind F = some z) (kk : ∀ w', F w' = some z → V C w' k n (pc + 3) lv st) : V C w k n pc lv (.int x :: va_rf r :: st) := by
  obtain ⟨w', hp, hf⟩ := ob hf
  exact v_putC hC hd hin hc ty0 hty hnm j hj hlink hfin hname hdecl hdt rfl rfl hp (kk w' hf)
theorem v_putCQ {x : Option Nat} {ty : FieldType} (hC : okC C cc nL own Ts) (hd : decode cc pc = .ok (.putfield index, 3)) (hin : ∀ x ∈ u_ws CN T N, x ∈ Ts) (hc : vwCl[ci]? = some (CN, T, N)) (ty0 : Nat → FieldType) (hty : ∀ k, k < N → parseFieldDescriptor (T k).2.2.1 = some (ty0 k)) (hnm : ∀ a, a < N → ∀ b, b < N → a ≠ b → (T a).2.1 ≠ (T b).2.1) (j : Nat) (hj : j < N) (hlink : Cond.fieldLink own index (T j).1 (T j).2.1 (T j).2.2.1 ∈ Ts) (hfin : (T j).2.2.2 = true) (hname : (xmeth C).name = "<init>") (hdecl : (T j).1 = own) (hdt : parseFieldDescriptor (T j).2.2.1 = some ty) (hrt : (∃ N, ty = .object N) ∨ ∃ t, ty = .array t) (hf : (pQ w r ci j x).bind F = some z) (kk : ∀ w', F w' = some z → V C w' k n (pc + 3) lv st) : V C w k n pc lv (va_rf x :: va_rf r :: st) := by
  obtain ⟨w', hp, hf⟩ := ob hf
  exact v_putC hC hd hin hc ty0 hty hnm j hj hlink hfin hname hdecl hdt (narrow_rf hrt x) (fits_rf hrt x) hp (kk w' hf)
end PUTS
theorem v_mmax {index : Nat} {x y : Int32} (hC : okC C cc nL own lw_gd) (hd : decode cc pc = .ok (.invokestatic index, 3)) (hlk : Cond.methodLink own index Lib.Math.max.name ∈ lw_gd) (hin : Cond.static Lib.Math.max.name ∈ lw_gd) (hini : Cond.initialized "java/lang/Math" ∈ lw_gd) (hcd : Cond.code Lib.Math.max.name Lib.Math.max.code 2 (some .int) ∈ lw_gd) (hR : 1 ≤ (xR C).frames ∧ 21 ≤ (xR C).locals) (hst : (st.map fun v => v.category).sum ≤ 8) (hkn : k ≤ (xR C).cells ∧ n ≤ (xR C).slots) (kk : V C w k n (pc + 3) lv (.int (if x < y then y else x) :: st)) : V C w k n pc lv (.int y :: .int x :: st) := by
  obtain ⟨p, l, e, R, s, m, args, below, meth, c, Q, nL, G, w0⟩ := C
  intro H locs ls hok hl
  have hts := hC.2.2.2.2.2.1
  dsimp only [xR] at hR hkn
  exact va_mmax hC.1 hC.2.1 (by rw [hC.2.2.1]; exact hl.1.symm) hC.2.2.2.2.1 (hts _ hlk) (hts _ hin) (hts _ hini) (hts _ hcd) hR.1 (by omega) hkn.1 hkn.2 hd (kk H locs ls hok hl)
theorem v_mmin {index : Nat} {x y : Int32} (hC : okC C cc nL own lw_gd) (hd : decode cc pc = .ok (.invokestatic index, 3)) (hlk : Cond.methodLink own index Lib.Math.min.name ∈ lw_gd) (hin : Cond.static Lib.Math.min.name ∈ lw_gd) (hini : Cond.initialized "java/lang/Math" ∈ lw_gd) (hcd : Cond.code Lib.Math.min.name Lib.Math.min.code 2 (some .int) ∈ lw_gd) (hR : 1 ≤ (xR C).frames ∧ 21 ≤ (xR C).locals) (hst : (st.map fun v => v.category).sum ≤ 8) (hkn : k ≤ (xR C).cells ∧ n ≤ (xR C).slots) (kk : V C w k n (pc + 3) lv (.int (if y < x then y else x) :: st)) : V C w k n pc lv (.int y :: .int x :: st) := by
  obtain ⟨p, l, e, R, s, m, args, below, meth, c, Q, nL, G, w0⟩ := C
  intro H locs ls hok hl
  have hts := hC.2.2.2.2.2.1
  dsimp only [xR] at hR hkn
  exact va_mmin hC.1 hC.2.1 (by rw [hC.2.2.1]; exact hl.1.symm) hC.2.2.2.2.1 (hts _ hlk) (hts _ hin) (hts _ hini) (hts _ hcd) hR.1 (by omega) hkn.1 hkn.2 hd (kk H locs ls hok hl)
theorem v_mabsl {index : Nat} {x : Int64} (hC : okC C cc nL own lw_gd) (hd : decode cc pc = .ok (.invokestatic index, 3)) (hlk : Cond.methodLink own index Lib.MathLoose.abs_long.x ∈ lw_gd) (hin : Cond.static Lib.MathLoose.abs_long.x ∈ lw_gd) (hini : Cond.initialized "java/lang/Math" ∈ lw_gd) (hcd : Cond.code Lib.MathLoose.abs_long.x Lib.MathLoose.abs_long.code 2 (some .long) ∈ lw_gd) (hR : 1 ≤ (xR C).frames ∧ 21 ≤ (xR C).locals) (hst : (st.map fun v => v.category).sum ≤ 8) (hkn : k ≤ (xR C).cells ∧ n ≤ (xR C).slots) (kk : V C w k n (pc + 3) lv (.long (if 0 < x then x else -x) :: st)) : V C w k n pc lv (.long x :: st) := by
  obtain ⟨p, l, e, R, s, m, args, below, meth, c, Q, nL, G, w0⟩ := C
  intro H locs ls hok hl
  have hts := hC.2.2.2.2.2.1
  dsimp only [xR] at hR hkn
  exact va_mabs_long hC.1 hC.2.1 (by rw [hC.2.2.1]; exact hl.1.symm) hC.2.2.2.2.1 (hts _ hlk) (hts _ hin) (hts _ hini) (hts _ hcd) hR.1 (by omega) hkn.1 hkn.2 hd (kk H locs ls hok hl)
/-- ArrayList's empty array, out of its static field -/
theorem v_gets {index : Nat} (hC : okC C cc nL own lw_gd) (hd : decode cc pc = .ok (.getstatic index, 3)) (hlk : Cond.fieldLink own index zC zN zD ∈ lw_gd) (kk : V C w k n (pc + 3) lv (va_rf (some w.2.2.1) :: st)) : V C w k n pc lv st := by
  obtain ⟨p, l, e, R, s, m, args, below, meth, c, Q, nL, G, w0⟩ := C
  intro H locs ls hok hl
  have hts := hC.2.2.2.2.2.1
  have h0 := hC.2.2.2.2.2.2.1
  have hz := h0.2.1.1
  have hk2 := kk H locs ls hok hl
  rw [hok.2.2.2.2] at hk2
  exact va_gets (A := Aw w0) (v := .ref w0.2.2.1) hC.1 hC.2.1 (hz.narrow (fun q hq => Aw_base h0 hq)) hok.2.2.2.1 hC.2.2.2.2.1 (hts _ hlk) (fun _ q => q) hd hk2
/-- the class object of Object[] -/
theorem v_ldcM {index : Nat} (hC : okC C cc nL own lw_gd) (hd : decode cc pc = .ok (.ldc index, 2)) (hlk : Cond.classLink own index mC ∈ lw_gd) (kk : V C w k n (pc + 2) lv (va_rf (some w.2.2.2) :: st)) : V C w k n pc lv st := by
  obtain ⟨p, l, e, R, s, m, args, below, meth, c, Q, nL, G, w0⟩ := C
  intro H locs ls hok hl
  have hts := hC.2.2.2.2.2.1
  have h0 := hC.2.2.2.2.2.2.1
  have hk2 := kk H locs ls hok hl
  rw [hok.2.2.2.2] at hk2
  exact va_ldcM hC.1 hC.2.1 hC.2.2.2.2.1 (hts _ hlk) h0.2.1.2 hd hk2
/-- System.arraycopy between arrays of ints -/
def cpI (w : cW) (rs : Option Nat) (sp : Int32) (rd : Option Nat) (dp i : Int32) : Option cW := (cArr w rs).bind fun q => (cArr w rd).bind fun u => match q.2.2.2 with
  | .inl f => match u.2.2.2 with
    | .inl g => if q.2.1 = 0 ∧ u.2.1 = 0 ∧ ¬ sp < 0 ∧ ¬ dp < 0 ∧ ¬ i < 0 ∧ sp.toNatClampNeg + i.toNatClampNeg ≤ q.2.2.1 ∧ dp.toNatClampNeg + i.toNatClampNeg ≤ u.2.2.1 then some (va_up w.1 u.1 (some (.inl (0, u.2.2.1, .inl (va_cpy f g sp.toNatClampNeg dp.toNatClampNeg i.toNatClampNeg)))), w.2) else none
    | _ => none
  | _ => none
theorem cpI_of {w w' : cW} {rs rd : Option Nat} {sp dp i : Int32} (h : cpI w rs sp rd dp i = some w') : ∃ a0 a n0 n1 f g, rs = some a0 ∧ rd = some a ∧ w.1 a0 = some (.inl (0, n0, .inl f)) ∧ w.1 a = some (.inl (0, n1, .inl g)) ∧ ¬ sp < 0 ∧ ¬ dp < 0 ∧ ¬ i < 0 ∧ sp.toNatClampNeg + i.toNatClampNeg ≤ n0 ∧ dp.toNatClampNeg + i.toNatClampNeg ≤ n1 ∧ w' = (va_up w.1 a (some (.inl (0, n1, .inl (va_cpy f g sp.toNatClampNeg dp.toNatClampNeg i.toNatClampNeg)))), w.2) := by
  obtain ⟨⟨a0, t0, n0, y0⟩, h0, hz⟩ := ob h
  obtain ⟨⟨a1, t1, n1, y1⟩, h1, hy⟩ := ob hz
  obtain ⟨rfl, g0⟩ := cArr_of h0
  obtain ⟨rfl, g1⟩ := cArr_of h1
  rcases y0 with f | y0
  · rcases y1 with g | y1
    · try dsimp only at hy
      by_cases hc : t0 = 0 ∧ t1 = 0 ∧ ¬ sp < 0 ∧ ¬ dp < 0 ∧ ¬ i < 0 ∧ sp.toNatClampNeg + i.toNatClampNeg ≤ n0 ∧ dp.toNatClampNeg + i.toNatClampNeg ≤ n1
      · rw [if_pos hc] at hy
        obtain ⟨rfl, rfl, c1, c2, c3, c4, c5⟩ := hc
        cases hy
        exact ⟨a0, a1, n0, n1, f, g, rfl, rfl, g0, g1, c1, c2, c3, c4, c5, rfl⟩
      · rw [if_neg hc] at hy
        cases hy
    · cases hy
  · cases hy
theorem nn_clamp : ∀ z : Int32, ¬ z < 0 → z.toInt = (z.toNatClampNeg : Int) := by
  intro z hz
  have hz0 : (0 : Int) ≤ z.toInt := by
    have := Int32.not_lt.mp hz
    simpa using Int32.le_iff_toInt_le.mp this
  show z.toInt = ((z.toInt.toNat : Nat) : Int)
  omega
theorem v_copyI {index : Nat} {rs rd : Option Nat} {sp dp i : Int32} {F : cW → Option β} (hC : okC C cc nL own lw_gd) (hd : decode cc pc = .ok (.invokestatic index, 3)) (hlk : Cond.methodLink own index arraycopyName ∈ lw_gd) (hnat : Cond.native arraycopyName ∈ lw_gd) (hstat : Cond.static arraycopyName ∈ lw_gd) (hini : Cond.initialized "java/lang/System" ∈ lw_gd) (hR : 1 ≤ (xR C).frames ∧ 8 + (nativeFrameWords "java/lang/System" "arraycopy" 5 + 11) ≤ (xR C).locals) (hst : (st.map fun v => v.category).sum ≤ 8) (hf : (cpI w rs sp rd dp i).bind F = some z) (kk : ∀ w', F w' = some z → V C w' k n (pc + 3) lv st) : V C w k n pc lv (.int i :: .int dp :: va_rf rd :: .int sp :: va_rf rs :: st) := by
  have hK := hC.K
  obtain ⟨p, l, e, R, s, m, args, below, meth, c, Q, nL, G, w0⟩ := C
  obtain ⟨w', hp, hf⟩ := ob hf
  obtain ⟨a0, a, n0, n1, f, g, rfl, rfl, g0, g1, h1, h2, h3, h4, h5, rfl⟩ := cpI_of hp
  intro H locs ls hok hl T hT X
  have hts := hC.2.2.2.2.2.1
  dsimp only [xR] at hR
  have hc0 : H[a0]? = some (vp_cell (G.2.2 0) (n0, .inl f)) := cAt_arr (by decide) (hok.2.1 a0 _ g0)
  have hc1 : H[a]? = some (vp_cell (G.2.2 0) (n1, .inl g)) := cAt_arr (by decide) (hok.2.1 a _ g1)
  obtain ⟨-, k0, hk0, cm0, hkk0⟩ := (hK.2.1 0 (by decide)).1 n0 (fun j => .int (f j))
  obtain ⟨-, k1, hk1, cm1, hkk1⟩ := (hK.2.1 0 (by decide)).1 n1 (fun j => .int (g j))
  obtain ⟨vm', X', step⟩ := X.arraycopy hC.1 hC.2.2.2.2.1 (hts _ hlk) (hts _ hnat) (hts _ hstat) (hts _ hini) (src := a0) (dst := a) (cs := vp_cell (G.2.2 0) (n0, .inl f)) (cd := vp_cell (G.2.2 0) (n1, .inl g)) (srcPos := sp) (destPos := dp) (n := i) (by rw [hT]; exact hc0) (by rw [hT]; exact hc1)
    (fun _ h => by cases h) (fun _ h => by cases h) (fun h => by cases h) (fun h => by cases h) hk0 hk1 hkk0 hkk1 (by decide) h1 h2 h3
    (by rw [nn_clamp sp h1, nn_clamp i h3]; show ¬ _ > ((arrV _ n0 (fun j => .int (f j))).slots.size : Int); rw [arrV_size]; omega)
    (by rw [nn_clamp dp h2, nn_clamp i h3]; show ¬ _ > ((arrV _ n1 (fun j => .int (g j))).slots.size : Int); rw [arrV_size]; omega)
    (fun vm₁ _ j hj => by
      have e : (vp_cell (G.2.2 0) (n0, .inl f)).slots.getD (sp.toNatClampNeg + j) .null = .int (f (sp.toNatClampNeg + j)) := by
        show (arrV _ n0 (fun j => .int (f j))).slots.getD _ _ = _
        rw [Array.getD_eq_getD_getElem?, arrV_read _ _ (by omega)]
        rfl
      refine ⟨?_, ?_⟩
      · rw [e]
        rfl
      · rw [e]
        exact trivial)
    (g := F0 m pc ls (.int i :: .int dp :: .ref a :: .int sp :: .ref a0 :: st)) rfl (by show ls.size = _; rw [hl.1, hC.2.2.1]) (rest := st) rfl (by rw [hC.2.1]; exact hd) hR.1 (by show 2 * 0 + _ + _ ≤ _; omega)
  have e1 : copied (vp_cell (G.2.2 0) (n0, .inl f)) (vp_cell (G.2.2 0) (n1, .inl g)) sp dp i = vp_cell (G.2.2 0) (n1, .inl (va_cpy f g sp.toNatClampNeg dp.toNatClampNeg i.toNatClampNeg)) := va_copied (fun z => .int z) _ _ f g h4
  rw [e1] at X' step
  have hla : a < H.size := (Array.getElem?_eq_some_iff.mp hc1).1
  have hheap : ((T.setVm vm').setCell a (vp_cell (G.2.2 0) (n1, .inl (va_cpy f g sp.toNatClampNeg dp.toNatClampNeg i.toNatClampNeg)))).heap = H.setIfInBounds a (vp_cell (G.2.2 0) (n1, .inl (va_cpy f g sp.toNatClampNeg dp.toNatClampNeg i.toNatClampNeg))) := by rw [← hT]; rfl
  have oq : ∀ q : Nat, q ≠ a → (H.setIfInBounds a (vp_cell (G.2.2 0) (n1, .inl (va_cpy f g sp.toNatClampNeg dp.toNatClampNeg i.toNatClampNeg))))[q]? = H[q]? := fun q hq => by simp [Array.getElem?_setIfInBounds, Ne.symm hq]
  obtain ⟨t, a1, b1⟩ := kk _ hf _ _ ls (okc.puts hok g1 rfl (cAt_arr' (by decide) (show (H.setIfInBounds a _)[a]? = some _ by simp [Array.getElem?_setIfInBounds, hla])) (by simp) oq (fun q hq => by
      obtain ⟨y, -, hy⟩ := List.mem_map.mp hq
      rw [← hy])) hl _ hheap X'
  exact ⟨t, step t a1, b1⟩
end VMORE
