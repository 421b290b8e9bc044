/-! THE LAYER V, its rows on the heap: what is read and written, as functions of the pure world -/
def asI (v : Value) : Option Int32 := match v with
  | .int x => some x
  | _ => none
def asQ (v : Value) : Option (Option Nat) := match v with
  | .null => some none
  | .ref a => some (some a)
  | _ => none
theorem asI_of {v : Value} {x : Int32} (h : asI v = some x) : v = .int x := by
  cases v <;> simp_all [asI]
theorem asQ_of {v : Value} {r : Option Nat} (h : asQ v = some r) : v = va_rf r := by
  cases v <;> simp_all [asQ] <;> subst h <;> rfl
def cObj (w : cW) (r : Option Nat) (ci : Nat) : Option (List Value) := r.bind fun a => (w.1 a).bind fun e => match e with
  | .inr o => if o.1 = ci then some o.2 else none
  | .inl _ => none
theorem cObj_of {w : cW} {r : Option Nat} {ci : Nat} {fs : List Value} (h : cObj w r ci = some fs) : ∃ a, r = some a ∧ w.1 a = some (.inr (ci, fs)) := by
  obtain ⟨a, rfl, h1⟩ := ob h
  obtain ⟨e, he, h⟩ := ob h1
  refine ⟨a, rfl, ?_⟩
  rw [he]
  rcases e with e | ⟨c, fs'⟩
  · cases h
  · dsimp only at h
    by_cases hc : c = ci
    · rw [if_pos hc] at h
      cases h
      rw [hc]
    · rw [if_neg hc] at h
      cases h
theorem cObj_in {w : cW} {a ci : Nat} {fs : List Value} (h : w.1 a = some (.inr (ci, fs))) : cObj w (some a) ci = some fs := by
  simp [cObj, h]
def gI (w : cW) (r : Option Nat) (ci k : Nat) : Option Int32 := (cObj w r ci).bind fun fs => (fs[k]?).bind asI
def gQ (w : cW) (r : Option Nat) (ci k : Nat) : Option (Option Nat) := (cObj w r ci).bind fun fs => (fs[k]?).bind asQ
def pF (w : cW) (r : Option Nat) (ci k : Nat) (v : Value) : Option cW := r.bind fun a => (cObj w (some a) ci).bind fun fs => if k < fs.length then some (va_up w.1 a (some (.inr (ci, fs.set k v))), w.2) else none
def pI (w : cW) (r : Option Nat) (ci k : Nat) (x : Int32) : Option cW := pF w r ci k (.int x)
def pZ (w : cW) (r : Option Nat) (ci k : Nat) (x : Int32) : Option cW := if x = 0 ∨ x = 1 then pF w r ci k (.int x) else none
def pQ (w : cW) (r : Option Nat) (ci k : Nat) (x : Option Nat) : Option cW := pF w r ci k (va_rf x)
theorem pF_of {w w' : cW} {r : Option Nat} {ci k : Nat} {v : Value} (h : pF w r ci k v = some w') : ∃ a fs, r = some a ∧ w.1 a = some (.inr (ci, fs)) ∧ k < fs.length ∧ w' = (va_up w.1 a (some (.inr (ci, fs.set k v))), w.2) := by
  obtain ⟨a, rfl, h1⟩ := ob h
  obtain ⟨fs, he, h⟩ := ob h1
  obtain ⟨a', ha', hw⟩ := cObj_of he
  cases ha'
  by_cases hk : k < fs.length
  · rw [if_pos hk] at h
    cases h
    exact ⟨a, fs, rfl, hw, hk, rfl⟩
  · rw [if_neg hk] at h
    cases h
/-- the array at r: its address, kind, length and contents -/
def cArr (w : cW) (r : Option Nat) : Option (Nat × Nat × vp_A) := r.bind fun a => (w.1 a).bind fun e => match e with
  | .inl x => some (a, x)
  | .inr _ => none
theorem cArr_of {w : cW} {r : Option Nat} {a t : Nat} {x : vp_A} (h : cArr w r = some (a, t, x)) : r = some a ∧ w.1 a = some (.inl (t, x)) := by
  obtain ⟨a', rfl, h1⟩ := ob h
  obtain ⟨e, he, h⟩ := ob h1
  rcases e with e | e
  · cases h
    exact ⟨rfl, he⟩
  · cases h
def ldI (w : cW) (r : Option Nat) (ty : FieldType) (i : Int32) : Option Int32 := (cArr w r).bind fun q => match q.2.2.2 with
  | .inl f => if q.2.1 < aN ∧ aTy q.2.1 = ty ∧ ¬ (i < 0 ∨ q.2.2.1 ≤ i.toNatClampNeg) then some (f i.toNatClampNeg) else none
  | _ => none
def stI (w : cW) (r : Option Nat) (ty : FieldType) (i x : Int32) : Option cW := (cArr w r).bind fun q => match q.2.2.2 with
  | .inl f => if q.2.1 < aRO ∧ q.2.1 < aN ∧ aTy q.2.1 = ty ∧ ¬ (i < 0 ∨ q.2.2.1 ≤ i.toNatClampNeg) then some (va_up w.1 q.1 (some (.inl (q.2.1, q.2.2.1, .inl (upd f i.toNatClampNeg (vp_nar ty x))))), w.2) else none
  | _ => none
def ldQ (w : cW) (r : Option Nat) (i : Int32) : Option (Option Nat) := (cArr w r).bind fun q => match q.2.2.2 with
  | .inr (.inr (.inr (.inr f))) => if q.2.1 < aN ∧ aRf q.2.1 = true ∧ ¬ (i < 0 ∨ q.2.2.1 ≤ i.toNatClampNeg) then some (f i.toNatClampNeg) else none
  | _ => none
def aLen (w : cW) (r : Option Nat) : Option Int32 := (cArr w r).bind fun q => if q.2.1 < aN then some (Int32.ofNat q.2.2.1) else none
/-- may what r names lie in an array of kind t? null, or an object of a class that aOk lets in -/
def qOk (w : cW) (t : Nat) (r : Option Nat) : Bool := match r with
  | none => true
  | some b => match w.1 b with
    | some (.inr o) => aOk t o.1
    | _ => false
def stQ (w : cW) (r : Option Nat) (i : Int32) (x : Option Nat) : Option cW := (cArr w r).bind fun q => match q.2.2.2 with
  | .inr (.inr (.inr (.inr f))) => if q.2.1 < aRO ∧ q.2.1 < aN ∧ aRf q.2.1 = true ∧ qOk w q.2.1 x = true ∧ ¬ (i < 0 ∨ q.2.2.1 ≤ i.toNatClampNeg) then some (va_up w.1 q.1 (some (.inl (q.2.1, q.2.2.1, .inr (.inr (.inr (.inr (va_up f i.toNatClampNeg x)))))) ), w.2) else none
  | _ => none
/-- a new cell: its address is the heap's size -/
def alC (w : cW) (e : cE) : cW := (va_up w.1 w.2.1 (some e), w.2.1 + 1, w.2.2)
def alI (w : cW) (t : Nat) (i : Int32) (b : Nat) : Option cW := if ¬ i < 0 ∧ i.toNatClampNeg ≤ b then some (alC w (.inl (t, i.toNatClampNeg, .inl (fun _ => 0)))) else none
def alQ (w : cW) (t : Nat) (i : Int32) (b : Nat) : Option cW := if ¬ i < 0 ∧ i.toNatClampNeg ≤ b then some (alC w (.inl (t, i.toNatClampNeg, .inr (.inr (.inr (.inr (fun _ => none))))))) else none
/-- what the tables say of which objects may lie in which arrays -/
def cAs (s : State) : Prop := ∀ (t ci : Nat) (q : vw_C) (E : String), aOk t ci = true → aTy t = .object E → vwCl[ci]? = some q → ∀ comp c0 : ClassId, s.vm.findClass E = some comp → s.vm.findClass q.1 = some c0 → s.vm.assignable c0 comp = true
theorem va_P1 {D : va_G} {cl : List vw_C} {q : Nat × va_E} {H : Heap} (h : va_at D cl q H) : va_P D cl [q] H := fun k x hk => by
  cases k with
  | zero => cases hk; exact h
  | succ k => simp at hk
/-- an array as it lies in the heap, whether it may be written or not -/
theorem cView {G : cG} {s : State} {H : Heap} {a t : Nat} {x : vp_A} (hK : cK G s) (ht : t < aN) (h : cAt G s H a (.inl (t, x))) : ∃ cell : Cell, H[a]? = some cell ∧ s.isArrayOf cell (aTy t) ∧ cell.vm ≠ .unknown ∧ x.1 ≤ cell.slots.size ∧ cell.slots.size.toInt32 = Int32.ofNat x.1 ∧ ∀ j : Nat, j < x.1 → cell.slots[j]? = some (vpV x j) := by
  unfold cAt at h
  dsimp only at h
  by_cases hx : t < aRO
  · rw [if_pos hx] at h
    rw [vp_cell_V] at h
    exact ⟨_, h, (hK.2.1 t ht).1 x.1 (vpV x), (fun q => by cases q), (by rw [arrV_size]; exact Nat.le_refl _), (by rw [arrV_size]), fun j hj => arrV_read _ _ hj⟩
  · rw [if_neg hx] at h
    obtain ⟨cell, h1, h2, h3, h4, h5, h6, -⟩ := h
    exact ⟨cell, h1, h2, h3, h4, h5, h6⟩
theorem okC.K {C : xC} {cc : ByteArray} {nL : Nat} {own : String} {Ts : List Cond} (hC : okC C cc nL own Ts) : cK C.2.2.2.2.2.2.2.2.2.2.2.2.1 C.2.2.2.2.1 := by
  obtain ⟨p, l, e, R, s, m, args, below, meth, c, Q, nL, G, w0⟩ := C
  exact hC.2.2.2.2.2.2.1.1
section VHEAP
variable {C : xC} {cc : ByteArray} {nL : Nat} {own : String} {Ts : List Cond} {w : cW} {k n pc : Nat} {lv : List (Nat × Value)} {st : List Value} {β : Type} {z : β}
theorem v_getF {ref CN : String} {T : u_T} {N ci index : Nat} {r : Option Nat} {fs : List Value} {v : Value} (hC : okC C cc nL own Ts) (hd : decode cc pc = .ok (.getfield index, 3)) (hin : ∀ x ∈ u_ws CN T N, x ∈ Ts) (hc : vwCl[ci]? = some (CN, T, N)) (j : Nat) (hj : j < N) (hlink : Cond.fieldLink own index ref (T j).2.1 (T j).2.2.1 ∈ Ts) (hsm : ref = (T j).1 ∨ Cond.sameField ref (T j).1 (T j).2.1 (T j).2.2.1 ∈ Ts) (ho : cObj w r ci = some fs) (hv : fs[j]? = some v) (kk : V C w k n (pc + 3) lv (v :: st)) : V C w k n pc lv (va_rf r :: st) := by
  obtain ⟨p, l, e, R, s, m, args, below, meth, c, Q, nL, G, w0⟩ := C
  obtain ⟨a, rfl, ha⟩ := cObj_of ho
  intro H locs ls hok hl
  have hts := hC.2.2.2.2.2.1
  refine va_get (own := own) (ref := ref) (D := G.2.1) (cl := vwCl) (ci := ci) (C := CN) (T := T) (N := N) (fs := fs) (v := v) hC.1 hC.2.1 hts hin hC.2.2.2.2.1 hC.2.2.2.2.2.2.1.1.1 (va_P1 (q := (a, .inr (ci, fs))) (hok.2.1 a _ ha)) 0 rfl hc j hj (hts _ hlink) ?_ hv hd (kk H locs ls hok hl)
  rcases hsm with h | h
  · rw [h]
    exact fun _ q => q
  · exact u_same (hts _ h)
theorem v_getI {ref CN : String} {T : u_T} {N ci index : Nat} {r : Option Nat} {F : Int32 → Option β} (hC : okC C cc nL own Ts) (hd : decode cc pc = .ok (.getfield index, 3)) (hin : ∀ x ∈ u_ws CN T N, x ∈ Ts) (hc : vwCl[ci]? = some (CN, T, N)) (j : Nat) (hj : j < N) (hlink : Cond.fieldLink own index ref (T j).2.1 (T j).2.2.1 ∈ Ts) (hsm : ref = (T j).1 ∨ Cond.sameField ref (T j).1 (T j).2.1 (T j).2.2.1 ∈ Ts) (hf : (gI w r ci j).bind F = some z) (kk : ∀ x : Int32, F x = some z → V C w k n (pc + 3) lv (.int x :: st)) : V C w k n pc lv (va_rf r :: st) := by
  obtain ⟨x, hx, hf⟩ := ob hf
  obtain ⟨fs, ho, hx⟩ := ob hx
  obtain ⟨v, hv, hx⟩ := ob hx
  have e := asI_of hx
  subst e
  exact v_getF hC hd hin hc j hj hlink hsm ho hv (kk x hf)
theorem v_getQ {ref CN : String} {T : u_T} {N ci index : Nat} {r : Option Nat} {F : Option Nat → Option β} (hC : okC C cc nL own Ts) (hd : decode cc pc = .ok (.getfield index, 3)) (hin : ∀ x ∈ u_ws CN T N, x ∈ Ts) (hc : vwCl[ci]? = some (CN, T, N)) (j : Nat) (hj : j < N) (hlink : Cond.fieldLink own index ref (T j).2.1 (T j).2.2.1 ∈ Ts) (hsm : ref = (T j).1 ∨ Cond.sameField ref (T j).1 (T j).2.1 (T j).2.2.1 ∈ Ts) (hf : (gQ w r ci j).bind F = some z) (kk : ∀ x : Option Nat, F x = some z → V C w k n (pc + 3) lv (va_rf x :: st)) : V C w k n pc lv (va_rf r :: st) := by
  obtain ⟨x, hx, hf⟩ := ob hf
  obtain ⟨fs, ho, hx⟩ := ob hx
  obtain ⟨v, hv, hx⟩ := ob hx
  have e := asQ_of hx
  subst e
  exact v_getF hC hd hin hc j hj hlink hsm ho hv (kk x hf)
theorem v_putF {ref CN : String} {T : u_T} {N ci index : Nat} {r : Option Nat} {w' : cW} {v : Value} {ty : FieldType} (hC : okC C cc nL own Ts) (hd : decode cc pc = .ok (.putfield index, 3)) (hin : ∀ x ∈ u_ws CN T N, x ∈ Ts) (hc : vwCl[ci]? = some (CN, T, N)) (ty0 : Nat → FieldType) (hty : ∀ k, k < N → parseFieldDescriptor (T k).2.2.1 = some (ty0 k)) (hnm : ∀ a, a < N → ∀ b, b < N → a ≠ b → (T a).2.1 ≠ (T b).2.1) (j : Nat) (hj : j < N) (hlink : Cond.fieldLink own index ref (T j).2.1 (T j).2.2.1 ∈ Ts) (hsm : ref = (T j).1 ∨ Cond.sameField ref (T j).1 (T j).2.1 (T j).2.2.1 ∈ Ts) (hfin : (T j).2.2.2 = false) (hdt : parseFieldDescriptor (T j).2.2.1 = some ty) (hn : narrow ty v = v) (hfit : fits ty v = true) (hp : pF w r ci j v = some w') (kk : V C w' k n (pc + 3) lv st) : V C w k n pc lv (v :: va_rf r :: st) := by
  obtain ⟨p, l, e, R, s, m, args, below, meth, c, Q, nL, G, w0⟩ := C
  obtain ⟨a, fs, rfl, ha, hl0, rfl⟩ := pF_of hp
  intro H locs ls hok hl
  have hts := hC.2.2.2.2.2.1
  have hK := hC.2.2.2.2.2.2.1.1.1
  have hap := va_apart (own := own) hts hin ty0 hty hnm hK hc
  obtain ⟨q0, h1, cell, q1, q2, q3, q4⟩ := hok.2.1 a _ ha
  have hr : q0 = (CN, T, N) := Option.some.inj (h1.symm.trans hc)
  subst hr
  obtain ⟨hS, hfc, kC, hkC, hkind⟩ := hK.1 ci _ hc
  obtain ⟨cf, kf, fi, f, hi, hsl⟩ := hS j hj
  have hlay := hts _ (hin _ (u_in_lay hj))
  unfold u_lay at hlay
  rw [if_neg (by rw [hfin]; decide)] at hlay
  have hst := (u_facts hfc hkC (u_lays hts hin hj) hi).1
  have h6 := u_store hfc hkC hkind hlay hi hdt hn hfit
  have hsame : ∀ x, s.fieldFound? (T j).1 (T j).2.1 (T j).2.2.1 = some x → s.fieldFound? ref (T j).2.1 (T j).2.2.1 = some x := by
    rcases hsm with h | h
    · rw [h]
      exact fun _ q => q
    · exact u_same (hts _ h)
  refine W.putK hC.1 hC.2.1 (f := f) ⟨hC.2.2.2.2.1, hts _ hlink, ⟨_, _, _, hsame _ hi⟩, hst⟩ (by rw [q2]; exact h6) q1 q3 (by rw [hsl]; exact k2_hasslot (q4 j hj)) rfl rfl hd fun H' e1 e2 e3 => ?_
  rw [hsl] at e1 ⊢
  exact kk H' _ ls (okc.put hok ha rfl ⟨_, hc, t_OB.to (V := updV (vp_V fs) j v) ⟨_, e1, q2, q3, t_set q4 hap hj v⟩ (fun i _ => vp_updV_set hl0 v i)⟩ e2 e3) hl
/-- a final field, in its constructor -/
theorem v_putC {CN : String} {T : u_T} {N ci index : Nat} {r : Option Nat} {w' : cW} {v : Value} {ty : FieldType} (hC : okC C cc nL own Ts) (hd : decode cc pc = .ok (.putfield index, 3)) (hin : ∀ x ∈ u_ws CN T N, x ∈ Ts) (hc : vwCl[ci]? = some (CN, T, N)) (ty0 : Nat → FieldType) (hty : ∀ k, k < N → parseFieldDescriptor (T k).2.2.1 = some (ty0 k)) (hnm : ∀ a, a < N → ∀ b, b < N → a ≠ b → (T a).2.1 ≠ (T b).2.1) (j : Nat) (hj : j < N) (hlink : Cond.fieldLink own index (T j).1 (T j).2.1 (T j).2.2.1 ∈ Ts) (hfin : (T j).2.2.2 = true) (hname : C.2.2.2.2.2.2.2.2.1.name = "<init>") (hdecl : (T j).1 = own) (hdt : parseFieldDescriptor (T j).2.2.1 = some ty) (hn : narrow ty v = v) (hfit : fits ty v = true) (hp : pF w r ci j v = some w') (kk : V C w' k n (pc + 3) lv st) : V C w k n pc lv (v :: va_rf r :: st) := by
  obtain ⟨p, l, e, R, s, m, args, below, meth, c, Q, nL, G, w0⟩ := C
  obtain ⟨a, fs, rfl, ha, hl0, rfl⟩ := pF_of hp
  intro H locs ls hok hl
  have hts := hC.2.2.2.2.2.1
  have hK := hC.2.2.2.2.2.2.1.1.1
  have hown := hC.2.2.2.2.1
  have hap := va_apart (own := own) hts hin ty0 hty hnm hK hc
  obtain ⟨q0, h1, cell, q1, q2, q3, q4⟩ := hok.2.1 a _ ha
  have hr : q0 = (CN, T, N) := Option.some.inj (h1.symm.trans hc)
  subst hr
  obtain ⟨hS, hfc, kC, hkC, hkind⟩ := hK.1 ci _ hc
  obtain ⟨cf, kf, fi, f, hi, hsl⟩ := hS j hj
  have hlay := hts _ (hin _ (u_in_lay hj))
  unfold u_lay at hlay
  rw [if_pos hfin] at hlay
  have hst := (u_facts hfc hkC (u_lays hts hin hj) hi).1
  have hcf : m.cls = cf := by
    obtain ⟨_, _, c', _, _, _, -, -, hf', -, -, -, hown2, -⟩ := Cond.laysFinal_spec hlay
    have e1 : c' = cf := by have := hi.symm.trans hf'; simp at this; exact this.1.symm
    rw [hdecl] at hown2
    rw [← e1]; exact Option.some.inj (hown.symm.trans hown2)
  have h6 := u_fits hfc hkC hkind (Or.inr hlay) hi hdt hn hfit
  refine W.putFinK hC.1 hC.2.1 hown (hts _ hlink) hi hst hcf hname (by rw [q2]; exact h6) q1 q3 (by rw [hsl]; exact k2_hasslot (q4 j hj)) rfl rfl hd fun H' e1 e2 e3 => ?_
  rw [hsl] at e1 ⊢
  exact kk H' _ ls (okc.put hok ha rfl ⟨_, hc, t_OB.to (V := updV (vp_V fs) j v) ⟨_, e1, q2, q3, t_set q4 hap hj v⟩ (fun i _ => vp_updV_set hl0 v i)⟩ e2 e3) hl
/-- arraylength -/
theorem v_alen {r : Option Nat} {F : Int32 → Option β} (hC : okC C cc nL own Ts) (hd : decode cc pc = .ok (.arraylength, 1)) (hf : (aLen w r).bind F = some z) (kk : ∀ x : Int32, F x = some z → V C w k n (pc + 1) lv (.int x :: st)) : V C w k n pc lv (va_rf r :: st) := by
  have hK := hC.K
  obtain ⟨p, l, e, R, s, m, args, below, meth, c, Q, nL, G, w0⟩ := C
  obtain ⟨x, hx0, hf1⟩ := ob hf
  obtain ⟨⟨a, t, y⟩, ho, hx⟩ := ob hx0
  obtain ⟨rfl, ha⟩ := cArr_of ho
  try dsimp only at hx
  by_cases ht : t < aN
  · rw [if_pos ht] at hx
    cases hx
    intro H locs ls hok hl
    obtain ⟨cell, g1, g2, g3, g4, g5, g6⟩ := cView hK ht (hok.2.1 a _ ha)
    exact W.alen hC.1 hC.2.1 g1 g2 g5 rfl rfl hd (kk _ hf1 H locs ls hok hl)
  · rw [if_neg ht] at hx
    cases hx
theorem v_iald {r : Option Nat} {i : Int32} {F : Int32 → Option β} (hC : okC C cc nL own Ts) (hd : decode cc pc = .ok (.iaload, 1)) (hf : (ldI w r .int i).bind F = some z) (kk : ∀ x : Int32, F x = some z → V C w k n (pc + 1) lv (.int x :: st)) : V C w k n pc lv (.int i :: va_rf r :: st) := by
  have hK := hC.K
  obtain ⟨p, l, e, R, s, m, args, below, meth, c, Q, nL, G, w0⟩ := C
  obtain ⟨x, hx, hf⟩ := ob hf
  obtain ⟨⟨a, t, N, y⟩, ho, hx⟩ := ob hx
  obtain ⟨rfl, ha⟩ := cArr_of ho
  rcases y with f | y
  · dsimp only at hx
    by_cases ht : t < aN ∧ aTy t = .int ∧ ¬ (i < 0 ∨ N ≤ i.toNatClampNeg)
    · rw [if_pos ht] at hx
      cases hx
      intro H locs ls hok hl
      obtain ⟨cell, g1, g2, g3, g4, g5, g6⟩ := cView hK ht.1 (hok.2.1 a _ ha)
      rw [ht.2.1] at g2
      have hlt : i.toNatClampNeg < N := Nat.not_le.mp fun q => ht.2.2 (Or.inr q)
      dsimp only at g4 g6
      exact W.iald hC.1 hC.2.1 g1 g2 g3 (fun q => by rcases q with q | q; exact ht.2.2 (Or.inl q); omega) (g6 _ hlt) rfl rfl hd (kk _ hf H locs ls hok hl)
    · rw [if_neg ht] at hx
      cases hx
  · cases hx
theorem v_zald {r : Option Nat} {i : Int32} {F : Int32 → Option β} (hC : okC C cc nL own Ts) (hd : decode cc pc = .ok (.baload, 1)) (hf : (ldI w r .boolean i).bind F = some z) (kk : ∀ x : Int32, F x = some z → V C w k n (pc + 1) lv (.int x :: st)) : V C w k n pc lv (.int i :: va_rf r :: st) := by
  have hK := hC.K
  obtain ⟨p, l, e, R, s, m, args, below, meth, c, Q, nL, G, w0⟩ := C
  obtain ⟨x, hx, hf⟩ := ob hf
  obtain ⟨⟨a, t, N, y⟩, ho, hx⟩ := ob hx
  obtain ⟨rfl, ha⟩ := cArr_of ho
  rcases y with f | y
  · dsimp only at hx
    by_cases ht : t < aN ∧ aTy t = .boolean ∧ ¬ (i < 0 ∨ N ≤ i.toNatClampNeg)
    · rw [if_pos ht] at hx
      cases hx
      intro H locs ls hok hl
      obtain ⟨cell, g1, g2, g3, g4, g5, g6⟩ := cView hK ht.1 (hok.2.1 a _ ha)
      rw [ht.2.1] at g2
      have hlt : i.toNatClampNeg < N := Nat.not_le.mp fun q => ht.2.2 (Or.inr q)
      dsimp only at g4 g6
      exact W.zald hC.1 hC.2.1 g1 g2 g3 (fun q => by rcases q with q | q; exact ht.2.2 (Or.inl q); omega) (g6 _ hlt) rfl rfl hd (kk _ hf H locs ls hok hl)
    · rw [if_neg ht] at hx
      cases hx
  · cases hx
theorem v_aald {r : Option Nat} {i : Int32} {F : Option Nat → Option β} (hC : okC C cc nL own Ts) (hd : decode cc pc = .ok (.aaload, 1)) (hf : (ldQ w r i).bind F = some z) (kk : ∀ x : Option Nat, F x = some z → V C w k n (pc + 1) lv (va_rf x :: st)) : V C w k n pc lv (.int i :: va_rf r :: st) := by
  have hK := hC.K
  obtain ⟨p, l, e, R, s, m, args, below, meth, c, Q, nL, G, w0⟩ := C
  obtain ⟨x, hx, hf⟩ := ob hf
  obtain ⟨⟨a, t, N, y⟩, ho, hx⟩ := ob hx
  obtain ⟨rfl, ha⟩ := cArr_of ho
  rcases y with f | f | f | f | f
  · cases hx
  · cases hx
  · cases hx
  · cases hx
  · dsimp only at hx
    by_cases ht : t < aN ∧ aRf t = true ∧ ¬ (i < 0 ∨ N ≤ i.toNatClampNeg)
    · rw [if_pos ht] at hx
      cases hx
      intro H locs ls hok hl
      obtain ⟨cell, g1, g2, g3, g4, g5, g6⟩ := cView hK ht.1 (hok.2.1 a _ ha)
      have hlt : i.toNatClampNeg < N := Nat.not_le.mp fun q => ht.2.2 (Or.inr q)
      dsimp only at g4 g6
      exact W.aald (ty := aTy t) hC.1 hC.2.1 g1 g2 (aRf_ok t ht.2.1) g3 (fun q => by rcases q with q | q; exact ht.2.2 (Or.inl q); omega) (g6 _ hlt) rfl rfl hd (kk _ hf H locs ls hok hl)
    · rw [if_neg ht] at hx
      cases hx
theorem stI_of {w w' : cW} {r : Option Nat} {ty : FieldType} {i x : Int32} (h : stI w r ty i x = some w') : ∃ a t N f, r = some a ∧ w.1 a = some (.inl (t, N, .inl f)) ∧ t < aRO ∧ t < aN ∧ aTy t = ty ∧ ¬ (i < 0 ∨ N ≤ i.toNatClampNeg) ∧ w' = (va_up w.1 a (some (.inl (t, N, .inl (upd f i.toNatClampNeg (vp_nar ty x))))), w.2) := by
  obtain ⟨⟨a, t, N, y⟩, ho, hx⟩ := ob h
  obtain ⟨rfl, ha⟩ := cArr_of ho
  rcases y with f | y
  · dsimp only at hx
    by_cases ht : t < aRO ∧ t < aN ∧ aTy t = ty ∧ ¬ (i < 0 ∨ N ≤ i.toNatClampNeg)
    · rw [if_pos ht] at hx
      cases hx
      exact ⟨a, t, N, f, rfl, ha, ht.1, ht.2.1, ht.2.2.1, ht.2.2.2, rfl⟩
    · rw [if_neg ht] at hx
      cases hx
  · cases hx
theorem cAt_arr {G : cG} {s : State} {H : Heap} {a t : Nat} {x : vp_A} (ht : t < aRO) (h : cAt G s H a (.inl (t, x))) : H[a]? = some (vp_cell (G.2.2 t) x) := by
  unfold cAt at h
  dsimp only at h
  rw [if_pos ht] at h
  exact h
theorem cAt_arr' {G : cG} {s : State} {H : Heap} {a t : Nat} {x : vp_A} (ht : t < aRO) (h : H[a]? = some (vp_cell (G.2.2 t) x)) : cAt G s H a (.inl (t, x)) := by
  unfold cAt
  dsimp only
  rw [if_pos ht]
  exact h
theorem vp_nar_intV (x : Int32) : vp_nar .int x = x := rfl
theorem v_iast {r : Option Nat} {i x : Int32} {F : cW → Option β} (hC : okC C cc nL own Ts) (hd : decode cc pc = .ok (.iastore, 1)) (hf : (stI w r .int i x).bind F = some z) (kk : ∀ w' : cW, F w' = some z → V C w' k n (pc + 1) lv st) : V C w k n pc lv (.int x :: .int i :: va_rf r :: st) := by
  have hK := hC.K
  obtain ⟨p, l, e, R, s, m, args, below, meth, c, Q, nL, G, w0⟩ := C
  obtain ⟨w', hx, hf⟩ := ob hf
  obtain ⟨a, t, N, f, rfl, ha, h1, h2, h3, h4, rfl⟩ := stI_of hx
  intro H locs ls hok hl
  have hc := cAt_arr h1 (hok.2.1 a _ ha)
  have hA := (hK.2.1 t h2).1 N (fun j => .int (f j))
  rw [h3] at hA
  refine W.iast hC.1 hC.2.1 hc hA (fun q => by cases q) (by show ¬ (i < 0 ∨ (arrV _ _ _).slots.size ≤ _); rw [arrV_size]; exact h4) rfl rfl hd fun H1 e z oq => ?_
  refine kk _ hf H1 _ ls (okc.put hok ha (by simp [wrE, h1]) (cAt_arr' h1 ?_) z oq) hl
  rw [e, vp_cell_i, vp_cell_i, arrV_store]
  congr 2
  funext q
  by_cases hq : q = i.toNatClampNeg
  · subst hq
    simp [updV, upd, vp_nar_intV]
  · simp [updV, upd, hq]
theorem v_zast {r : Option Nat} {i x : Int32} {F : cW → Option β} (hC : okC C cc nL own Ts) (hd : decode cc pc = .ok (.bastore, 1)) (hf : (stI w r .boolean i x).bind F = some z) (kk : ∀ w' : cW, F w' = some z → V C w' k n (pc + 1) lv st) : V C w k n pc lv (.int x :: .int i :: va_rf r :: st) := by
  have hK := hC.K
  obtain ⟨p, l, e, R, s, m, args, below, meth, c, Q, nL, G, w0⟩ := C
  obtain ⟨w', hx, hf⟩ := ob hf
  obtain ⟨a, t, N, f, rfl, ha, h1, h2, h3, h4, rfl⟩ := stI_of hx
  intro H locs ls hok hl
  have hc := cAt_arr h1 (hok.2.1 a _ ha)
  have hA := (hK.2.1 t h2).1 N (fun j => .int (f j))
  rw [h3] at hA
  refine W.zast hC.1 hC.2.1 hc hA (fun q => by cases q) (by show ¬ (i < 0 ∨ (arrV _ _ _).slots.size ≤ _); rw [arrV_size]; exact h4) rfl rfl hd fun H1 e z oq => ?_
  refine kk _ hf H1 _ ls (okc.put hok ha (by simp [wrE, h1]) (cAt_arr' h1 ?_) z oq) hl
  rw [e, vp_cell_i, vp_cell_i, arrV_store]
  congr 2
  funext q
  by_cases hq : q = i.toNatClampNeg
  · subst hq
    simp [updV, upd, vp_nar]
    try rfl
  · simp [updV, upd, hq]
theorem stQ_of {w w' : cW} {r x : Option Nat} {i : Int32} (h : stQ w r i x = some w') : ∃ a t N f, r = some a ∧ w.1 a = some (.inl (t, N, .inr (.inr (.inr (.inr f))))) ∧ t < aRO ∧ t < aN ∧ aRf t = true ∧ qOk w t x = true ∧ ¬ (i < 0 ∨ N ≤ i.toNatClampNeg) ∧ w' = (va_up w.1 a (some (.inl (t, N, .inr (.inr (.inr (.inr (va_up f i.toNatClampNeg x))))))), w.2) := by
  obtain ⟨⟨a, t, N, y⟩, ho, hx⟩ := ob h
  obtain ⟨rfl, ha⟩ := cArr_of ho
  rcases y with f | f | f | f | f
  · cases hx
  · cases hx
  · cases hx
  · cases hx
  · dsimp only at hx
    by_cases ht : t < aRO ∧ t < aN ∧ aRf t = true ∧ qOk w t x = true ∧ ¬ (i < 0 ∨ N ≤ i.toNatClampNeg)
    · rw [if_pos ht] at hx
      cases hx
      exact ⟨a, t, N, f, rfl, ha, ht.1, ht.2.1, ht.2.2.1, ht.2.2.2.1, ht.2.2.2.2, rfl⟩
    · rw [if_neg ht] at hx
      cases hx
theorem v_aast {r x : Option Nat} {i : Int32} {F : cW → Option β} (hC : okC C cc nL own Ts) (hAs : cAs C.2.2.2.2.1) (hd : decode cc pc = .ok (.aastore, 1)) (hf : (stQ w r i x).bind F = some z) (kk : ∀ w' : cW, F w' = some z → V C w' k n (pc + 1) lv st) : V C w k n pc lv (va_rf x :: .int i :: va_rf r :: st) := by
  have hK := hC.K
  obtain ⟨p, l, e, R, s, m, args, below, meth, c, Q, nL, G, w0⟩ := C
  obtain ⟨w', hx, hf⟩ := ob hf
  obtain ⟨a, t, N, f, rfl, ha, h1, h2, h3, h5, h4, rfl⟩ := stQ_of hx
  intro H locs ls hok hl
  obtain ⟨E, hE⟩ := aRf_obj t h3
  have hc := cAt_arr h1 (hok.2.1 a _ ha)
  have hlt : i.toNatClampNeg < N := Nat.not_le.mp fun q => h4 (Or.inr q)
  have h0 : ¬ i < 0 := fun q => h4 (Or.inl q)
  have fin : ∀ (v : Value) (H1 : Heap), v = va_rf x → H1[a]? = some ((vp_cell (G.2.2 t) (N, .inr (.inr (.inr (.inr f))))).setSlot i.toNatClampNeg v) → H1[a]? = some (vp_cell (G.2.2 t) (N, .inr (.inr (.inr (.inr (va_up f i.toNatClampNeg x)))))) := by
    intro v H1 hv e
    rw [e, vp_cell_q, vp_cell_q, arrV_store]
    congr 2
    funext q
    by_cases hq : q = i.toNatClampNeg
    · subst hq
      simp [updV, va_up, hv]
    · simp [updV, va_up, hq]
  cases x with
  | none =>
    have hA := (hK.2.1 t h2).1 N (fun j => va_rf (f j))
    rw [hE] at hA
    refine va_WaastN (C := E) hC.1 hC.2.1 hc hA (fun h => by cases h) (by show ¬ (i < 0 ∨ (arrV _ _ _).slots.size ≤ _); rw [arrV_size]; exact h4) rfl rfl hd fun H1 e z oq => ?_
    exact kk _ hf H1 _ ls (okc.put hok ha (by simp [wrE, h1]) (cAt_arr' h1 (fin _ _ rfl e)) z oq) hl
  | some v =>
    have hR := (hK.2.1 t h2).2
    rw [hE] at hR
    obtain ⟨kA, comp, k1, k2, k3, -⟩ := hR
    obtain ⟨kE, hkE, -⟩ := Vm.findClass_spec k3
    unfold qOk at h5
    dsimp only at h5
    cases hv : w.1 v with
    | none => rw [hv] at h5; cases h5
    | some y =>
      rw [hv] at h5
      rcases y with y | ⟨ci, fs⟩
      · cases h5
      · dsimp only at h5
        obtain ⟨q, hq, cell, g1, g2, g3, -⟩ := hok.2.1 v _ hv
        have hcl := (hK.1.1 ci q hq).2
        have hfc : s.vm.findClass q.1 = some cell.cls := by rw [g2]; exact hcl.1
        obtain ⟨kC, hkC, -⟩ := Vm.findClass_spec hfc
        refine W.aast hC.1 hC.2.1 hc (fun q h => by cases h) (fun h => by cases h) k1 k2 rfl hkE ⟨h0, by show _ < (arrV _ _ _).slots.size; rw [arrV_size]; exact hlt⟩ g1 (fun q h => by rw [g3] at h; cases h) hkC (hAs t ci q E h5 hE hq _ _ k3 hfc) rfl rfl hd fun H1 e z oq => ?_
        exact kk _ hf H1 _ ls (okc.put hok ha (by simp [wrE, h1]) (cAt_arr' h1 (fin _ _ rfl e)) z oq) hl
theorem okC.size {G : cG} {w0 : cW} {s : State} (h : okw G w0 s) : w0.2.1 = s.heap.size := h.2.2.1.symm
/-- newarray: an array of numbers; at most b places -/
theorem v_newa {atype : ArrayType} {i : Int32} {t b : Nat} {F : cW → Option β} (hC : okC C cc nL own Ts) (hd : decode cc pc = .ok (.newarray atype, 2)) (hw : Cond.arrayClass (newarray.typeOf atype) ∈ Ts) (hty : newarray.typeOf atype = aTy t) (ht : t < aRO ∧ t < aN) (hdef : ∀ cA N, vp_cell cA (N, .inl (fun _ => 0)) = arrV cA N (fun _ => defaultValue (aTy t))) (hb : b * componentBytes (aTy t) ≤ 536870912) (hcls : ∀ (U : State) (cA : ClassId), va_RA U cA (aTy t) → U.vm.findClass ("[" ++ (aTy t).toString) = some cA) (hk : k + 1 ≤ (xR C).cells) (hn : n + b ≤ (xR C).slots) (hf : (alI w t i b).bind F = some z) (kk : ∀ w' : cW, F w' = some z → V C w' (k + 1) (n + b) (pc + 2) lv (va_rf (some w.2.1) :: st)) : V C w k n pc lv (.int i :: st) := by
  have hK := hC.K
  obtain ⟨p, l, e, R, s, m, args, below, meth, c, Q, nL, G, w0⟩ := C
  obtain ⟨w', hx, hf⟩ := ob hf
  unfold alI at hx
  by_cases hi : ¬ i < 0 ∧ i.toNatClampNeg ≤ b
  · rw [if_pos hi] at hx
    cases hx
    intro H locs ls hok hl
    have hR := (hK.2.1 t ht.2).2
    refine va_newaK (N := i.toNatClampNeg) hC.1 hC.2.1 (hC.2.2.2.2.2.1 _ hw) rfl hd rfl hi.1 rfl (by rw [hty]; exact Nat.le_trans (Nat.mul_le_mul_right _ hi.2) hb) hk (Nat.le_trans (Nat.add_le_add_left hi.2 _) hn) hok.1 fun H1 cA e1 z1 o1 hAr hNm => ?_
    have hcA : cA = G.2.2 t := by
      rw [hty] at hNm
      have h2 : s.vm.findClass ("[" ++ (aTy t).toString) = some (G.2.2 t) := hcls _ _ hR
      exact Option.some.inj (hNm.symm.trans h2)
    subst hcA
    refine W.widen (Nat.le_refl _) (Nat.add_le_add_left hi.2 _) (kk _ hf H1 locs ls (okc.new hok (okC.size hC.2.2.2.2.2.2.1) hC.2.2.2.2.2.2.1.2.2.2.2.1 (cAt_arr' ht.1 ?_) (by rw [z1, hok.1]) (fun q hq => o1 q (by rw [← hok.1]; exact hq))) hl)
    rw [hdef, ← hty]
    exact e1
  · rw [if_neg hi] at hx
    cases hx
/-- anewarray -/
theorem v_newq {CN : String} {index t b : Nat} {i : Int32} {F : cW → Option β} (hC : okC C cc nL own Ts) (hd : decode cc pc = .ok (.anewarray index, 3)) (hcl : Cond.classLink own index CN ∈ Ts) (hov : Cond.arrayOver (.object CN) ∈ lw_ex) (hty : aTy t = .object CN) (ht : t < aRO ∧ t < aN) (hb : b * 4 ≤ 536870912) (hk : k + 1 ≤ (xR C).cells) (hn : n + b ≤ (xR C).slots) (hf : (alQ w t i b).bind F = some z) (kk : ∀ w' : cW, F w' = some z → V C w' (k + 1) (n + b) (pc + 3) lv (va_rf (some w.2.1) :: st)) : V C w k n pc lv (.int i :: st) := by
  have hK := hC.K
  obtain ⟨p, l, e, R, s, m, args, below, meth, c, Q, nL, G, w0⟩ := C
  obtain ⟨w', hx, hf⟩ := ob hf
  unfold alQ at hx
  by_cases hi : ¬ i < 0 ∧ i.toNatClampNeg ≤ b
  · rw [if_pos hi] at hx
    cases hx
    intro H locs ls hok hl
    have hts := hC.2.2.2.2.2.1
    have hR := (hK.2.1 t ht.2).2
    rw [hty] at hR
    refine W.anew hC.1 hC.2.1 hC.2.2.2.2.1 (hts _ hcl) (lw_ex_use _ hov _ _ (hK.2.2 _ hov)) rfl hd rfl hi.1 (Nat.le_trans (Nat.mul_le_mul_right _ hi.2) hb) hk (Nat.le_trans (Nat.add_le_add_left hi.2 _) hn) fun cA kA comp f1 f2 f3 f4 => ?_
    have hcA : cA = G.2.2 t := by
      obtain ⟨_, _, _, _, _, h4⟩ := hR
      exact Option.some.inj (f1.symm.trans h4)
    subst hcA
    generalize hH1 : H.push ({ cls := G.2.2 t, slots := Array.replicate i.toNatClampNeg .null, vm := .none } : Cell) = H1
    have z1 : H1.size = H.size + 1 := by rw [← hH1, Array.size_push]
    have e1 : H1[H.size]? = some (arrV (G.2.2 t) i.toNatClampNeg (fun _ => .null)) := by rw [← hH1, Array.getElem?_push_size, ← arrV_new]
    have o1 : ∀ q : Nat, q < H.size → H1[q]? = H[q]? := fun q hq => by rw [← hH1, Array.getElem?_push, if_neg (Nat.ne_of_lt hq)]
    rw [hok.1] at e1
    refine W.widen (Nat.le_refl _) (Nat.add_le_add_left hi.2 _) ?_
    have := kk _ hf H1 locs ls (okc.new hok (okC.size hC.2.2.2.2.2.2.1) hC.2.2.2.2.2.2.1.2.2.2.2.1 (cAt_arr' ht.1 e1) z1 o1) hl
    rw [← hok.1] at this
    exact this
  · rw [if_neg hi] at hx
    cases hx
/-- new -/
theorem v_new {CN : String} {T : u_T} {N ci index : Nat} {fs : List Value} {F : cW → Option β} (hC : okC C cc nL own Ts) (hd : decode cc pc = .ok (.new index, 3)) (hin : ∀ x ∈ u_ws CN T N, x ∈ Ts) (hc : vwCl[ci]? = some (CN, T, N)) (ty : Nat → FieldType) (hty : ∀ k, k < N → parseFieldDescriptor (T k).2.2.1 = some (ty k)) (hcl : Cond.classLink own index CN ∈ Ts) (hinst : Cond.instantiable CN N ∈ Ts) (hini : Cond.initialized CN ∈ Ts) (hfs : ∀ j, j < N → defaultValue (ty j) = vp_V fs j) (hk : k + 1 ≤ (xR C).cells) (hn : n + N ≤ (xR C).slots) (hf : bnd (alC w (.inr (ci, fs))) F = some z) (kk : ∀ w' : cW, F w' = some z → V C w' (k + 1) (n + N) (pc + 3) lv (va_rf (some w.2.1) :: st)) : V C w k n pc lv st := by
  have hK := hC.K
  obtain ⟨p, l, e, R, s, m, args, below, meth, c, Q, nL, G, w0⟩ := C
  intro H locs ls hok hl
  have hts := hC.2.2.2.2.2.1
  have hKn := hK.1.1 ci _ hc
  refine W.newcK hC.1 hC.2.1 hC.2.2.2.2.1 (hts _ hcl) (hts _ hinst) (hts _ hini) rfl hd hk hn hKn.2.1 hok.1 fun H1 kC hkC e1 z1 o1 => ?_
  exact kk _ hf H1 locs ls (okc.new hok (okC.size hC.2.2.2.2.2.2.1) hC.2.2.2.2.2.2.1.2.2.2.2.1 ⟨_, hc, (u_born ty hts hin hKn hkC e1 hty).to hfs⟩ (by rw [z1, hok.1]) (fun q hq => o1 q (by rw [← hok.1]; exact hq))) hl
/-- checkcast to the object's own class, or of null -/
def cCast (w : cW) (r : Option Nat) (ci : Nat) : Option Unit := match r with
  | none => some ()
  | some a => (cObj w (some a) ci).map (fun _ => ())
theorem v_cast {CN : String} {T : u_T} {N ci index : Nat} {r : Option Nat} {F : Unit → Option β} (hC : okC C cc nL own Ts) (hd : decode cc pc = .ok (.checkcast index, 3)) (hc : vwCl[ci]? = some (CN, T, N)) (hcl : Cond.classLink own index CN ∈ Ts) (hf : (cCast w r ci).bind F = some z) (kk : F () = some z → V C w k n (pc + 3) lv (va_rf r :: st)) : V C w k n pc lv (va_rf r :: st) := by
  have hK := hC.K
  obtain ⟨p, l, e, R, s, m, args, below, meth, c, Q, nL, G, w0⟩ := C
  obtain ⟨⟨⟩, hx, hf1⟩ := ob hf
  intro H locs ls hok hl
  cases r with
  | none => exact lv_castN hC.1 hC.2.1 hd (kk hf1 H locs ls hok hl)
  | some a =>
    unfold cCast at hx
    try dsimp only at hx
    obtain ⟨fs, ho, -⟩ := Option.map_eq_some_iff.mp hx
    obtain ⟨a', ha', ha⟩ := cObj_of ho
    cases ha'
    have hKn := hK.1.1 ci _ hc
    exact va_castS hC.1 hC.2.1 hC.2.2.2.2.1 (hC.2.2.2.2.2.1 _ hcl) hKn.2 (va_recv (q0 := 0) hK.1 (va_P1 (q := (a, .inr (ci, fs))) (hok.2.1 a _ ha)) hc rfl) hd (kk hf1 H locs ls hok hl)
end VHEAP
