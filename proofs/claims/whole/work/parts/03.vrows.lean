/-! THE LAYER V: a method's walk over a pure world. A world w = (cells by address, heap size, the address of ArrayList's empty array, the address of the class object of Object[]). V C w k n pc lv st: the machine at pc, with locals lv, operands st and the world w, comes to C's end. -/
abbrev cE : Type := (Nat × vp_A) ⊕ (Nat × List Value)
abbrev cW : Type := (Nat → Option cE) × Nat × Nat × Nat
abbrev cG : Type := Nat × va_G × (Nat → ClassId)
/-- may it be written? arrays of a kind from aRO on are not -/
def wrE (e : cE) : Bool := match e with
  | .inl a => decide (a.1 < aRO)
  | .inr _ => true
def Aw (w : cW) : Nat → Prop := fun q => (∃ e, w.1 q = some e ∧ wrE e = true) ∨ w.2.1 ≤ q
/-- what an array holds at a place -/
def vpV (x : vp_A) (j : Nat) : Value := match x.2 with
  | .inl f => .int (f j)
  | .inr (.inl f) => .long (f j)
  | .inr (.inr (.inl f)) => .float (f j)
  | .inr (.inr (.inr (.inl f))) => .double (f j)
  | .inr (.inr (.inr (.inr f))) => va_rf (f j)
theorem vp_cell_V (cA : ClassId) (x : vp_A) : vp_cell cA x = arrV cA x.1 (vpV x) := by
  obtain ⟨n, f | f | f | f | f⟩ := x <;> rfl
/-- the cell e lies at a; an array that is only read may have been there before -/
def cAt (G : cG) (U : State) (H : Heap) (a : Nat) (e : cE) : Prop := match e with
  | .inl x => if x.1 < aRO then H[a]? = some (vp_cell (G.2.2 x.1) x.2) else va_T (aTy x.1) a x.2.1 (vpV x.2) (fun _ => False) U H
  | .inr o => va_at G.2.1 vwCl (a, .inr o) H
theorem cAt.kept {G : cG} {U : State} {H H1 : Heap} {a : Nat} {e : cE} (h : cAt G U H a e) (hq : H1[a]? = H[a]?) : cAt G U H1 a e := by
  cases e with
  | inl x =>
    unfold cAt at h ⊢
    dsimp only at h ⊢
    by_cases hx : x.1 < aRO
    · rw [if_pos hx] at h ⊢
      exact hq.trans h
    · rw [if_neg hx] at h ⊢
      obtain ⟨cell, h1, h2⟩ := h
      exact ⟨cell, hq.trans h1, h2⟩
  | inr o => exact va_at.kept (q := (a, .inr o)) h hq
theorem cAt.lt {G : cG} {U : State} {H : Heap} {a : Nat} {e : cE} (h : cAt G U H a e) : a < H.size := by
  cases e with
  | inl x =>
    unfold cAt at h
    dsimp only at h
    by_cases hx : x.1 < aRO
    · rw [if_pos hx] at h
      exact (Array.getElem?_eq_some_iff.mp h).1
    · rw [if_neg hx] at h
      obtain ⟨cell, h1, h2⟩ := h
      exact (Array.getElem?_eq_some_iff.mp h1).1
  | inr o => exact va_at.lt (q := (a, .inr o)) h
theorem cAt.moved {G : cG} {u U : State} {H : Heap} {a : Nat} {e : cE} (hvm : u.vm.Alike U.vm) (h : cAt G u H a e) : cAt G U H a e := by
  cases e with
  | inl x =>
    unfold cAt at h ⊢
    dsimp only at h ⊢
    by_cases hx : x.1 < aRO
    · rw [if_pos hx] at h ⊢
      exact h
    · rw [if_neg hx] at h ⊢
      exact va_T.moved hvm h
  | inr o => exact h
def cHm (G : cG) (U : State) (σ : Nat → Option cE) (H : Heap) : Prop := ∀ (a : Nat) (e : cE), σ a = some e → cAt G U H a e
theorem cHm.moved {G : cG} {u U : State} {σ : Nat → Option cE} {H : Heap} (hvm : u.vm.Alike U.vm) (h : cHm G u σ H) : cHm G U σ H := fun a e he => (h a e he).moved hvm
/-- the words that callees take along not by their own lists: they stay as the machine warms -/
def cX (U : State) : Prop := ∀ x ∈ lw_ex, va_Nw x U
theorem cX.warm {s U : State} (hW : s.WarmedH U.vm) (h : cX s) : cX U := fun x hx => lw_ex_stays x hx s U hW (h x hx)
theorem cX.same {u U : State} (e : u.vm = U.vm) (h : cX u) : cX U := fun x hx => lw_ex_same x hx u U e (h x hx)
def cK (G : cG) (U : State) : Prop := va_K G.2.1 vwCl [] U ∧ (∀ t : Nat, t < aN → ArrOfT U (G.2.2 t) (aTy t) ∧ va_RA U (G.2.2 t) (aTy t)) ∧ cX U
theorem cK.moved {G : cG} {u U : State} (hvm : u.vm.Alike U.vm) (hX : cX U) (h : cK G u) : cK G U := ⟨va_K.moved hvm h.1, fun t ht => ⟨arrOfT_moved hvm (h.2.1 t ht).1, (h.2.1 t ht).2.moved hvm⟩, hX⟩
def cZ (G : cG) (w : cW) (U : State) (H : Heap) : Prop := va_Z zC zN zD (.ref w.2.2.1) (fun q => G.1 ≤ q) U H ∧ va_Mi mC w.2.2.2 U
def okw (G : cG) (w : cW) (U : State) : Prop := cK G U ∧ cZ G w U U.heap ∧ U.heap.size = w.2.1 ∧ cHm G U w.1 U.heap ∧ G.1 ≤ w.2.1 ∧ ∀ (a : Nat) (e : cE), w.1 a = some e → wrE e = true → G.1 ≤ a
def okc (G : cG) (s : State) (w0 w : cW) (H : Heap) (locs : List Loc) : Prop := H.size = w.2.1 ∧ cHm G s w.1 H ∧ (∀ (a : Nat) (e : cE), w.1 a = some e → wrE e = true → G.1 ≤ a ∧ Aw w0 a) ∧ va_S (Aw w0) s.heap H locs ∧ w.2.2 = w0.2.2
abbrev xC := Program × Launch × Env × Room × State × MethodId × Array Value × List Frame × Method × Code × (State → Prop) × Nat × cG × cW
def V (C : xC) (w : cW) (k n pc : Nat) (lv : List (Nat × Value)) (st : List Value) : Prop := match C with
  | (p, l, e, R, s, m, args, below, meth, c, Q, nL, G, w0) => ∀ (H : Heap) (locs : List Loc) (ls : Array Slot), okc G s w0 w H locs → lv_has ls nL lv → W p l e R s m args below meth c H locs k n Q (F0 m pc ls st)
def okC (C : xC) (cc : ByteArray) (nL0 : Nat) (own : String) (Ts : List Cond) : Prop := match C with
  | (p, _, _, _, s, m, args, _, meth, c, _, nL, G, w0) => p.tables.exec = Jvm.exec ∧ c.code = cc ∧ c.maxLocals = nL ∧ nL = nL0 ∧ s.vm.findClass own = some m.cls ∧ (∀ w ∈ Ts, w.before args s = true) ∧ okw G w0 s ∧ meth.locks = false
def xR (C : xC) : Room := C.2.2.2.1
def bnd {α β : Type} (x : α) (f : α → β) : β := f x
def cbd {α β γ : Type} (o : Option (α × β)) (f : α → β → Option γ) : Option γ := match o with
  | some q => f q.1 q.2
  | none => none
theorem ob {α β : Type} {o : Option α} {f : α → Option β} {r : β} (h : o.bind f = some r) : ∃ x, o = some x ∧ f x = some r := by
  cases o with
  | none => cases h
  | some x => exact ⟨x, rfl, h⟩
theorem obc {α β γ : Type} {o : Option (α × β)} {f : α → β → Option γ} {r : γ} (h : cbd o f = some r) : ∃ x y, o = some (x, y) ∧ f x y = some r := by
  cases o with
  | none => cases h
  | some x => exact ⟨x.1, x.2, rfl, h⟩
theorem okc.put {G : cG} {s : State} {w0 w : cW} {H H1 : Heap} {locs : List Loc} {a i : Nat} {e0 e : cE} (h : okc G s w0 w H locs) (ha : w.1 a = some e0) (hw0 : wrE e0 = true) (hat : cAt G s H1 a e) (z : H1.size = H.size) (oq : ∀ q : Nat, q ≠ a → H1[q]? = H[q]?) : okc G s w0 (va_up w.1 a (some e), w.2) H1 (locs ++ [⟨a, i⟩]) := by
  obtain ⟨h1, h2, h3, h4, h5⟩ := h
  refine ⟨z.trans h1, fun b x hb => ?_, fun b x hb hx => ?_, h4.put z oq (h3 a e0 ha hw0).2, h5⟩
  · have hb : va_up w.1 a (some e) b = some x := hb
    by_cases q : b = a
    · subst q
      rw [va_up_self] at hb
      cases hb
      exact hat
    · rw [va_up_ne _ _ q] at hb
      exact (h2 b x hb).kept (oq b q)
  · have hb : va_up w.1 a (some e) b = some x := hb
    by_cases q : b = a
    · subst q
      exact h3 b e0 ha hw0
    · rw [va_up_ne _ _ q] at hb
      exact h3 b x hb hx
theorem okc.puts {G : cG} {s : State} {w0 w : cW} {H H1 : Heap} {locs L : List Loc} {a : Nat} {e0 e : cE} (h : okc G s w0 w H locs) (ha : w.1 a = some e0) (hw0 : wrE e0 = true) (hat : cAt G s H1 a e) (z : H1.size = H.size) (oq : ∀ q : Nat, q ≠ a → H1[q]? = H[q]?) (hL : ∀ q ∈ L, q.base = a) : okc G s w0 (va_up w.1 a (some e), w.2) H1 (locs ++ L) := by
  obtain ⟨h1, h2, h3, h4, h5⟩ := okc.put (i := 0) h ha hw0 hat z oq
  refine ⟨h1, h2, h3, ⟨h4.1, h4.2.1, fun q hq => ?_⟩, h5⟩
  rcases List.mem_append.mp hq with g | g
  · exact h4.2.2 q (List.mem_append.mpr (Or.inl g))
  · have := h4.2.2 (⟨a, 0⟩ : Loc) (List.mem_append.mpr (Or.inr (List.mem_singleton.mpr rfl)))
    rw [hL q g]
    exact this
theorem okc.new {G : cG} {s : State} {w0 w : cW} {H H1 : Heap} {locs : List Loc} {e : cE} (h : okc G s w0 w H locs) (hw : w0.2.1 = s.heap.size) (hB : G.1 ≤ w0.2.1) (hat : cAt G s H1 w.2.1 e) (z : H1.size = H.size + 1) (oq : ∀ q : Nat, q < H.size → H1[q]? = H[q]?) : okc G s w0 (va_up w.1 w.2.1 (some e), w.2.1 + 1, w.2.2) H1 locs := by
  obtain ⟨h1, h2, h3, h4, h5⟩ := h
  have hn : w0.2.1 ≤ w.2.1 := by rw [hw, ← h1]; exact h4.1
  refine ⟨by rw [z, h1], fun b x hb => ?_, fun b x hb hx => ?_, ⟨by rw [z]; exact Nat.le_succ_of_le h4.1, fun q g1 g2 => (oq q (Nat.lt_of_lt_of_le g1 h4.1)).trans (h4.2.1 q g1 g2), h4.2.2⟩, h5⟩
  · have hb : va_up w.1 w.2.1 (some e) b = some x := hb
    by_cases q : b = w.2.1
    · subst q
      rw [va_up_self] at hb
      cases hb
      exact hat
    · rw [va_up_ne _ _ q] at hb
      exact (h2 b x hb).kept (oq b (h2 b x hb).lt)
  · have hb : va_up w.1 w.2.1 (some e) b = some x := hb
    by_cases q : b = w.2.1
    · subst q
      exact ⟨Nat.le_trans hB hn, Or.inr hn⟩
    · rw [va_up_ne _ _ q] at hb
      exact h3 b x hb hx
theorem V.widen {C : xC} {w : cW} {k n k' n' pc : Nat} {lv : List (Nat × Value)} {st : List Value} (h1 : k ≤ k') (h2 : n ≤ n') (h : V C w k' n' pc lv st) : V C w k n pc lv st := by
  obtain ⟨p, l, e, R, s, m, args, below, meth, c, Q, nL, G, w0⟩ := C
  intro H locs ls ho hl
  exact W.widen h1 h2 (h H locs ls ho hl)
/-- fewer locals, in another order: by their places -/
theorem V.sub {C : xC} {w : cW} {k n pc : Nat} {lv lv' : List (Nat × Value)} {st : List Value} (ks : List Nat) (hk : lv_pick lv ks = lv') (h : V C w k n pc lv' st) : V C w k n pc lv st := by
  obtain ⟨p, l, e, R, s, m, args, below, meth, c, Q, nL, G, w0⟩ := C
  intro H locs ls ho hl
  exact h H locs ls ho (lv_sub hl ks hk)

theorem v_iconst {C : xC} {cc : ByteArray} {nL : Nat} {own : String} {Ts : List Cond} {w : cW} {k n pc : Nat} {lv : List (Nat × Value)} {st : List Value} {i : Int} {v : Int32} (hC : okC C cc nL own Ts) (hd : decode cc pc = .ok (.iconst i, 1)) (hv : Int32.ofInt i = v) (kk : V C w k n (pc + 1) lv (.int v :: st)) : V C w k n pc lv (st) := by
  obtain ⟨p, l, e, R, s, m, args, below, meth, c, Q, nL, G, w0⟩ := C
  intro H locs ls ho hl
  exact lv_iconst hC.1 hC.2.1 hd hv (kk H locs ls ho hl)
theorem v_bipush {C : xC} {cc : ByteArray} {nL : Nat} {own : String} {Ts : List Cond} {w : cW} {k n pc : Nat} {lv : List (Nat × Value)} {st : List Value} {i : Int} {v : Int32} (hC : okC C cc nL own Ts) (hd : decode cc pc = .ok (.bipush i, 2)) (hv : (Int8.ofInt i).toInt32 = v) (kk : V C w k n (pc + 2) lv (.int v :: st)) : V C w k n pc lv (st) := by
  obtain ⟨p, l, e, R, s, m, args, below, meth, c, Q, nL, G, w0⟩ := C
  intro H locs ls ho hl
  exact lv_bipush hC.1 hC.2.1 hd hv (kk H locs ls ho hl)
theorem v_sipush {C : xC} {cc : ByteArray} {nL : Nat} {own : String} {Ts : List Cond} {w : cW} {k n pc : Nat} {lv : List (Nat × Value)} {st : List Value} {i : Int} {v : Int32} (hC : okC C cc nL own Ts) (hd : decode cc pc = .ok (.sipush i, 3)) (hv : (Int16.ofInt i).toInt32 = v) (kk : V C w k n (pc + 3) lv (.int v :: st)) : V C w k n pc lv (st) := by
  obtain ⟨p, l, e, R, s, m, args, below, meth, c, Q, nL, G, w0⟩ := C
  intro H locs ls ho hl
  exact lv_sipush hC.1 hC.2.1 hd hv (kk H locs ls ho hl)
theorem v_lconst {C : xC} {cc : ByteArray} {nL : Nat} {own : String} {Ts : List Cond} {w : cW} {k n pc : Nat} {lv : List (Nat × Value)} {st : List Value} {i : Fin 2} {v : Int64} (hC : okC C cc nL own Ts) (hd : decode cc pc = .ok (.lconst i, 1)) (hv : Int64.ofNat (i : Nat) = v) (kk : V C w k n (pc + 1) lv (.long v :: st)) : V C w k n pc lv (st) := by
  obtain ⟨p, l, e, R, s, m, args, below, meth, c, Q, nL, G, w0⟩ := C
  intro H locs ls ho hl
  exact lv_lconst hC.1 hC.2.1 hd hv (kk H locs ls ho hl)
theorem v_null {C : xC} {cc : ByteArray} {nL : Nat} {own : String} {Ts : List Cond} {w : cW} {k n pc : Nat} {lv : List (Nat × Value)} {st : List Value} (hC : okC C cc nL own Ts) (hd : decode cc pc = .ok (.aconst_null, 1)) (kk : V C w k n (pc + 1) lv (va_rf none :: st)) : V C w k n pc lv (st) := by
  obtain ⟨p, l, e, R, s, m, args, below, meth, c, Q, nL, G, w0⟩ := C
  intro H locs ls ho hl
  exact lv_null hC.1 hC.2.1 hd (kk H locs ls ho hl)
theorem v_ldc {C : xC} {cc : ByteArray} {nL : Nat} {own : String} {Ts : List Cond} {w : cW} {k n pc : Nat} {lv : List (Nat × Value)} {st : List Value} {i : Nat} {v : Int32} (hC : okC C cc nL own Ts) (hd : decode cc pc = .ok (.ldc i, 2)) (hc : Cond.constant own i v ∈ Ts) (kk : V C w k n (pc + 2) lv (.int v :: st)) : V C w k n pc lv (st) := by
  obtain ⟨p, l, e, R, s, m, args, below, meth, c, Q, nL, G, w0⟩ := C
  intro H locs ls ho hl
  exact lv_ldc hC.1 hC.2.1 hC.2.2.2.2.1 (hC.2.2.2.2.2.1 _ hc) hd (kk H locs ls ho hl)
theorem v_ldc2 {C : xC} {cc : ByteArray} {nL : Nat} {own : String} {Ts : List Cond} {w : cW} {k n pc : Nat} {lv : List (Nat × Value)} {st : List Value} {i : Nat} {v : Int64} (hC : okC C cc nL own Ts) (hd : decode cc pc = .ok (.ldc2_w i, 3)) (hc : Cond.constantLong own i v ∈ Ts) (kk : V C w k n (pc + 3) lv (.long v :: st)) : V C w k n pc lv (st) := by
  obtain ⟨p, l, e, R, s, m, args, below, meth, c, Q, nL, G, w0⟩ := C
  intro H locs ls ho hl
  exact lv_ldc2 hC.1 hC.2.1 hC.2.2.2.2.1 (hC.2.2.2.2.2.1 _ hc) hd (kk H locs ls ho hl)
theorem v_iload_n {C : xC} {cc : ByteArray} {nL : Nat} {own : String} {Ts : List Cond} {w : cW} {k n pc : Nat} {lv : List (Nat × Value)} {st : List Value} {f : Fin 4} {i : Nat} {x : Int32} (hC : okC C cc nL own Ts) (hd : decode cc pc = .ok (.iload_n f, 1)) (hi : (f : Nat) = i) (q : Nat) (hq : lv[q]? = some (i, .int x)) (kk : V C w k n (pc + 1) lv (.int x :: st)) : V C w k n pc lv (st) := by
  obtain ⟨p, l, e, R, s, m, args, below, meth, c, Q, nL, G, w0⟩ := C
  intro H locs ls ho hl
  exact lv_iload_n hC.1 hC.2.1 hd hi (lv_at hl q hq) (kk H locs ls ho hl)
theorem v_iload {C : xC} {cc : ByteArray} {nL : Nat} {own : String} {Ts : List Cond} {w : cW} {k n pc : Nat} {lv : List (Nat × Value)} {st : List Value} {i : Nat} {x : Int32} (hC : okC C cc nL own Ts) (hd : decode cc pc = .ok (.iload i, 2)) (q : Nat) (hq : lv[q]? = some (i, .int x)) (kk : V C w k n (pc + 2) lv (.int x :: st)) : V C w k n pc lv (st) := by
  obtain ⟨p, l, e, R, s, m, args, below, meth, c, Q, nL, G, w0⟩ := C
  intro H locs ls ho hl
  exact lv_iload hC.1 hC.2.1 hd (lv_at hl q hq) (kk H locs ls ho hl)
theorem v_lload_n {C : xC} {cc : ByteArray} {nL : Nat} {own : String} {Ts : List Cond} {w : cW} {k n pc : Nat} {lv : List (Nat × Value)} {st : List Value} {f : Fin 4} {i : Nat} {x : Int64} (hC : okC C cc nL own Ts) (hd : decode cc pc = .ok (.lload_n f, 1)) (hi : (f : Nat) = i) (q : Nat) (hq : lv[q]? = some (i, .long x)) (kk : V C w k n (pc + 1) lv (.long x :: st)) : V C w k n pc lv (st) := by
  obtain ⟨p, l, e, R, s, m, args, below, meth, c, Q, nL, G, w0⟩ := C
  intro H locs ls ho hl
  exact lv_lload_n hC.1 hC.2.1 hd hi (lv_at hl q hq) (kk H locs ls ho hl)
theorem v_lload {C : xC} {cc : ByteArray} {nL : Nat} {own : String} {Ts : List Cond} {w : cW} {k n pc : Nat} {lv : List (Nat × Value)} {st : List Value} {i : Nat} {x : Int64} (hC : okC C cc nL own Ts) (hd : decode cc pc = .ok (.lload i, 2)) (q : Nat) (hq : lv[q]? = some (i, .long x)) (kk : V C w k n (pc + 2) lv (.long x :: st)) : V C w k n pc lv (st) := by
  obtain ⟨p, l, e, R, s, m, args, below, meth, c, Q, nL, G, w0⟩ := C
  intro H locs ls ho hl
  exact lv_lload hC.1 hC.2.1 hd (lv_at hl q hq) (kk H locs ls ho hl)
theorem v_aload_n {C : xC} {cc : ByteArray} {nL : Nat} {own : String} {Ts : List Cond} {w : cW} {k n pc : Nat} {lv : List (Nat × Value)} {st : List Value} {f : Fin 4} {i : Nat} {r : Option Nat} (hC : okC C cc nL own Ts) (hd : decode cc pc = .ok (.aload_n f, 1)) (hi : (f : Nat) = i) (q : Nat) (hq : lv[q]? = some (i, va_rf r)) (kk : V C w k n (pc + 1) lv (va_rf r :: st)) : V C w k n pc lv (st) := by
  obtain ⟨p, l, e, R, s, m, args, below, meth, c, Q, nL, G, w0⟩ := C
  intro H locs ls ho hl
  cases r with
  | none => exact lv_aload_nN hC.1 hC.2.1 hd hi (lv_at hl q hq) (kk H locs ls ho hl)
  | some r => exact lv_aload_n hC.1 hC.2.1 hd hi (lv_at hl q hq) (kk H locs ls ho hl)
theorem v_aload {C : xC} {cc : ByteArray} {nL : Nat} {own : String} {Ts : List Cond} {w : cW} {k n pc : Nat} {lv : List (Nat × Value)} {st : List Value} {i : Nat} {r : Option Nat} (hC : okC C cc nL own Ts) (hd : decode cc pc = .ok (.aload i, 2)) (q : Nat) (hq : lv[q]? = some (i, va_rf r)) (kk : V C w k n (pc + 2) lv (va_rf r :: st)) : V C w k n pc lv (st) := by
  obtain ⟨p, l, e, R, s, m, args, below, meth, c, Q, nL, G, w0⟩ := C
  intro H locs ls ho hl
  cases r with
  | none => exact lv_aloadN hC.1 hC.2.1 hd (lv_at hl q hq) (kk H locs ls ho hl)
  | some r => exact lv_aload hC.1 hC.2.1 hd (lv_at hl q hq) (kk H locs ls ho hl)
theorem v_istore_n {C : xC} {cc : ByteArray} {nL : Nat} {own : String} {Ts : List Cond} {w : cW} {k n pc : Nat} {lv : List (Nat × Value)} {st : List Value} {f : Fin 4} {i : Nat} {x : Int32} (hC : okC C cc nL own Ts) (hd : decode cc pc = .ok (.istore_n f, 1)) (hi : (f : Nat) = i) (hn : i < nL) (lv' : List (Nat × Value)) (hl' : (i, Value.int x) :: lv.filter (fun q => !(q.1 == i) && !(q.1 + 1 == i && q.2.category == 2)) = lv') (kk : V C w k n (pc + 1) lv' (st)) : V C w k n pc lv (.int x :: st) := by
  obtain ⟨p, l, e, R, s, m, args, below, meth, c, Q, nL, G, w0⟩ := C
  intro H locs ls ho hl
  exact lv_istore_n hC.1 hC.2.1 hd hi hl (by rw [hC.2.2.2.1]; exact hn) hl' (fun ls hl => kk H locs ls ho hl)
theorem v_istore {C : xC} {cc : ByteArray} {nL : Nat} {own : String} {Ts : List Cond} {w : cW} {k n pc : Nat} {lv : List (Nat × Value)} {st : List Value} {i : Nat} {x : Int32} (hC : okC C cc nL own Ts) (hd : decode cc pc = .ok (.istore i, 2)) (hn : i < nL) (lv' : List (Nat × Value)) (hl' : (i, Value.int x) :: lv.filter (fun q => !(q.1 == i) && !(q.1 + 1 == i && q.2.category == 2)) = lv') (kk : V C w k n (pc + 2) lv' (st)) : V C w k n pc lv (.int x :: st) := by
  obtain ⟨p, l, e, R, s, m, args, below, meth, c, Q, nL, G, w0⟩ := C
  intro H locs ls ho hl
  exact lv_istore hC.1 hC.2.1 hd hl (by rw [hC.2.2.2.1]; exact hn) hl' (fun ls hl => kk H locs ls ho hl)
theorem v_lstore_n {C : xC} {cc : ByteArray} {nL : Nat} {own : String} {Ts : List Cond} {w : cW} {k n pc : Nat} {lv : List (Nat × Value)} {st : List Value} {f : Fin 4} {i : Nat} {x : Int64} (hC : okC C cc nL own Ts) (hd : decode cc pc = .ok (.lstore_n f, 1)) (hi : (f : Nat) = i) (hn : i + 1 < nL) (lv' : List (Nat × Value)) (hl' : (i, Value.long x) :: lv.filter (fun q => !(q.1 == i) && (!(q.1 == i + 1) && !(q.1 + 1 == i && q.2.category == 2))) = lv') (kk : V C w k n (pc + 1) lv' (st)) : V C w k n pc lv (.long x :: st) := by
  obtain ⟨p, l, e, R, s, m, args, below, meth, c, Q, nL, G, w0⟩ := C
  intro H locs ls ho hl
  exact lv_lstore_n hC.1 hC.2.1 hd hi hl (by rw [hC.2.2.2.1]; exact hn) hl' (fun ls hl => kk H locs ls ho hl)
theorem v_lstore {C : xC} {cc : ByteArray} {nL : Nat} {own : String} {Ts : List Cond} {w : cW} {k n pc : Nat} {lv : List (Nat × Value)} {st : List Value} {i : Nat} {x : Int64} (hC : okC C cc nL own Ts) (hd : decode cc pc = .ok (.lstore i, 2)) (hn : i + 1 < nL) (lv' : List (Nat × Value)) (hl' : (i, Value.long x) :: lv.filter (fun q => !(q.1 == i) && (!(q.1 == i + 1) && !(q.1 + 1 == i && q.2.category == 2))) = lv') (kk : V C w k n (pc + 2) lv' (st)) : V C w k n pc lv (.long x :: st) := by
  obtain ⟨p, l, e, R, s, m, args, below, meth, c, Q, nL, G, w0⟩ := C
  intro H locs ls ho hl
  exact lv_lstore hC.1 hC.2.1 hd hl (by rw [hC.2.2.2.1]; exact hn) hl' (fun ls hl => kk H locs ls ho hl)
theorem v_astore_n {C : xC} {cc : ByteArray} {nL : Nat} {own : String} {Ts : List Cond} {w : cW} {k n pc : Nat} {lv : List (Nat × Value)} {st : List Value} {f : Fin 4} {i : Nat} {r : Option Nat} (hC : okC C cc nL own Ts) (hd : decode cc pc = .ok (.astore_n f, 1)) (hi : (f : Nat) = i) (hn : i < nL) (lv' : List (Nat × Value)) (hl' : (i, va_rf r) :: lv.filter (fun q => !(q.1 == i) && !(q.1 + 1 == i && q.2.category == 2)) = lv') (kk : V C w k n (pc + 1) lv' (st)) : V C w k n pc lv (va_rf r :: st) := by
  obtain ⟨p, l, e, R, s, m, args, below, meth, c, Q, nL, G, w0⟩ := C
  intro H locs ls ho hl
  cases r with
  | none => exact lv_astore_nN hC.1 hC.2.1 hd hi hl (by rw [hC.2.2.2.1]; exact hn) hl' (fun ls hl => kk H locs ls ho hl)
  | some r => exact lv_astore_n hC.1 hC.2.1 hd hi hl (by rw [hC.2.2.2.1]; exact hn) hl' (fun ls hl => kk H locs ls ho hl)
theorem v_astore {C : xC} {cc : ByteArray} {nL : Nat} {own : String} {Ts : List Cond} {w : cW} {k n pc : Nat} {lv : List (Nat × Value)} {st : List Value} {i : Nat} {r : Option Nat} (hC : okC C cc nL own Ts) (hd : decode cc pc = .ok (.astore i, 2)) (hn : i < nL) (lv' : List (Nat × Value)) (hl' : (i, va_rf r) :: lv.filter (fun q => !(q.1 == i) && !(q.1 + 1 == i && q.2.category == 2)) = lv') (kk : V C w k n (pc + 2) lv' (st)) : V C w k n pc lv (va_rf r :: st) := by
  obtain ⟨p, l, e, R, s, m, args, below, meth, c, Q, nL, G, w0⟩ := C
  intro H locs ls ho hl
  cases r with
  | none => exact lv_astoreN hC.1 hC.2.1 hd hl (by rw [hC.2.2.2.1]; exact hn) hl' (fun ls hl => kk H locs ls ho hl)
  | some r => exact lv_astore hC.1 hC.2.1 hd hl (by rw [hC.2.2.2.1]; exact hn) hl' (fun ls hl => kk H locs ls ho hl)
theorem v_iinc {C : xC} {cc : ByteArray} {nL : Nat} {own : String} {Ts : List Cond} {w : cW} {k n pc : Nat} {lv : List (Nat × Value)} {st : List Value} {i : Nat} {j : Int} {x v : Int32} (hC : okC C cc nL own Ts) (hd : decode cc pc = .ok (.iinc i j, 3)) (q : Nat) (hq : lv[q]? = some (i, .int x)) (hv : x + Int32.ofInt j = v) (hn : i < nL) (lv' : List (Nat × Value)) (hl' : (i, Value.int v) :: lv.filter (fun q => !(q.1 == i) && !(q.1 + 1 == i && q.2.category == 2)) = lv') (kk : V C w k n (pc + 3) lv' (st)) : V C w k n pc lv (st) := by
  obtain ⟨p, l, e, R, s, m, args, below, meth, c, Q, nL, G, w0⟩ := C
  intro H locs ls ho hl
  exact lv_iinc hC.1 hC.2.1 hd hl hq hv (by rw [hC.2.2.2.1]; exact hn) hl' (fun ls hl => kk H locs ls ho hl)
theorem v_namei {C : xC} {w : cW} {k n pc : Nat} {lv : List (Nat × Value)} {st : List Value} {x y : Int32} (e : y = x) (kk : V C w k n pc lv (.int y :: st)) : V C w k n pc lv (.int x :: st) := e ▸ kk
theorem v_namel {C : xC} {w : cW} {k n pc : Nat} {lv : List (Nat × Value)} {st : List Value} {x y : Int64} (e : y = x) (kk : V C w k n pc lv (.long y :: st)) : V C w k n pc lv (.long x :: st) := e ▸ kk
theorem v_bndi {C : xC} {w : cW} {k n pc : Nat} {lv : List (Nat × Value)} {st : List Value} {β : Type} {x : Int32} {F : Int32 → Option β} {r : β} (hf : bnd x F = some r) (kk : ∀ y : Int32, F y = some r → V C w k n pc lv (.int y :: st)) : V C w k n pc lv (.int x :: st) := kk x hf
theorem v_bndl {C : xC} {w : cW} {k n pc : Nat} {lv : List (Nat × Value)} {st : List Value} {β : Type} {x : Int64} {F : Int64 → Option β} {r : β} (hf : bnd x F = some r) (kk : ∀ y : Int64, F y = some r → V C w k n pc lv (.long y :: st)) : V C w k n pc lv (.long x :: st) := kk x hf
theorem v_iadd {C : xC} {cc : ByteArray} {nL : Nat} {own : String} {Ts : List Cond} {w : cW} {k n pc : Nat} {lv : List (Nat × Value)} {st : List Value} {x y : Int32} (hC : okC C cc nL own Ts) (hd : decode cc pc = .ok (.iadd, 1)) (kk : V C w k n (pc + 1) lv (.int (x + y) :: st)) : V C w k n pc lv (.int y :: .int x :: st) := by
  obtain ⟨p, l, e, R, s, m, args, below, meth, c, Q, nL, G, w0⟩ := C
  intro H locs ls ho hl
  exact lv_iadd hC.1 hC.2.1 hd (kk H locs ls ho hl)
theorem v_isub {C : xC} {cc : ByteArray} {nL : Nat} {own : String} {Ts : List Cond} {w : cW} {k n pc : Nat} {lv : List (Nat × Value)} {st : List Value} {x y : Int32} (hC : okC C cc nL own Ts) (hd : decode cc pc = .ok (.isub, 1)) (kk : V C w k n (pc + 1) lv (.int (x - y) :: st)) : V C w k n pc lv (.int y :: .int x :: st) := by
  obtain ⟨p, l, e, R, s, m, args, below, meth, c, Q, nL, G, w0⟩ := C
  intro H locs ls ho hl
  exact lv_isub hC.1 hC.2.1 hd (kk H locs ls ho hl)
theorem v_imul {C : xC} {cc : ByteArray} {nL : Nat} {own : String} {Ts : List Cond} {w : cW} {k n pc : Nat} {lv : List (Nat × Value)} {st : List Value} {x y : Int32} (hC : okC C cc nL own Ts) (hd : decode cc pc = .ok (.imul, 1)) (kk : V C w k n (pc + 1) lv (.int (x * y) :: st)) : V C w k n pc lv (.int y :: .int x :: st) := by
  obtain ⟨p, l, e, R, s, m, args, below, meth, c, Q, nL, G, w0⟩ := C
  intro H locs ls ho hl
  exact lv_imul hC.1 hC.2.1 hd (kk H locs ls ho hl)
theorem v_iand {C : xC} {cc : ByteArray} {nL : Nat} {own : String} {Ts : List Cond} {w : cW} {k n pc : Nat} {lv : List (Nat × Value)} {st : List Value} {x y : Int32} (hC : okC C cc nL own Ts) (hd : decode cc pc = .ok (.iand, 1)) (kk : V C w k n (pc + 1) lv (.int (x &&& y) :: st)) : V C w k n pc lv (.int y :: .int x :: st) := by
  obtain ⟨p, l, e, R, s, m, args, below, meth, c, Q, nL, G, w0⟩ := C
  intro H locs ls ho hl
  exact lv_iand hC.1 hC.2.1 hd (kk H locs ls ho hl)
theorem v_ior {C : xC} {cc : ByteArray} {nL : Nat} {own : String} {Ts : List Cond} {w : cW} {k n pc : Nat} {lv : List (Nat × Value)} {st : List Value} {x y : Int32} (hC : okC C cc nL own Ts) (hd : decode cc pc = .ok (.ior, 1)) (kk : V C w k n (pc + 1) lv (.int (x ||| y) :: st)) : V C w k n pc lv (.int y :: .int x :: st) := by
  obtain ⟨p, l, e, R, s, m, args, below, meth, c, Q, nL, G, w0⟩ := C
  intro H locs ls ho hl
  exact lv_ior hC.1 hC.2.1 hd (kk H locs ls ho hl)
theorem v_ixor {C : xC} {cc : ByteArray} {nL : Nat} {own : String} {Ts : List Cond} {w : cW} {k n pc : Nat} {lv : List (Nat × Value)} {st : List Value} {x y : Int32} (hC : okC C cc nL own Ts) (hd : decode cc pc = .ok (.ixor, 1)) (kk : V C w k n (pc + 1) lv (.int (x ^^^ y) :: st)) : V C w k n pc lv (.int y :: .int x :: st) := by
  obtain ⟨p, l, e, R, s, m, args, below, meth, c, Q, nL, G, w0⟩ := C
  intro H locs ls ho hl
  exact lv_ixor hC.1 hC.2.1 hd (kk H locs ls ho hl)
theorem v_idiv {C : xC} {cc : ByteArray} {nL : Nat} {own : String} {Ts : List Cond} {w : cW} {k n pc : Nat} {lv : List (Nat × Value)} {st : List Value} {x y : Int32} (hC : okC C cc nL own Ts) (hd : decode cc pc = .ok (.idiv, 1)) (hne : ¬ y = 0) (kk : V C w k n (pc + 1) lv (.int (x / y) :: st)) : V C w k n pc lv (.int y :: .int x :: st) := by
  obtain ⟨p, l, e, R, s, m, args, below, meth, c, Q, nL, G, w0⟩ := C
  intro H locs ls ho hl
  exact lv_idiv hC.1 hC.2.1 hd hne (kk H locs ls ho hl)
theorem v_irem {C : xC} {cc : ByteArray} {nL : Nat} {own : String} {Ts : List Cond} {w : cW} {k n pc : Nat} {lv : List (Nat × Value)} {st : List Value} {x y : Int32} (hC : okC C cc nL own Ts) (hd : decode cc pc = .ok (.irem, 1)) (hne : ¬ y = 0) (kk : V C w k n (pc + 1) lv (.int (x - (x / y) * y) :: st)) : V C w k n pc lv (.int y :: .int x :: st) := by
  obtain ⟨p, l, e, R, s, m, args, below, meth, c, Q, nL, G, w0⟩ := C
  intro H locs ls ho hl
  exact lv_irem hC.1 hC.2.1 hd hne (kk H locs ls ho hl)
theorem v_ladd {C : xC} {cc : ByteArray} {nL : Nat} {own : String} {Ts : List Cond} {w : cW} {k n pc : Nat} {lv : List (Nat × Value)} {st : List Value} {x y : Int64} (hC : okC C cc nL own Ts) (hd : decode cc pc = .ok (.ladd, 1)) (kk : V C w k n (pc + 1) lv (.long (x + y) :: st)) : V C w k n pc lv (.long y :: .long x :: st) := by
  obtain ⟨p, l, e, R, s, m, args, below, meth, c, Q, nL, G, w0⟩ := C
  intro H locs ls ho hl
  exact lv_ladd hC.1 hC.2.1 hd (kk H locs ls ho hl)
theorem v_lsub {C : xC} {cc : ByteArray} {nL : Nat} {own : String} {Ts : List Cond} {w : cW} {k n pc : Nat} {lv : List (Nat × Value)} {st : List Value} {x y : Int64} (hC : okC C cc nL own Ts) (hd : decode cc pc = .ok (.lsub, 1)) (kk : V C w k n (pc + 1) lv (.long (x - y) :: st)) : V C w k n pc lv (.long y :: .long x :: st) := by
  obtain ⟨p, l, e, R, s, m, args, below, meth, c, Q, nL, G, w0⟩ := C
  intro H locs ls ho hl
  exact lv_lsub hC.1 hC.2.1 hd (kk H locs ls ho hl)
theorem v_lmul {C : xC} {cc : ByteArray} {nL : Nat} {own : String} {Ts : List Cond} {w : cW} {k n pc : Nat} {lv : List (Nat × Value)} {st : List Value} {x y : Int64} (hC : okC C cc nL own Ts) (hd : decode cc pc = .ok (.lmul, 1)) (kk : V C w k n (pc + 1) lv (.long (x * y) :: st)) : V C w k n pc lv (.long y :: .long x :: st) := by
  obtain ⟨p, l, e, R, s, m, args, below, meth, c, Q, nL, G, w0⟩ := C
  intro H locs ls ho hl
  exact lv_lmul hC.1 hC.2.1 hd (kk H locs ls ho hl)
theorem v_ldiv {C : xC} {cc : ByteArray} {nL : Nat} {own : String} {Ts : List Cond} {w : cW} {k n pc : Nat} {lv : List (Nat × Value)} {st : List Value} {x y : Int64} (hC : okC C cc nL own Ts) (hd : decode cc pc = .ok (.ldiv, 1)) (hne : ¬ y = 0) (kk : V C w k n (pc + 1) lv (.long (x / y) :: st)) : V C w k n pc lv (.long y :: .long x :: st) := by
  obtain ⟨p, l, e, R, s, m, args, below, meth, c, Q, nL, G, w0⟩ := C
  intro H locs ls ho hl
  exact lv_ldiv hC.1 hC.2.1 hd hne (kk H locs ls ho hl)
theorem v_ineg {C : xC} {cc : ByteArray} {nL : Nat} {own : String} {Ts : List Cond} {w : cW} {k n pc : Nat} {lv : List (Nat × Value)} {st : List Value} {x : Int32} (hC : okC C cc nL own Ts) (hd : decode cc pc = .ok (.ineg, 1)) (kk : V C w k n (pc + 1) lv (.int (-x) :: st)) : V C w k n pc lv (.int x :: st) := by
  obtain ⟨p, l, e, R, s, m, args, below, meth, c, Q, nL, G, w0⟩ := C
  intro H locs ls ho hl
  exact lv_ineg hC.1 hC.2.1 hd (kk H locs ls ho hl)
theorem v_lneg {C : xC} {cc : ByteArray} {nL : Nat} {own : String} {Ts : List Cond} {w : cW} {k n pc : Nat} {lv : List (Nat × Value)} {st : List Value} {x : Int64} (hC : okC C cc nL own Ts) (hd : decode cc pc = .ok (.lneg, 1)) (kk : V C w k n (pc + 1) lv (.long (-x) :: st)) : V C w k n pc lv (.long x :: st) := by
  obtain ⟨p, l, e, R, s, m, args, below, meth, c, Q, nL, G, w0⟩ := C
  intro H locs ls ho hl
  exact lv_lneg hC.1 hC.2.1 hd (kk H locs ls ho hl)
theorem v_i2l {C : xC} {cc : ByteArray} {nL : Nat} {own : String} {Ts : List Cond} {w : cW} {k n pc : Nat} {lv : List (Nat × Value)} {st : List Value} {x : Int32} (hC : okC C cc nL own Ts) (hd : decode cc pc = .ok (.i2l, 1)) (kk : V C w k n (pc + 1) lv (.long x.toInt64 :: st)) : V C w k n pc lv (.int x :: st) := by
  obtain ⟨p, l, e, R, s, m, args, below, meth, c, Q, nL, G, w0⟩ := C
  intro H locs ls ho hl
  exact lv_i2l hC.1 hC.2.1 hd rfl (kk H locs ls ho hl)
theorem v_l2i {C : xC} {cc : ByteArray} {nL : Nat} {own : String} {Ts : List Cond} {w : cW} {k n pc : Nat} {lv : List (Nat × Value)} {st : List Value} {x : Int64} (hC : okC C cc nL own Ts) (hd : decode cc pc = .ok (.l2i, 1)) (kk : V C w k n (pc + 1) lv (.int x.toInt32 :: st)) : V C w k n pc lv (.long x :: st) := by
  obtain ⟨p, l, e, R, s, m, args, below, meth, c, Q, nL, G, w0⟩ := C
  intro H locs ls ho hl
  exact lv_l2i hC.1 hC.2.1 hd rfl (kk H locs ls ho hl)
theorem v_lshl {C : xC} {cc : ByteArray} {nL : Nat} {own : String} {Ts : List Cond} {w : cW} {k n pc : Nat} {lv : List (Nat × Value)} {st : List Value} {x : Int64} {y : Int32} (hC : okC C cc nL own Ts) (hd : decode cc pc = .ok (.lshl, 1)) (kk : V C w k n (pc + 1) lv (.long (x <<< (y.toInt64 &&& 63)) :: st)) : V C w k n pc lv (.int y :: .long x :: st) := by
  obtain ⟨p, l, e, R, s, m, args, below, meth, c, Q, nL, G, w0⟩ := C
  intro H locs ls ho hl
  exact lv_lshl hC.1 hC.2.1 hd rfl (kk H locs ls ho hl)
theorem v_ishr {C : xC} {cc : ByteArray} {nL : Nat} {own : String} {Ts : List Cond} {w : cW} {k n pc : Nat} {lv : List (Nat × Value)} {st : List Value} {x y : Int32} (hC : okC C cc nL own Ts) (hd : decode cc pc = .ok (.ishr, 1)) (kk : V C w k n (pc + 1) lv (.int (x >>> (y &&& 31)) :: st)) : V C w k n pc lv (.int y :: .int x :: st) := by
  obtain ⟨p, l, e, R, s, m, args, below, meth, c, Q, nL, G, w0⟩ := C
  intro H locs ls ho hl
  exact lv_ishr hC.1 hC.2.1 hd (kk H locs ls ho hl)
theorem v_lcmp {C : xC} {cc : ByteArray} {nL : Nat} {own : String} {Ts : List Cond} {w : cW} {k n pc : Nat} {lv : List (Nat × Value)} {st : List Value} {x y : Int64} (hC : okC C cc nL own Ts) (hd : decode cc pc = .ok (.lcmp, 1)) (kk : V C w k n (pc + 1) lv (.int (lg_cmp x y) :: st)) : V C w k n pc lv (.long y :: .long x :: st) := by
  obtain ⟨p, l, e, R, s, m, args, below, meth, c, Q, nL, G, w0⟩ := C
  intro H locs ls ho hl
  exact W.lcmp hC.1 hC.2.1 hd (kk H locs ls ho hl)
theorem v_dup {C : xC} {cc : ByteArray} {nL : Nat} {own : String} {Ts : List Cond} {w : cW} {k n pc : Nat} {lv : List (Nat × Value)} {st : List Value} {a : Value} (hC : okC C cc nL own Ts) (hd : decode cc pc = .ok (.dup, 1)) (ha : a.category = 1) (kk : V C w k n (pc + 1) lv (a :: a :: st)) : V C w k n pc lv (a :: st) := by
  obtain ⟨p, l, e, R, s, m, args, below, meth, c, Q, nL, G, w0⟩ := C
  intro H locs ls ho hl
  exact lv_dup hC.1 hC.2.1 hd ha (kk H locs ls ho hl)
theorem v_dupR {C : xC} {cc : ByteArray} {nL : Nat} {own : String} {Ts : List Cond} {w : cW} {k n pc : Nat} {lv : List (Nat × Value)} {st : List Value} {r : Option Nat} (hC : okC C cc nL own Ts) (hd : decode cc pc = .ok (.dup, 1)) (kk : V C w k n (pc + 1) lv (va_rf r :: va_rf r :: st)) : V C w k n pc lv (va_rf r :: st) := by
  obtain ⟨p, l, e, R, s, m, args, below, meth, c, Q, nL, G, w0⟩ := C
  intro H locs ls ho hl
  exact lv_dup hC.1 hC.2.1 hd (by cases r <;> rfl) (kk H locs ls ho hl)
theorem v_pop {C : xC} {cc : ByteArray} {nL : Nat} {own : String} {Ts : List Cond} {w : cW} {k n pc : Nat} {lv : List (Nat × Value)} {st : List Value} {a : Value} (hC : okC C cc nL own Ts) (hd : decode cc pc = .ok (.pop, 1)) (ha : a.category = 1) (kk : V C w k n (pc + 1) lv (st)) : V C w k n pc lv (a :: st) := by
  obtain ⟨p, l, e, R, s, m, args, below, meth, c, Q, nL, G, w0⟩ := C
  intro H locs ls ho hl
  exact lv_pop hC.1 hC.2.1 hd ha (kk H locs ls ho hl)
theorem v_dup_x1R {C : xC} {cc : ByteArray} {nL : Nat} {own : String} {Ts : List Cond} {w : cW} {k n pc : Nat} {lv : List (Nat × Value)} {st : List Value} {r : Option Nat} {x : Int32} (hC : okC C cc nL own Ts) (hd : decode cc pc = .ok (.dup_x1, 1)) (kk : V C w k n (pc + 1) lv (.int x :: va_rf r :: .int x :: st)) : V C w k n pc lv (.int x :: va_rf r :: st) := by
  obtain ⟨p, l, e, R, s, m, args, below, meth, c, Q, nL, G, w0⟩ := C
  intro H locs ls ho hl
  exact lv_dup_x1 hC.1 hC.2.1 hd rfl (by cases r <;> rfl) (kk H locs ls ho hl)
theorem v_dup_x1RR {C : xC} {cc : ByteArray} {nL : Nat} {own : String} {Ts : List Cond} {w : cW} {k n pc : Nat} {lv : List (Nat × Value)} {st : List Value} {r x : Option Nat} (hC : okC C cc nL own Ts) (hd : decode cc pc = .ok (.dup_x1, 1)) (kk : V C w k n (pc + 1) lv (va_rf x :: va_rf r :: va_rf x :: st)) : V C w k n pc lv (va_rf x :: va_rf r :: st) := by
  obtain ⟨p, l, e, R, s, m, args, below, meth, c, Q, nL, G, w0⟩ := C
  intro H locs ls ho hl
  exact lv_dup_x1 hC.1 hC.2.1 hd (by cases x <;> rfl) (by cases r <;> rfl) (kk H locs ls ho hl)
theorem v_if_eq {C : xC} {cc : ByteArray} {nL : Nat} {own : String} {Ts : List Cond} {w : cW} {k n pc : Nat} {lv : List (Nat × Value)} {st : List Value} {x : Int32} {off : Int} {tgt : Nat} {β : Type} {A B : Option β} {r : β} (hC : okC C cc nL own Ts) (hd : decode cc pc = .ok (.ifCond .eq off, 3)) (ht : (pc : Int) + off = (tgt : Int)) (hf : (if x = 0 then A else B) = some r) (kt : A = some r → V C w k n tgt lv (st)) (kf : B = some r → V C w k n (pc + 3) lv (st)) : V C w k n pc lv (.int x :: st) := by
  obtain ⟨p, l, e, R, s, m, args, below, meth, c, Q, nL, G, w0⟩ := C
  intro H locs ls ho hl
  exact lv_if_eq hC.1 hC.2.1 hd ht (fun h => kt (by rw [if_pos h] at hf; exact hf) H locs ls ho hl) (fun h => kf (by rw [if_neg h] at hf; exact hf) H locs ls ho hl)
theorem v_icmp_eq {C : xC} {cc : ByteArray} {nL : Nat} {own : String} {Ts : List Cond} {w : cW} {k n pc : Nat} {lv : List (Nat × Value)} {st : List Value} {x y : Int32} {off : Int} {tgt : Nat} {β : Type} {A B : Option β} {r : β} (hC : okC C cc nL own Ts) (hd : decode cc pc = .ok (.if_icmp .eq off, 3)) (ht : (pc : Int) + off = (tgt : Int)) (hf : (if x = y then A else B) = some r) (kt : A = some r → V C w k n tgt lv (st)) (kf : B = some r → V C w k n (pc + 3) lv (st)) : V C w k n pc lv (.int y :: .int x :: st) := by
  obtain ⟨p, l, e, R, s, m, args, below, meth, c, Q, nL, G, w0⟩ := C
  intro H locs ls ho hl
  exact lv_icmp_eq hC.1 hC.2.1 hd ht (fun h => kt (by rw [if_pos h] at hf; exact hf) H locs ls ho hl) (fun h => kf (by rw [if_neg h] at hf; exact hf) H locs ls ho hl)
theorem v_if_lt {C : xC} {cc : ByteArray} {nL : Nat} {own : String} {Ts : List Cond} {w : cW} {k n pc : Nat} {lv : List (Nat × Value)} {st : List Value} {x : Int32} {off : Int} {tgt : Nat} {β : Type} {A B : Option β} {r : β} (hC : okC C cc nL own Ts) (hd : decode cc pc = .ok (.ifCond .lt off, 3)) (ht : (pc : Int) + off = (tgt : Int)) (hf : (if x < 0 then A else B) = some r) (kt : A = some r → V C w k n tgt lv (st)) (kf : B = some r → V C w k n (pc + 3) lv (st)) : V C w k n pc lv (.int x :: st) := by
  obtain ⟨p, l, e, R, s, m, args, below, meth, c, Q, nL, G, w0⟩ := C
  intro H locs ls ho hl
  exact lv_if_lt hC.1 hC.2.1 hd ht (fun h => kt (by rw [if_pos h] at hf; exact hf) H locs ls ho hl) (fun h => kf (by rw [if_neg h] at hf; exact hf) H locs ls ho hl)
theorem v_icmp_lt {C : xC} {cc : ByteArray} {nL : Nat} {own : String} {Ts : List Cond} {w : cW} {k n pc : Nat} {lv : List (Nat × Value)} {st : List Value} {x y : Int32} {off : Int} {tgt : Nat} {β : Type} {A B : Option β} {r : β} (hC : okC C cc nL own Ts) (hd : decode cc pc = .ok (.if_icmp .lt off, 3)) (ht : (pc : Int) + off = (tgt : Int)) (hf : (if x < y then A else B) = some r) (kt : A = some r → V C w k n tgt lv (st)) (kf : B = some r → V C w k n (pc + 3) lv (st)) : V C w k n pc lv (.int y :: .int x :: st) := by
  obtain ⟨p, l, e, R, s, m, args, below, meth, c, Q, nL, G, w0⟩ := C
  intro H locs ls ho hl
  exact lv_icmp_lt hC.1 hC.2.1 hd ht (fun h => kt (by rw [if_pos h] at hf; exact hf) H locs ls ho hl) (fun h => kf (by rw [if_neg h] at hf; exact hf) H locs ls ho hl)
theorem v_if_ge {C : xC} {cc : ByteArray} {nL : Nat} {own : String} {Ts : List Cond} {w : cW} {k n pc : Nat} {lv : List (Nat × Value)} {st : List Value} {x : Int32} {off : Int} {tgt : Nat} {β : Type} {A B : Option β} {r : β} (hC : okC C cc nL own Ts) (hd : decode cc pc = .ok (.ifCond .ge off, 3)) (ht : (pc : Int) + off = (tgt : Int)) (hf : (if 0 ≤ x then A else B) = some r) (kt : A = some r → V C w k n tgt lv (st)) (kf : B = some r → V C w k n (pc + 3) lv (st)) : V C w k n pc lv (.int x :: st) := by
  obtain ⟨p, l, e, R, s, m, args, below, meth, c, Q, nL, G, w0⟩ := C
  intro H locs ls ho hl
  exact lv_if_ge hC.1 hC.2.1 hd ht (fun h => kt (by rw [if_pos h] at hf; exact hf) H locs ls ho hl) (fun h => kf (by rw [if_neg h] at hf; exact hf) H locs ls ho hl)
theorem v_icmp_ge {C : xC} {cc : ByteArray} {nL : Nat} {own : String} {Ts : List Cond} {w : cW} {k n pc : Nat} {lv : List (Nat × Value)} {st : List Value} {x y : Int32} {off : Int} {tgt : Nat} {β : Type} {A B : Option β} {r : β} (hC : okC C cc nL own Ts) (hd : decode cc pc = .ok (.if_icmp .ge off, 3)) (ht : (pc : Int) + off = (tgt : Int)) (hf : (if y ≤ x then A else B) = some r) (kt : A = some r → V C w k n tgt lv (st)) (kf : B = some r → V C w k n (pc + 3) lv (st)) : V C w k n pc lv (.int y :: .int x :: st) := by
  obtain ⟨p, l, e, R, s, m, args, below, meth, c, Q, nL, G, w0⟩ := C
  intro H locs ls ho hl
  exact lv_icmp_ge hC.1 hC.2.1 hd ht (fun h => kt (by rw [if_pos h] at hf; exact hf) H locs ls ho hl) (fun h => kf (by rw [if_neg h] at hf; exact hf) H locs ls ho hl)
theorem v_if_gt {C : xC} {cc : ByteArray} {nL : Nat} {own : String} {Ts : List Cond} {w : cW} {k n pc : Nat} {lv : List (Nat × Value)} {st : List Value} {x : Int32} {off : Int} {tgt : Nat} {β : Type} {A B : Option β} {r : β} (hC : okC C cc nL own Ts) (hd : decode cc pc = .ok (.ifCond .gt off, 3)) (ht : (pc : Int) + off = (tgt : Int)) (hf : (if 0 < x then A else B) = some r) (kt : A = some r → V C w k n tgt lv (st)) (kf : B = some r → V C w k n (pc + 3) lv (st)) : V C w k n pc lv (.int x :: st) := by
  obtain ⟨p, l, e, R, s, m, args, below, meth, c, Q, nL, G, w0⟩ := C
  intro H locs ls ho hl
  exact lv_if_gt hC.1 hC.2.1 hd ht (fun h => kt (by rw [if_pos h] at hf; exact hf) H locs ls ho hl) (fun h => kf (by rw [if_neg h] at hf; exact hf) H locs ls ho hl)
theorem v_icmp_gt {C : xC} {cc : ByteArray} {nL : Nat} {own : String} {Ts : List Cond} {w : cW} {k n pc : Nat} {lv : List (Nat × Value)} {st : List Value} {x y : Int32} {off : Int} {tgt : Nat} {β : Type} {A B : Option β} {r : β} (hC : okC C cc nL own Ts) (hd : decode cc pc = .ok (.if_icmp .gt off, 3)) (ht : (pc : Int) + off = (tgt : Int)) (hf : (if y < x then A else B) = some r) (kt : A = some r → V C w k n tgt lv (st)) (kf : B = some r → V C w k n (pc + 3) lv (st)) : V C w k n pc lv (.int y :: .int x :: st) := by
  obtain ⟨p, l, e, R, s, m, args, below, meth, c, Q, nL, G, w0⟩ := C
  intro H locs ls ho hl
  exact lv_icmp_gt hC.1 hC.2.1 hd ht (fun h => kt (by rw [if_pos h] at hf; exact hf) H locs ls ho hl) (fun h => kf (by rw [if_neg h] at hf; exact hf) H locs ls ho hl)
theorem v_if_le {C : xC} {cc : ByteArray} {nL : Nat} {own : String} {Ts : List Cond} {w : cW} {k n pc : Nat} {lv : List (Nat × Value)} {st : List Value} {x : Int32} {off : Int} {tgt : Nat} {β : Type} {A B : Option β} {r : β} (hC : okC C cc nL own Ts) (hd : decode cc pc = .ok (.ifCond .le off, 3)) (ht : (pc : Int) + off = (tgt : Int)) (hf : (if x ≤ 0 then A else B) = some r) (kt : A = some r → V C w k n tgt lv (st)) (kf : B = some r → V C w k n (pc + 3) lv (st)) : V C w k n pc lv (.int x :: st) := by
  obtain ⟨p, l, e, R, s, m, args, below, meth, c, Q, nL, G, w0⟩ := C
  intro H locs ls ho hl
  exact lv_if_le hC.1 hC.2.1 hd ht (fun h => kt (by rw [if_pos h] at hf; exact hf) H locs ls ho hl) (fun h => kf (by rw [if_neg h] at hf; exact hf) H locs ls ho hl)
theorem v_icmp_le {C : xC} {cc : ByteArray} {nL : Nat} {own : String} {Ts : List Cond} {w : cW} {k n pc : Nat} {lv : List (Nat × Value)} {st : List Value} {x y : Int32} {off : Int} {tgt : Nat} {β : Type} {A B : Option β} {r : β} (hC : okC C cc nL own Ts) (hd : decode cc pc = .ok (.if_icmp .le off, 3)) (ht : (pc : Int) + off = (tgt : Int)) (hf : (if x ≤ y then A else B) = some r) (kt : A = some r → V C w k n tgt lv (st)) (kf : B = some r → V C w k n (pc + 3) lv (st)) : V C w k n pc lv (.int y :: .int x :: st) := by
  obtain ⟨p, l, e, R, s, m, args, below, meth, c, Q, nL, G, w0⟩ := C
  intro H locs ls ho hl
  exact lv_icmp_le hC.1 hC.2.1 hd ht (fun h => kt (by rw [if_pos h] at hf; exact hf) H locs ls ho hl) (fun h => kf (by rw [if_neg h] at hf; exact hf) H locs ls ho hl)
theorem v_if_ne {C : xC} {cc : ByteArray} {nL : Nat} {own : String} {Ts : List Cond} {w : cW} {k n pc : Nat} {lv : List (Nat × Value)} {st : List Value} {x : Int32} {off : Int} {tgt : Nat} {β : Type} {A B : Option β} {r : β} (hC : okC C cc nL own Ts) (hd : decode cc pc = .ok (.ifCond .ne off, 3)) (ht : (pc : Int) + off = (tgt : Int)) (hf : (if x = 0 then A else B) = some r) (kt : B = some r → V C w k n tgt lv (st)) (kf : A = some r → V C w k n (pc + 3) lv (st)) : V C w k n pc lv (.int x :: st) := by
  obtain ⟨p, l, e, R, s, m, args, below, meth, c, Q, nL, G, w0⟩ := C
  intro H locs ls ho hl
  exact lv_if_ne hC.1 hC.2.1 hd ht (fun h => kt (by rw [if_neg h] at hf; exact hf) H locs ls ho hl) (fun h => kf (by (try rw [Decidable.not_not] at h); rw [if_pos h] at hf; exact hf) H locs ls ho hl)
theorem v_icmp_ne {C : xC} {cc : ByteArray} {nL : Nat} {own : String} {Ts : List Cond} {w : cW} {k n pc : Nat} {lv : List (Nat × Value)} {st : List Value} {x y : Int32} {off : Int} {tgt : Nat} {β : Type} {A B : Option β} {r : β} (hC : okC C cc nL own Ts) (hd : decode cc pc = .ok (.if_icmp .ne off, 3)) (ht : (pc : Int) + off = (tgt : Int)) (hf : (if x = y then A else B) = some r) (kt : B = some r → V C w k n tgt lv (st)) (kf : A = some r → V C w k n (pc + 3) lv (st)) : V C w k n pc lv (.int y :: .int x :: st) := by
  obtain ⟨p, l, e, R, s, m, args, below, meth, c, Q, nL, G, w0⟩ := C
  intro H locs ls ho hl
  exact lv_icmp_ne hC.1 hC.2.1 hd ht (fun h => kt (by rw [if_neg h] at hf; exact hf) H locs ls ho hl) (fun h => kf (by (try rw [Decidable.not_not] at h); rw [if_pos h] at hf; exact hf) H locs ls ho hl)
theorem v_acmp_eq {C : xC} {cc : ByteArray} {nL : Nat} {own : String} {Ts : List Cond} {w : cW} {k n pc : Nat} {lv : List (Nat × Value)} {st : List Value} {rx ry : Option Nat} {off : Int} {tgt : Nat} {β : Type} {A B : Option β} {r : β} (hC : okC C cc nL own Ts) (hd : decode cc pc = .ok (.if_acmp .eq off, 3)) (ht : (pc : Int) + off = (tgt : Int)) (hf : (if rx = ry then A else B) = some r) (kt : A = some r → V C w k n tgt lv (st)) (kf : B = some r → V C w k n (pc + 3) lv (st)) : V C w k n pc lv (va_rf ry :: va_rf rx :: st) := by
  obtain ⟨p, l, e, R, s, m, args, below, meth, c, Q, nL, G, w0⟩ := C
  intro H locs ls ho hl
  exact lv_acmp_eq hC.1 hC.2.1 hd ht (fun h => kt (by rw [if_pos h] at hf; exact hf) H locs ls ho hl) (fun h => kf (by rw [if_neg h] at hf; exact hf) H locs ls ho hl)
theorem v_acmp_ne {C : xC} {cc : ByteArray} {nL : Nat} {own : String} {Ts : List Cond} {w : cW} {k n pc : Nat} {lv : List (Nat × Value)} {st : List Value} {rx ry : Option Nat} {off : Int} {tgt : Nat} {β : Type} {A B : Option β} {r : β} (hC : okC C cc nL own Ts) (hd : decode cc pc = .ok (.if_acmp .ne off, 3)) (ht : (pc : Int) + off = (tgt : Int)) (hf : (if rx = ry then A else B) = some r) (kt : B = some r → V C w k n tgt lv (st)) (kf : A = some r → V C w k n (pc + 3) lv (st)) : V C w k n pc lv (va_rf ry :: va_rf rx :: st) := by
  obtain ⟨p, l, e, R, s, m, args, below, meth, c, Q, nL, G, w0⟩ := C
  intro H locs ls ho hl
  exact lv_acmp_ne hC.1 hC.2.1 hd ht (fun h => kt (by rw [if_neg h] at hf; exact hf) H locs ls ho hl) (fun h => kf (by rw [if_pos h] at hf; exact hf) H locs ls ho hl)
theorem v_ifnull {C : xC} {cc : ByteArray} {nL : Nat} {own : String} {Ts : List Cond} {w : cW} {k n pc : Nat} {lv : List (Nat × Value)} {st : List Value} {rx : Option Nat} {off : Int} {tgt : Nat} {β : Type} {A B : Option β} {r : β} (hC : okC C cc nL own Ts) (hd : decode cc pc = .ok (.ifnull off, 3)) (ht : (pc : Int) + off = (tgt : Int)) (hf : (if rx = none then A else B) = some r) (kt : A = some r → V C w k n tgt lv (st)) (kf : B = some r → V C w k n (pc + 3) lv (st)) : V C w k n pc lv (va_rf rx :: st) := by
  obtain ⟨p, l, e, R, s, m, args, below, meth, c, Q, nL, G, w0⟩ := C
  intro H locs ls ho hl
  cases rx with
  | none => exact lv_ifnullN hC.1 hC.2.1 hd ht (kt (by rw [if_pos rfl] at hf; exact hf) H locs ls ho hl)
  | some x => exact lv_ifnull hC.1 hC.2.1 hd (kf (by rw [if_neg (by simp)] at hf; exact hf) H locs ls ho hl)
theorem v_ifnonnull {C : xC} {cc : ByteArray} {nL : Nat} {own : String} {Ts : List Cond} {w : cW} {k n pc : Nat} {lv : List (Nat × Value)} {st : List Value} {rx : Option Nat} {off : Int} {tgt : Nat} {β : Type} {A B : Option β} {r : β} (hC : okC C cc nL own Ts) (hd : decode cc pc = .ok (.ifnonnull off, 3)) (ht : (pc : Int) + off = (tgt : Int)) (hf : (if rx = none then A else B) = some r) (kt : B = some r → V C w k n tgt lv (st)) (kf : A = some r → V C w k n (pc + 3) lv (st)) : V C w k n pc lv (va_rf rx :: st) := by
  obtain ⟨p, l, e, R, s, m, args, below, meth, c, Q, nL, G, w0⟩ := C
  intro H locs ls ho hl
  cases rx with
  | none => exact lv_ifnonnullN hC.1 hC.2.1 hd (kf (by rw [if_pos rfl] at hf; exact hf) H locs ls ho hl)
  | some x => exact lv_ifnonnull hC.1 hC.2.1 hd ht (kt (by rw [if_neg (by simp)] at hf; exact hf) H locs ls ho hl)
theorem v_goto {C : xC} {cc : ByteArray} {nL : Nat} {own : String} {Ts : List Cond} {w : cW} {k n pc : Nat} {lv : List (Nat × Value)} {st : List Value} {off : Int} {tgt : Nat} (hC : okC C cc nL own Ts) (hd : decode cc pc = .ok (.goto off, 3)) (ht : (pc : Int) + off = (tgt : Int)) (kk : V C w k n tgt lv (st)) : V C w k n pc lv (st) := by
  obtain ⟨p, l, e, R, s, m, args, below, meth, c, Q, nL, G, w0⟩ := C
  intro H locs ls ho hl
  exact lv_goto hC.1 hC.2.1 hd ht (kk H locs ls ho hl)
theorem v_tabIn {C : xC} {cc : ByteArray} {nL : Nat} {own : String} {Ts : List Cond} {w : cW} {k n pc : Nat} {lv : List (Nat × Value)} {st : List Value} {x : Int32} {dflt lo hi off : Int} {offs : Array Int} {len tgt : Nat} (hC : okC C cc nL own Ts) (hd : decode cc pc = .ok (.tableswitch dflt lo hi offs, len)) (h1 : ¬ x.toInt < lo) (h2 : ¬ hi < x.toInt) (hof : offs[(x.toInt - lo).toNat]? = some off) (ht : (pc : Int) + off = (tgt : Int)) (kk : V C w k n tgt lv (st)) : V C w k n pc lv (.int x :: st) := by
  obtain ⟨p, l, e, R, s, m, args, below, meth, c, Q, nL, G, w0⟩ := C
  intro H locs ls ho hl
  exact lv_tableIn hC.1 hC.2.1 hd h1 h2 hof ht (kk H locs ls ho hl)
theorem v_tabOut {C : xC} {cc : ByteArray} {nL : Nat} {own : String} {Ts : List Cond} {w : cW} {k n pc : Nat} {lv : List (Nat × Value)} {st : List Value} {x : Int32} {dflt lo hi : Int} {offs : Array Int} {len tgt : Nat} (hC : okC C cc nL own Ts) (hd : decode cc pc = .ok (.tableswitch dflt lo hi offs, len)) (h1 : x.toInt < lo ∨ hi < x.toInt) (ht : (pc : Int) + dflt = (tgt : Int)) (kk : V C w k n tgt lv (st)) : V C w k n pc lv (.int x :: st) := by
  obtain ⟨p, l, e, R, s, m, args, below, meth, c, Q, nL, G, w0⟩ := C
  intro H locs ls ho hl
  exact lv_tableOut hC.1 hC.2.1 hd h1 ht (kk H locs ls ho hl)
