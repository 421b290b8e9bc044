/-! THE LAYER V: a method's entry, its returns, its calls -/
def mP (G : cG) (w : cW) (av : List Value) : Array Value → State → Prop := fun v U => v = av.toArray ∧ okw G w U
def mQ {α : Type} (mk : α → Option Value) (G : cG) (w w' : cW) (r : α) : Array Value → State → Outcome → State → Prop := fun _ st oc t => oc = .returned (mk r) ∧ okw G w' t ∧ (∀ (a : Nat) (e : cE), w'.1 a = some e → wrE e = true → Aw w a) ∧ w.2.1 ≤ w'.2.1 ∧ w'.2.2 = w.2.2 ∧ va_F (Aw w) st t
def mkI (x : Int32) : Option Value := some (.int x)
def mkL (x : Int64) : Option Value := some (.long x)
def mkR (x : Option Nat) : Option Value := some (va_rf x)
def mkV (_ : Unit) : Option Value := none
theorem okw.moved {G : cG} {w : cW} {u U : State} (hvm : u.vm.Alike U.vm) (hX : cX U) (hh : U.heap = u.heap) (h : okw G w u) : okw G w U := by
  obtain ⟨h1, h2, h3, h4, h5, h6⟩ := h
  exact ⟨h1.moved hvm hX, ⟨by rw [hh]; exact h2.1.moved hvm, h2.2.moved hvm⟩, by rw [hh]; exact h3, by rw [hh]; exact h4.moved hvm, h5, h6⟩
theorem mP_blind (G : cG) (w : cW) (av : List Value) : FrameBlind (mP G w av) := fun a U g mk h => ⟨h.1, h.2.moved (Vm.Alike.refl U.vm) (cX.same (u := U) rfl h.2.1.2.2) rfl⟩
theorem Aw_base {G : cG} {w : cW} {s : State} (h : okw G w s) {q : Nat} (hq : Aw w q) : G.1 ≤ q := by
  rcases hq with ⟨e, h1, h2⟩ | hq
  · exact h.2.2.2.2.2 q e h1 h2
  · exact Nat.le_trans h.2.2.2.2.1 hq
theorem Aw_mono {G : cG} {s : State} {w0 w : cW} {H : Heap} {locs : List Loc} (h0 : okw G w0 s) (h : okc G s w0 w H locs) {q : Nat} (hq : Aw w q) : Aw w0 q := by
  rcases hq with ⟨e, h1, h2⟩ | hq
  · exact (h.2.2.1 q e h1 h2).2
  · refine Or.inr (Nat.le_trans ?_ hq)
    rw [← h0.2.2.1, ← h.1]
    exact h.2.2.2.1.1
/-- what a world is when the method ends -/
theorem okc_end {α : Type} {mk : α → Option Value} {G : cG} {s t : State} {w0 w : cW} {H : Heap} {locs : List Loc} {a : Array Value} {r : α} {o : Option Value} (h0 : okw G w0 s) (h : okc G s w0 w H locs) (ht : t.heap = H) (hW : s.WarmedH t.vm) (ho : o = mk r) : mQ mk G w0 w r a s (.returned o) t := by
  obtain ⟨h1, h2, h3, h4, h5⟩ := h
  have hal := hW.alike
  refine ⟨by rw [ho], ⟨h0.1.moved hal (h0.1.2.2.warm hW), ⟨?_, ?_⟩, by rw [ht]; exact h1, by rw [ht]; exact h2.moved hal, ?_, fun b e hb he => (h3 b e hb he).1⟩, fun b e hb he => (h3 b e hb he).2, ?_, h5, h4.F ht⟩
  · rw [ht, h5]
    exact (h0.2.1.1.moved hal).kept (fun q g1 g2 => h4.2.1 q g1 (fun z => g2 (Aw_base h0 z)))
  · rw [h5]
    exact h0.2.1.2.moved hal
  · rw [← h1]
    exact Nat.le_trans h0.2.2.2.2.1 (by rw [← h0.2.2.1]; exact h4.1)
  · rw [← h1, ← h0.2.2.1]
    exact h4.1
def xE {α : Type} (C : xC) (ret : Option FieldType) (mk : α → Option Value) (G : cG) (w0 w' : cW) (r : α) : Prop := match C with
  | (_, _, _, R, s, _, args, below, meth, _, Q, _, G', w0') => meth.sig.returnType = ret ∧ G' = G ∧ w0' = w0 ∧ Q = MQ below (mQ mk G w0 w' r) args s R.cells R.slots (Aw w0)
def xl (C : xC) : Launch := C.2.1
def xs (C : xC) : State := C.2.2.2.2.1
def xg (C : xC) : cG := C.2.2.2.2.2.2.2.2.2.2.2.2.1
def xmeth (C : xC) : Method := C.2.2.2.2.2.2.2.2.1
def xargs (C : xC) : Array Value := C.2.2.2.2.2.2.1
/-- a method's contract out of its walk -/
theorem met_of {α : Type} {mk : α → Option Value} {l : Launch} {y : MethodName} {ws ws' : List Cond} {rm : Room} {cc : ByteArray} {nL : Nat} {ret : Option FieldType} {G : cG} {w0 w' : cW} {r : α} {av : List Value} (hy : plainFor y = true) (hw : ws = Cond.code y cc nL ret :: ws') (hlen : (lg_sl av).length ≤ nL)
    (body : ∀ C : xC, okC C cc nL y.cls ws → xR C = rm → xl C = l → xg C = G → (xmeth C).name = y.name → (∀ x ∈ ws, x.before (xargs C) (xs C) = true) → xE C ret mk G w0 w' r → V C w0 0 0 0 (lv_args 0 av) []) : Met l y ws rm (mP G w0 av) (mQ mk G w0 w' r) rm.cells rm.slots (Aw w0) := by
  refine va_MetF (cc := cc) (maxL := nL) (ret := ret) hy hw ?_
  intro p e s m args below meth c s₁ B hml hv
  obtain ⟨rfl, hok⟩ := hv
  have hts := atoms_spec (ws := ws) B.pre
  have hown : s.vm.findClass y.cls = some m.cls := findClass_of_methodNamed B.named
  rw [lg_entry_eq]
  have hl := lv_entry av (n := nL) hlen
  exact body (p, l, e, (headSpec ws rm).room, s, m, av.toArray, below, meth, c, MQ below (mQ mk G w0 w' r) av.toArray s rm.cells rm.slots (Aw w0), nL, G, w0)
    ⟨B.exec, B.bytes, hml, rfl, hown, hts, hok, B.notSynchronized⟩ rfl rfl rfl (name_of_methodNamed B.named B.method).1 hts ⟨B.returns, rfl, rfl, rfl⟩ s.heap [] _ ⟨hok.2.2.1, hok.2.2.2.1, fun a e ha he => ⟨hok.2.2.2.2.2 a e ha he, Or.inl ⟨e, ha, he⟩⟩, va_S.rf, rfl⟩ hl
theorem va_cat (r : Option Nat) : (va_rf r).category = 1 := by cases r <;> rfl
section VCALL
variable {C : xC} {cc : ByteArray} {nL : Nat} {own : String} {Ts : List Cond} {w : cW} {k n pc : Nat} {lv : List (Nat × Value)} {st : List Value} {β : Type} {z : β}
theorem v_iret {G : cG} {w0 w' : cW} {x r : Int32} (hC : okC C cc nL own Ts) (hE : xE C (some .int) mkI G w0 w' r) (hd : decode cc pc = .ok (.ireturn, 1)) (hk : k ≤ (xR C).cells) (hn : n ≤ (xR C).slots) (hf : some (x, w) = some (r, w')) : V C w k n pc lv [.int x] := by
  obtain ⟨p, l, e, R, s, m, args, below, meth, c, Q, nL, G', w0'⟩ := C
  obtain ⟨h1, rfl, rfl, rfl⟩ := hE
  cases hf
  intro H locs ls hok hl
  have hlk := hC.2.2.2.2.2.2.2
  exact W.widen hk hn (W.iret hC.1 hC.2.1 h1 (fun t ht hW => okc_end hC.2.2.2.2.2.2.1 hok ht hW rfl) hok.2.2.2.1.2.2 hd hlk)
theorem v_zret {G : cG} {w0 w' : cW} {x r : Int32} (hC : okC C cc nL own Ts) (hE : xE C (some .boolean) mkI G w0 w' r) (hd : decode cc pc = .ok (.ireturn, 1)) (hk : k ≤ (xR C).cells) (hn : n ≤ (xR C).slots) (hf : (if x = 0 ∨ x = 1 then some (x, w) else none) = some (r, w')) : V C w k n pc lv [.int x] := by
  obtain ⟨p, l, e, R, s, m, args, below, meth, c, Q, nL, G', w0'⟩ := C
  obtain ⟨h1, rfl, rfl, rfl⟩ := hE
  by_cases hx : x = 0 ∨ x = 1
  · rw [if_pos hx] at hf
    cases hf
    intro H locs ls hok hl
    have hlk := hC.2.2.2.2.2.2.2
    exact W.widen hk hn (W.zret hC.1 hC.2.1 h1 (by rcases hx with rfl | rfl <;> rfl) (fun t ht hW => okc_end hC.2.2.2.2.2.2.1 hok ht hW rfl) hok.2.2.2.1.2.2 hd hlk)
  · rw [if_neg hx] at hf
    cases hf
theorem v_lret {G : cG} {w0 w' : cW} {x r : Int64} (hC : okC C cc nL own Ts) (hE : xE C (some .long) mkL G w0 w' r) (hd : decode cc pc = .ok (.lreturn, 1)) (hk : k ≤ (xR C).cells) (hn : n ≤ (xR C).slots) (hf : some (x, w) = some (r, w')) : V C w k n pc lv [.long x] := by
  obtain ⟨p, l, e, R, s, m, args, below, meth, c, Q, nL, G', w0'⟩ := C
  obtain ⟨h1, rfl, rfl, rfl⟩ := hE
  cases hf
  intro H locs ls hok hl
  have hlk := hC.2.2.2.2.2.2.2
  exact W.widen hk hn (W.lret hC.1 hC.2.1 h1 (fun t ht hW => okc_end hC.2.2.2.2.2.2.1 hok ht hW rfl) hok.2.2.2.1.2.2 hd hlk)
theorem v_aret {G : cG} {w0 w' : cW} {x r : Option Nat} {rt : FieldType} (hC : okC C cc nL own Ts) (hE : xE C (some rt) mkR G w0 w' r) (hrt : (∃ n, rt = .object n) ∨ ∃ t, rt = .array t) (hd : decode cc pc = .ok (.areturn, 1)) (hk : k ≤ (xR C).cells) (hn : n ≤ (xR C).slots) (hf : some (x, w) = some (r, w')) : V C w k n pc lv [va_rf x] := by
  obtain ⟨p, l, e, R, s, m, args, below, meth, c, Q, nL, G', w0'⟩ := C
  obtain ⟨h1, rfl, rfl, rfl⟩ := hE
  cases hf
  intro H locs ls hok hl
  have hlk := hC.2.2.2.2.2.2.2
  exact W.widen hk hn (W.aret hC.1 hC.2.1 h1 hrt (by cases x with | none => exact Or.inl rfl | some a => exact Or.inr ⟨a, rfl⟩) (fun t ht hW => okc_end hC.2.2.2.2.2.2.1 hok ht hW rfl) hok.2.2.2.1.2.2 hd hlk)
theorem v_vret {G : cG} {w0 w' : cW} {r : Unit} (hC : okC C cc nL own Ts) (hE : xE C none mkV G w0 w' r) (hd : decode cc pc = .ok (.return_, 1)) (hk : k ≤ (xR C).cells) (hn : n ≤ (xR C).slots) (hf : some ((), w) = some (r, w')) : V C w k n pc lv [] := by
  obtain ⟨p, l, e, R, s, m, args, below, meth, c, Q, nL, G', w0'⟩ := C
  obtain ⟨h1, rfl, rfl, rfl⟩ := hE
  cases hf
  intro H locs ls hok hl
  have hlk := hC.2.2.2.2.2.2.2
  exact W.widen hk hn (W.vret hC.1 hC.2.1 h1 (fun t ht hW => okc_end hC.2.2.2.2.2.2.1 hok ht hW rfl) hok.2.2.2.1.2.2 hd hlk)
/-- behind a call: the callee's world is the caller's now -/
theorem okc_back {α : Type} {mk : α → Option Value} {G : cG} {s st₀ t T' : State} {w0 w w' : cW} {H : Heap} {locs L : List Loc} {a : Array Value} {r : α} {o : Outcome} (h0 : okw G w0 s) (h : okc G s w0 w H locs) (hst : st₀.heap = H) (hq : mQ mk G w w' r a st₀ o t) (e1 : T'.heap = t.heap) (e2 : T'.vm = t.vm) (hW : s.vm.Alike T'.vm) (hL : ∀ q ∈ L, Aw w q.base) : okc G s w0 w' T'.heap (locs ++ L) := by
  obtain ⟨-, g1, g2, g3, g4, g5⟩ := hq
  have hS := h.2.2.2.1
  have hal : t.vm.Alike s.vm := by rw [← e2]; exact hW.symm
  have hz : H.size ≤ T'.heap.size := by rw [e1, ← hst]; exact g5.1
  refine ⟨by rw [e1]; exact g1.2.2.1, by rw [e1]; exact g1.2.2.2.1.moved hal, fun b e hb he => ⟨g1.2.2.2.2.2 b e hb he, Aw_mono h0 h (g2 b e hb he)⟩, ⟨Nat.le_trans hS.1 hz, fun q q1 q2 => ?_, fun q hq => ?_⟩, by rw [g4]; exact h.2.2.2.2⟩
  · rw [e1, g5.2 q (by rw [hst]; exact Nat.lt_of_lt_of_le q1 hS.1) (fun c => q2 (Aw_mono h0 h c)), hst]
    exact hS.2.1 q q1 q2
  · rcases List.mem_append.mp hq with c | c
    · exact hS.2.2 q c
    · exact Aw_mono h0 h (hL q c)
theorem v_run {α : Type} {mk : α → Option Value} {w' : cW} {r : α} {mc ms : Nat} {rest st0 : List Value} {a : Array Value} (hC : okC C cc nL own Ts)
    (hr : match C with | (p, l, e, R, s, m, args, below, meth, c, _, nL, G, w0) => ∀ (H : Heap) (locs : List Loc) (ls : Array Slot), okc G s w0 w H locs → lv_has ls nL lv → va_Run p l e R s m args below meth c H locs k n mc ms (F0 m pc ls st0) rest (mQ mk G w w' r a) (Aw w))
    (kk : V C w' (k + mc) (n + ms) (pc + 3) lv ((mk r).toList ++ rest)) : V C w k n pc lv st0 := by
  obtain ⟨p, l, e, R, s, m, args, below, meth, c, Q, nL, G, w0⟩ := C
  intro H locs ls hok hl T hT X
  obtain ⟨v, st₀, t, T', L, h0, X', hL, e1, e2, hq, st⟩ := hr H locs ls hok hl T hT X
  have hv : v = mk r := by have := hq.1; cases this; rfl
  subst hv
  obtain ⟨t2, a1, b1⟩ := kk T'.heap (locs ++ L) ls (okc_back hC.2.2.2.2.2.2.1 hok h0 hq e1 e2 X'.warmed.alike hL) hl T' rfl X'
  exact ⟨t2, st t2 a1, b1⟩
def cRcv (w : cW) (r : Option Nat) (ci : Nat) : Option Nat := r.bind fun a => (cObj w (some a) ci).bind fun _ => some a
theorem cRcv_of {w : cW} {r : Option Nat} {ci b : Nat} (h : cRcv w r ci = some b) : r = some b ∧ ∃ fs, w.1 b = some (.inr (ci, fs)) := by
  obtain ⟨a, rfl, h1⟩ := ob h
  obtain ⟨fs, ho, h⟩ := ob h1
  cases h
  obtain ⟨a', ha', ha⟩ := cObj_of ho
  cases ha'
  exact ⟨rfl, fs, ha⟩
theorem okC.fix {p : Program} {l : Launch} {e : Env} {R : Room} {s : State} {m : MethodId} {args : Array Value} {below : List Frame} {meth : Method} {c : Code} {Q : State → Prop} {nL' : Nat} {G : cG} {w0 : cW} (hC : okC (p, l, e, R, s, m, args, below, meth, c, Q, nL', G, w0) cc nL own Ts) : CallFix p m c cc nL' s args Ts own := ⟨hC.1, hC.2.1, hC.2.2.1, hC.2.2.2.2.1, hC.2.2.2.2.2.1⟩
theorem okw_call {G : cG} {s U : State} {w0 w : cW} {H : Heap} {locs : List Loc} (h0 : okw G w0 s) (h : okc G s w0 w H locs) (hU : U.heap = H) (hW : s.WarmedH U.vm) : okw G w U := (okc_end (mk := mkV) (r := ()) (a := #[]) h0 h hU hW rfl).2.1
/-- the words of every method: its code, then the tables' good words -/
def lw_gd : List Cond := lw_tbl.filter goodWord
def wsM (y : MethodName) (cc : ByteArray) (nL : Nat) (ret : Option FieldType) : List Cond := Cond.code y cc nL ret :: lw_gd
theorem tin {w : Cond} (i : Nat) (h : lw_tbl[i]? = some w) (hg : goodWord w = true := by rfl) : w ∈ lw_gd := List.mem_filter.mpr ⟨List.mem_of_getElem? h, hg⟩
theorem gd_good {w : Cond} (h : w ∈ lw_gd) : (w.onTables && w.keeps) = true ∨ ∃ ty, w = .arrayClass ty := good_of_word (List.mem_filter.mp h).2
theorem wsM_in {y : MethodName} {cc : ByteArray} {nL : Nat} {ret : Option FieldType} (hc : Cond.code y cc nL ret ∈ lw_gd) : GoodIn lw_gd (wsM y cc nL ret) := by
  intro w hw
  rcases List.mem_cons.mp hw with rfl | h
  · exact ⟨hc, gd_good hc⟩
  · exact ⟨h, gd_good h⟩
theorem okC.tbl {y : MethodName} {cc' : ByteArray} {nL' : Nat} {ret : Option FieldType} (hC : okC C cc nL own (wsM y cc' nL' ret)) : okC C cc nL own lw_gd := by
  obtain ⟨p, l, e, R, s, m, args, below, meth, c, Q, nL, G, w0⟩ := C
  obtain ⟨h1, h2, h3, h4, h5, h6, h7⟩ := hC
  exact ⟨h1, h2, h3, h4, h5, fun w hw => h6 w (List.mem_cons_of_mem _ hw), h7⟩
abbrev yOk (y : MethodName) (n : Nat) : Prop := y.cls ≠ "java/lang/invoke/MethodHandle" ∧ y.cls ≠ "java/lang/invoke/VarHandle" ∧ (parseMethodDescriptor y.desc).map (fun d => d.parameters.length) = some n
/-- a call of an instance method of the object's own class, by invokevirtual -/
theorem v_callV {α : Type} {mk : α → Option Value} {y : MethodName} {rm : Room} {bytes : ByteArray} {maxL index ci N k' n' : Nat} {ret : Option FieldType} {CN : String} {T : u_T} {As rest : List Value} {r : Option Nat} {f : Nat → Option (α × cW)} {F : α → cW → Option β} (hC : okC C cc nL own lw_gd) (hd : decode cc pc = .ok (.invokevirtual index, 3))
    (hlk : Cond.methodLink own index y ∈ lw_gd) (hin : Cond.instanceMethod y ∈ lw_gd) (hse : Cond.selects CN y y ∈ lw_gd) (hini : Cond.initialized y.cls ∈ lw_gd) (hcd : Cond.code y bytes maxL ret ∈ lw_gd) {nA : Nat} (hy : yOk y nA) (hna : As.length = nA)
    (hc : vwCl[ci]? = some (CN, T, N)) (hM : ∀ b r' w', f b = some (r', w') → Met (xl C) y (wsM y bytes maxL ret) rm (mP (xg C) w (.ref b :: As)) (mQ mk (xg C) w w' r') rm.cells rm.slots (Aw w))
    (hR : rm.frames + 1 ≤ (xR C).frames ∧ 8 + (maxL + 11) + rm.locals ≤ (xR C).locals) (hst : (rest.map fun v => v.category).sum ≤ 8) (hk' : k + rm.cells ≤ k' ∧ n + rm.slots ≤ n') (hkn : k' ≤ (xR C).cells ∧ n' ≤ (xR C).slots)
    (hf : (cRcv w r ci).bind (fun b => cbd (f b) F) = some z) {st0 : List Value} {st1 : α → List Value} (hs0 : st0 = As.reverse ++ va_rf r :: rest) (hs1 : ∀ x, (mk x).toList ++ rest = st1 x) (kk : ∀ r' w', F r' w' = some z → V C w' k' n' (pc + 3) lv (st1 r')) : V C w k n pc lv st0 := by
  subst hs0
  have hy : yOk y As.length := by rw [hna]; exact hy
  obtain ⟨b, hb, hf1⟩ := ob hf
  obtain ⟨r', w', hfb, hf2⟩ := obc hf1
  obtain ⟨rfl, fs, hbw⟩ := cRcv_of hb
  have hK := hC.K
  refine v_run (a := (Value.ref b :: As).toArray) (mc := rm.cells) (ms := rm.slots) hC ?_ (V.widen hk'.1 hk'.2 (by rw [hs1]; exact kk r' w' hf2))
  have hm := hM b r' w' hfb
  obtain ⟨p, l, e, R, s, m, args, below, meth, c, Q, nL, G, w0⟩ := C
  intro H locs ls hok hl
  have hKn := hK.1.1 ci _ hc
  have hts := hC.2.2.2.2.2.1
  exact va_runV hC.fix hm ⟨callB_of As.length hts (wsM_in hcd) rfl rfl rfl (hts _ hini) (hts _ hlk) hy hR, hts _ hin, hts _ hse⟩ ⟨mP_blind _ _ _, va_recv (q0 := 0) hK.1 (va_P1 (q := (b, .inr (ci, fs))) (hok.2.1 b _ hbw)) hc rfl, fun U hU hW => ⟨rfl, okw_call hC.2.2.2.2.2.2.1 hok hU hW⟩⟩ rfl rfl hl.1 rfl (lv_room hst) hd ⟨Nat.le_trans hk'.1 hkn.1, Nat.le_trans hk'.2 hkn.2⟩
/-- the same, of a private method over the nest -/
theorem v_callVN {α : Type} {mk : α → Option Value} {y : MethodName} {rm : Room} {bytes : ByteArray} {maxL index ci N k' n' : Nat} {ret : Option FieldType} {CN host : String} {T : u_T} {As rest : List Value} {r : Option Nat} {f : Nat → Option (α × cW)} {F : α → cW → Option β} (hC : okC C cc nL own lw_gd) (hd : decode cc pc = .ok (.invokevirtual index, 3))
    (hlk : Cond.methodLinkNest own index y host ∈ lw_ex) (hin : Cond.instanceMethod y ∈ lw_gd) (hse : Cond.selects CN y y ∈ lw_gd) (hini : Cond.initialized y.cls ∈ lw_gd) (hcd : Cond.code y bytes maxL ret ∈ lw_gd) {nA : Nat} (hy : yOk y nA) (hna : As.length = nA)
    (hc : vwCl[ci]? = some (CN, T, N)) (hM : ∀ b r' w', f b = some (r', w') → Met (xl C) y (wsM y bytes maxL ret) rm (mP (xg C) w (.ref b :: As)) (mQ mk (xg C) w w' r') rm.cells rm.slots (Aw w))
    (hR : rm.frames + 1 ≤ (xR C).frames ∧ 8 + (maxL + 11) + rm.locals ≤ (xR C).locals) (hst : (rest.map fun v => v.category).sum ≤ 8) (hk' : k + rm.cells ≤ k' ∧ n + rm.slots ≤ n') (hkn : k' ≤ (xR C).cells ∧ n' ≤ (xR C).slots)
    (hf : (cRcv w r ci).bind (fun b => cbd (f b) F) = some z) {st0 : List Value} {st1 : α → List Value} (hs0 : st0 = As.reverse ++ va_rf r :: rest) (hs1 : ∀ x, (mk x).toList ++ rest = st1 x) (kk : ∀ r' w', F r' w' = some z → V C w' k' n' (pc + 3) lv (st1 r')) : V C w k n pc lv st0 := by
  subst hs0
  have hy : yOk y As.length := by rw [hna]; exact hy
  obtain ⟨b, hb, hf1⟩ := ob hf
  obtain ⟨r', w', hfb, hf2⟩ := obc hf1
  obtain ⟨rfl, fs, hbw⟩ := cRcv_of hb
  have hK := hC.K
  refine v_run (a := (Value.ref b :: As).toArray) (mc := rm.cells) (ms := rm.slots) hC ?_ (V.widen hk'.1 hk'.2 (by rw [hs1]; exact kk r' w' hf2))
  have hm := hM b r' w' hfb
  obtain ⟨p, l, e, R, s, m, args, below, meth, c, Q, nL, G, w0⟩ := C
  intro H locs ls hok hl
  have hKn := hK.1.1 ci _ hc
  have hts := hC.2.2.2.2.2.1
  exact va_runVN (host := host) hC.fix hm ⟨va_cnB As.length hts (wsM_in hcd) rfl rfl rfl (hK.2.2 _ hlk) (hts _ hini) hy hR, hts _ hin, hts _ hse⟩ ⟨mP_blind _ _ _, va_recv (q0 := 0) hK.1 (va_P1 (q := (b, .inr (ci, fs))) (hok.2.1 b _ hbw)) hc rfl, fun U hU hW => ⟨rfl, okw_call hC.2.2.2.2.2.2.1 hok hU hW⟩⟩ rfl rfl hl.1 rfl (lv_room hst) hd ⟨Nat.le_trans hk'.1 hkn.1, Nat.le_trans hk'.2 hkn.2⟩
theorem v_callS {α : Type} {mk : α → Option Value} {y : MethodName} {rm : Room} {bytes : ByteArray} {maxL index k' n' : Nat} {ret : Option FieldType} {As rest : List Value} {f : Option (α × cW)} {F : α → cW → Option β} (hC : okC C cc nL own lw_gd) (hd : decode cc pc = .ok (.invokestatic index, 3))
    (hlk : Cond.methodLink own index y ∈ lw_gd) (hin : Cond.static y ∈ lw_gd) (hini : Cond.initialized y.cls ∈ lw_gd) (hcd : Cond.code y bytes maxL ret ∈ lw_gd) {nA : Nat} (hy : yOk y nA) (hna : As.length = nA)
    (hM : ∀ r' w', f = some (r', w') → Met (xl C) y (wsM y bytes maxL ret) rm (mP (xg C) w As) (mQ mk (xg C) w w' r') rm.cells rm.slots (Aw w))
    (hR : rm.frames + 1 ≤ (xR C).frames ∧ 8 + (maxL + 11) + rm.locals ≤ (xR C).locals) (hst : (rest.map fun v => v.category).sum ≤ 8) (hk' : k + rm.cells ≤ k' ∧ n + rm.slots ≤ n') (hkn : k' ≤ (xR C).cells ∧ n' ≤ (xR C).slots)
    (hf : cbd f F = some z) {st0 : List Value} {st1 : α → List Value} (hs0 : st0 = As.reverse ++ rest) (hs1 : ∀ x, (mk x).toList ++ rest = st1 x) (kk : ∀ r' w', F r' w' = some z → V C w' k' n' (pc + 3) lv (st1 r')) : V C w k n pc lv st0 := by
  subst hs0
  have hy : yOk y As.length := by rw [hna]; exact hy
  obtain ⟨r', w', hfb, hf2⟩ := obc hf
  refine v_run (a := As.toArray) (mc := rm.cells) (ms := rm.slots) hC ?_ (V.widen hk'.1 hk'.2 (by rw [hs1]; exact kk r' w' hf2))
  have hm := hM r' w' hfb
  obtain ⟨p, l, e, R, s, m, args, below, meth, c, Q, nL, G, w0⟩ := C
  intro H locs ls hok hl
  have hts := hC.2.2.2.2.2.1
  exact va_runS hC.fix hm ⟨callB_of As.length hts (wsM_in hcd) rfl rfl rfl (hts _ hini) (hts _ hlk) hy hR, hts _ hin⟩ ⟨mP_blind _ _ _, fun U hU hW => ⟨rfl, okw_call hC.2.2.2.2.2.2.1 hok hU hW⟩⟩ rfl rfl hl.1 rfl (lv_room hst) hd ⟨Nat.le_trans hk'.1 hkn.1, Nat.le_trans hk'.2 hkn.2⟩
theorem v_callSN {α : Type} {mk : α → Option Value} {y : MethodName} {rm : Room} {bytes : ByteArray} {maxL index k' n' : Nat} {ret : Option FieldType} {host : String} {As rest : List Value} {f : Option (α × cW)} {F : α → cW → Option β} (hC : okC C cc nL own lw_gd) (hd : decode cc pc = .ok (.invokestatic index, 3))
    (hlk : Cond.methodLinkNest own index y host ∈ lw_ex) (hin : Cond.static y ∈ lw_gd) (hini : Cond.initialized y.cls ∈ lw_gd) (hcd : Cond.code y bytes maxL ret ∈ lw_gd) {nA : Nat} (hy : yOk y nA) (hna : As.length = nA)
    (hM : ∀ r' w', f = some (r', w') → Met (xl C) y (wsM y bytes maxL ret) rm (mP (xg C) w As) (mQ mk (xg C) w w' r') rm.cells rm.slots (Aw w))
    (hR : rm.frames + 1 ≤ (xR C).frames ∧ 8 + (maxL + 11) + rm.locals ≤ (xR C).locals) (hst : (rest.map fun v => v.category).sum ≤ 8) (hk' : k + rm.cells ≤ k' ∧ n + rm.slots ≤ n') (hkn : k' ≤ (xR C).cells ∧ n' ≤ (xR C).slots)
    (hf : cbd f F = some z) {st0 : List Value} {st1 : α → List Value} (hs0 : st0 = As.reverse ++ rest) (hs1 : ∀ x, (mk x).toList ++ rest = st1 x) (kk : ∀ r' w', F r' w' = some z → V C w' k' n' (pc + 3) lv (st1 r')) : V C w k n pc lv st0 := by
  subst hs0
  have hy : yOk y As.length := by rw [hna]; exact hy
  obtain ⟨r', w', hfb, hf2⟩ := obc hf
  have hK := hC.K
  refine v_run (a := As.toArray) (mc := rm.cells) (ms := rm.slots) hC ?_ (V.widen hk'.1 hk'.2 (by rw [hs1]; exact kk r' w' hf2))
  have hm := hM r' w' hfb
  obtain ⟨p, l, e, R, s, m, args, below, meth, c, Q, nL, G, w0⟩ := C
  intro H locs ls hok hl
  have hts := hC.2.2.2.2.2.1
  exact va_runSN (host := host) hC.fix hm ⟨va_cnB As.length hts (wsM_in hcd) rfl rfl rfl (hK.2.2 _ hlk) (hts _ hini) hy hR, hts _ hin, trivial⟩ ⟨mP_blind _ _ _, fun U hU hW => ⟨rfl, okw_call hC.2.2.2.2.2.2.1 hok hU hW⟩⟩ rfl rfl hl.1 rfl (lv_room hst) hd ⟨Nat.le_trans hk'.1 hkn.1, Nat.le_trans hk'.2 hkn.2⟩
theorem v_callI {y : MethodName} {rm : Room} {bytes : ByteArray} {maxL index b k' n' : Nat} {As rest : List Value} {f : Option (Unit × cW)} {F : Unit → cW → Option β} (hC : okC C cc nL own lw_gd) (hd : decode cc pc = .ok (.invokespecial index, 3))
    (hlk : Cond.methodLink own index y ∈ lw_gd) (hin : Cond.instanceMethod y ∈ lw_gd) (hini : Cond.initialized y.cls ∈ lw_gd) (hcd : Cond.code y bytes maxL none ∈ lw_gd) (hnm : y.name = "<init>") {nA : Nat} (hy : yOk y nA) (hna : As.length = nA)
    (hM : ∀ r' w', f = some (r', w') → Met (xl C) y (wsM y bytes maxL none) rm (mP (xg C) w (.ref b :: As)) (mQ mkV (xg C) w w' r') rm.cells rm.slots (Aw w))
    (hR : rm.frames + 1 ≤ (xR C).frames ∧ 8 + (maxL + 11) + rm.locals ≤ (xR C).locals) (hst : (rest.map fun v => v.category).sum ≤ 8) (hk' : k + rm.cells ≤ k' ∧ n + rm.slots ≤ n') (hkn : k' ≤ (xR C).cells ∧ n' ≤ (xR C).slots)
    (hf : cbd f F = some z) {st0 : List Value} (hs0 : st0 = As.reverse ++ va_rf (some b) :: rest) (kk : ∀ r' w', F r' w' = some z → V C w' k' n' (pc + 3) lv rest) : V C w k n pc lv st0 := by
  subst hs0
  have hy : yOk y As.length := by rw [hna]; exact hy
  obtain ⟨r', w', hfb, hf2⟩ := obc hf
  refine v_run (a := (Value.ref b :: As).toArray) (mk := mkV) (r := r') (mc := rm.cells) (ms := rm.slots) hC ?_ (V.widen hk'.1 hk'.2 (kk r' w' hf2))
  have hm := hM r' w' hfb
  obtain ⟨p, l, e, R, s, m, args, below, meth, c, Q, nL, G, w0⟩ := C
  intro H locs ls hok hl
  have hts := hC.2.2.2.2.2.1
  exact va_runI hC.fix hm ⟨callB_of As.length hts (wsM_in hcd) rfl rfl rfl (hts _ hini) (hts _ hlk) hy hR, hnm, hts _ hin⟩ ⟨mP_blind _ _ _, fun U hU hW => ⟨rfl, okw_call hC.2.2.2.2.2.2.1 hok hU hW⟩⟩ rfl rfl hl.1 rfl (lv_room hst) hd ⟨Nat.le_trans hk'.1 hkn.1, Nat.le_trans hk'.2 hkn.2⟩
theorem v_callIN {y : MethodName} {rm : Room} {bytes : ByteArray} {maxL index b k' n' : Nat} {host : String} {As rest : List Value} {f : Option (Unit × cW)} {F : Unit → cW → Option β} (hC : okC C cc nL own lw_gd) (hd : decode cc pc = .ok (.invokespecial index, 3))
    (hlk : Cond.methodLinkNest own index y host ∈ lw_ex) (hin : Cond.instanceMethod y ∈ lw_gd) (hini : Cond.initialized y.cls ∈ lw_gd) (hcd : Cond.code y bytes maxL none ∈ lw_gd) (hnm : y.name = "<init>") {nA : Nat} (hy : yOk y nA) (hna : As.length = nA)
    (hM : ∀ r' w', f = some (r', w') → Met (xl C) y (wsM y bytes maxL none) rm (mP (xg C) w (.ref b :: As)) (mQ mkV (xg C) w w' r') rm.cells rm.slots (Aw w))
    (hR : rm.frames + 1 ≤ (xR C).frames ∧ 8 + (maxL + 11) + rm.locals ≤ (xR C).locals) (hst : (rest.map fun v => v.category).sum ≤ 8) (hk' : k + rm.cells ≤ k' ∧ n + rm.slots ≤ n') (hkn : k' ≤ (xR C).cells ∧ n' ≤ (xR C).slots)
    (hf : cbd f F = some z) {st0 : List Value} (hs0 : st0 = As.reverse ++ va_rf (some b) :: rest) (kk : ∀ r' w', F r' w' = some z → V C w' k' n' (pc + 3) lv rest) : V C w k n pc lv st0 := by
  subst hs0
  have hy : yOk y As.length := by rw [hna]; exact hy
  obtain ⟨r', w', hfb, hf2⟩ := obc hf
  have hK := hC.K
  refine v_run (a := (Value.ref b :: As).toArray) (mk := mkV) (r := r') (mc := rm.cells) (ms := rm.slots) hC ?_ (V.widen hk'.1 hk'.2 (kk r' w' hf2))
  have hm := hM r' w' hfb
  obtain ⟨p, l, e, R, s, m, args, below, meth, c, Q, nL, G, w0⟩ := C
  intro H locs ls hok hl
  have hts := hC.2.2.2.2.2.1
  exact va_runIN (host := host) hC.fix hm ⟨va_cnB As.length hts (wsM_in hcd) rfl rfl rfl (hK.2.2 _ hlk) (hts _ hini) hy hR, hnm, hts _ hin⟩ ⟨mP_blind _ _ _, fun U hU hW => ⟨rfl, okw_call hC.2.2.2.2.2.2.1 hok hU hW⟩⟩ rfl rfl hl.1 rfl (lv_room hst) hd ⟨Nat.le_trans hk'.1 hkn.1, Nat.le_trans hk'.2 hkn.2⟩
theorem v_objInit {index b : Nat} {rest : List Value} (hC : okC C cc nL own lw_gd) (hd : decode cc pc = .ok (.invokespecial index, 3)) (hlk : Cond.methodLink own index Lib.objectInit ∈ lw_gd) (hin : Cond.instanceMethod Lib.objectInit ∈ lw_gd) (hcd : Cond.code Lib.objectInit ⟨#[0xb1]⟩ 1 none ∈ lw_gd) (hst : (rest.map fun v => v.category).sum ≤ 8) (hR : 1 ≤ (xR C).frames ∧ 20 ≤ (xR C).locals) (kk : V C w k n (pc + 3) lv rest) : V C w k n pc lv (va_rf (some b) :: rest) := by
  obtain ⟨p, l, e, R, s, m, args, below, meth, c, Q, nL, G, w0⟩ := C
  intro H locs ls hok hl
  have hts := hC.2.2.2.2.2.1
  exact W.objInit hC.1 hC.2.1 hC.2.2.2.2.1 (hts _ hlk) (hts _ hin) (hts _ hcd) rfl (by rw [hC.2.2.1]; exact hl.1) rfl hd hR.1 (by show 2 * 0 + _ + 12 ≤ R.locals; have := hR.2; dsimp only [xR] at this; omega) (kk H locs ls hok hl)
end VCALL
