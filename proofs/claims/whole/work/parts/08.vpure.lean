/-! PURE ROWS: what the functions over worlds answer when the cells are known -/
theorem bnd_eq {α β : Type} (x : α) (f : α → β) : bnd x f = f x := rfl
theorem bnd_ob {α β : Type} {x : α} {f : α → Option β} {r : β} (h : bnd x f = some r) : ∃ y, y = x ∧ f y = some r := ⟨x, rfl, h⟩
theorem cbd_some {α β γ : Type} (a : α) (b : β) (f : α → β → Option γ) : cbd (some (a, b)) f = f a b := rfl
theorem cbd_of {α β γ : Type} {o : Option (α × β)} {a : α} {b : β} {f : α → β → Option γ} (h : o = some (a, b)) : cbd o f = f a b := by rw [h]; rfl
theorem ob_of {α β : Type} {o : Option α} {a : α} {f : α → Option β} (h : o = some a) : o.bind f = f a := by rw [h]; rfl
theorem gI_in {w : cW} {a ci k : Nat} {fs : List Value} {x : Int32} (h : w.1 a = some (.inr (ci, fs))) (hk : fs[k]? = some (.int x)) : gI w (some a) ci k = some x := by
  simp [gI, cObj_in h, hk, asI]
theorem gQ_in {w : cW} {a ci k : Nat} {fs : List Value} {r : Option Nat} (h : w.1 a = some (.inr (ci, fs))) (hk : fs[k]? = some (va_rf r)) : gQ w (some a) ci k = some r := by
  cases r <;> simp [gQ, cObj_in h, hk, asQ, va_rf]
theorem pF_in {w : cW} {a ci k : Nat} {fs : List Value} {v : Value} (h : w.1 a = some (.inr (ci, fs))) (hk : k < fs.length) : pF w (some a) ci k v = some (va_up w.1 a (some (.inr (ci, fs.set k v))), w.2) := by
  simp [pF, cObj_in h, hk]
theorem pI_in {w : cW} {a ci k : Nat} {fs : List Value} {x : Int32} (h : w.1 a = some (.inr (ci, fs))) (hk : k < fs.length) : pI w (some a) ci k x = some (va_up w.1 a (some (.inr (ci, fs.set k (.int x)))), w.2) := pF_in h hk
theorem pQ_in {w : cW} {a ci k : Nat} {fs : List Value} {x : Option Nat} (h : w.1 a = some (.inr (ci, fs))) (hk : k < fs.length) : pQ w (some a) ci k x = some (va_up w.1 a (some (.inr (ci, fs.set k (va_rf x)))), w.2) := pF_in h hk
theorem pZ_in {w : cW} {a ci k : Nat} {fs : List Value} {x : Int32} (h : w.1 a = some (.inr (ci, fs))) (hk : k < fs.length) (hx : x = 0 ∨ x = 1) : pZ w (some a) ci k x = some (va_up w.1 a (some (.inr (ci, fs.set k (.int x)))), w.2) := by
  unfold pZ
  rw [if_pos hx]
  exact pF_in h hk
theorem cArr_in {w : cW} {a : Nat} {x : Nat × vp_A} (h : w.1 a = some (.inl x)) : cArr w (some a) = some (a, x) := by
  simp [cArr, h]
theorem ldI_in {w : cW} {a t N j : Nat} {f : Nat → Int32} {ty : FieldType} {i : Int32} (h : w.1 a = some (.inl (t, N, .inl f))) (ht : t < aN) (hty : aTy t = ty) (hi : i = nI j) (hj : j < N) (hN : N < 2 ^ 31) : ldI w (some a) ty i = some (f j) := by
  subst hi
  have e : (nI j).toNatClampNeg = j := nI_clamp (by omega)
  have hin : ¬ (nI j < 0 ∨ N ≤ (nI j).toNatClampNeg) := nI_in hj hN
  unfold ldI
  rw [ob_of (cArr_in h)]
  dsimp only
  rw [if_pos ⟨ht, hty, hin⟩, e]
theorem stI_in {w : cW} {a t N j : Nat} {f : Nat → Int32} {ty : FieldType} {i x : Int32} (h : w.1 a = some (.inl (t, N, .inl f))) (hr : t < aRO) (ht : t < aN) (hty : aTy t = ty) (hi : i = nI j) (hj : j < N) (hN : N < 2 ^ 31) : stI w (some a) ty i x = some (va_up w.1 a (some (.inl (t, N, .inl (upd f j (vp_nar ty x))))), w.2) := by
  subst hi
  have e : (nI j).toNatClampNeg = j := nI_clamp (by omega)
  have hin : ¬ (nI j < 0 ∨ N ≤ (nI j).toNatClampNeg) := nI_in hj hN
  unfold stI
  rw [ob_of (cArr_in h)]
  dsimp only
  rw [if_pos ⟨hr, ht, hty, hin⟩, e]
theorem aLen_in {w : cW} {a t N : Nat} {y : (Nat → Int32) ⊕ (Nat → Int64) ⊕ (Nat → UInt32) ⊕ (Nat → UInt64) ⊕ (Nat → Option Nat)} (h : w.1 a = some (.inl (t, N, y))) (ht : t < aN) : aLen w (some a) = some (nI N) := by
  simp [aLen, cArr_in h, ht, nI]
theorem cRcv_in {w : cW} {a ci : Nat} {fs : List Value} (h : w.1 a = some (.inr (ci, fs))) : cRcv w (some a) ci = some a := by
  simp [cRcv, cObj_in h]
theorem cCast_in {w : cW} {a ci : Nat} {fs : List Value} (h : w.1 a = some (.inr (ci, fs))) : cCast w (some a) ci = some () := by
  simp [cCast, cObj_in h]
/-- a callee that sees a part of the world alone -/
def rst (S : Nat → Bool) (w : cW) : cW := (fun a => if S a = true then w.1 a else none, w.2)
def mrg (S : Nat → Bool) (w w1 : cW) : cW := (fun a => if S a = true ∨ w.2.1 ≤ a then w1.1 a else w.1 a, w1.2)
def cFr {α : Type} (S : Nat → Bool) (f : cW → Option (α × cW)) (w : cW) : Option (α × cW) := (f (rst S w)).map fun q => (q.1, mrg S w q.2)
theorem cFr_of {α : Type} {S : Nat → Bool} {f : cW → Option (α × cW)} {w w' : cW} {r : α} (h : cFr S f w = some (r, w')) : ∃ w1, f (rst S w) = some (r, w1) ∧ w' = mrg S w w1 := by
  obtain ⟨⟨a, w1⟩, h1, h2⟩ := Option.map_eq_some_iff.mp h
  cases h2
  exact ⟨w1, h1, rfl⟩
theorem cFr_in {α : Type} {S : Nat → Bool} {f : cW → Option (α × cW)} {w w1 : cW} {r : α} (h : f (rst S w) = some (r, w1)) : cFr S f w = some (r, mrg S w w1) := by
  unfold cFr
  rw [h]
  rfl
/-- behind a call that saw a part of the world alone -/
theorem okc_backF {α : Type} {mk : α → Option Value} {S : Nat → Bool} {G : cG} {s st₀ t T' : State} {w0 w w1 : cW} {H : Heap} {locs L : List Loc} {a : Array Value} {r : α} {o : Outcome} (h0 : okw G w0 s) (h : okc G s w0 w H locs) (hst : st₀.heap = H) (hq : mQ mk G (rst S w) w1 r a st₀ o t) (e1 : T'.heap = t.heap) (e2 : T'.vm = t.vm) (hW : s.vm.Alike T'.vm) (hL : ∀ q ∈ L, Aw (rst S w) q.base) : okc G s w0 (mrg S w w1) T'.heap (locs ++ L) := by
  obtain ⟨-, g1, g2, g3, g4, g5⟩ := hq
  have hS := h.2.2.2.1
  have hal : t.vm.Alike s.vm := by rw [← e2]; exact hW.symm
  have hz : H.size ≤ T'.heap.size := by rw [e1, ← hst]; exact g5.1
  have hAr : ∀ q, Aw (rst S w) q → Aw w q := by
    rintro q (⟨e, h1, h2⟩ | h1)
    · refine Or.inl ⟨e, ?_, h2⟩
      have h1 : (if S q = true then w.1 q else none) = some e := h1
      by_cases c : S q = true
      · rw [if_pos c] at h1; exact h1
      · rw [if_neg c] at h1; cases h1
    · exact Or.inr h1
  have hm : ∀ b e, (mrg S w w1).1 b = some e → ((S b = true ∨ w.2.1 ≤ b) ∧ w1.1 b = some e) ∨ (¬ (S b = true ∨ w.2.1 ≤ b) ∧ w.1 b = some e) := by
    intro b e hb
    have hb : (if S b = true ∨ w.2.1 ≤ b then w1.1 b else w.1 b) = some e := hb
    by_cases c : S b = true ∨ w.2.1 ≤ b
    · rw [if_pos c] at hb; exact Or.inl ⟨c, hb⟩
    · rw [if_neg c] at hb; exact Or.inr ⟨c, hb⟩
  refine ⟨by rw [e1]; exact g1.2.2.1, fun b e hb => ?_, fun b e hb he => ?_, ⟨Nat.le_trans hS.1 hz, fun q q1 q2 => ?_, fun q hq => ?_⟩, by show w1.2.2 = _; rw [g4]; exact h.2.2.2.2⟩
  · rcases hm b e hb with ⟨-, hb⟩ | ⟨c, hb⟩
    · rw [e1]
      exact (g1.2.2.2.1 b e hb).moved hal
    · have hlt : b < H.size := (h.2.1 b e hb).lt
      refine (h.2.1 b e hb).kept ?_
      rw [e1, ← hst]
      refine g5.2 b (by rw [hst]; exact hlt) ?_
      rintro (⟨x, h1, -⟩ | h1)
      · have h1 : (if S b = true then w.1 b else none) = some x := h1
        rw [if_neg (fun z => c (Or.inl z))] at h1
        cases h1
      · exact c (Or.inr h1)
  · rcases hm b e hb with ⟨-, hb⟩ | ⟨c, hb⟩
    · exact ⟨g1.2.2.2.2.2 b e hb he, Aw_mono h0 h (hAr b (g2 b e hb he))⟩
    · exact h.2.2.1 b e hb he
  · rw [e1, g5.2 q (by rw [hst]; exact Nat.lt_of_lt_of_le q1 hS.1) (fun c => q2 (Aw_mono h0 h (hAr q c))), hst]
    exact hS.2.1 q q1 q2
  · rcases List.mem_append.mp hq with c | c
    · exact hS.2.2 q c
    · exact Aw_mono h0 h (hAr _ (hL q c))
theorem okw_rst {G : cG} {w : cW} {U : State} (S : Nat → Bool) (h : okw G w U) : okw G (rst S w) U := by
  obtain ⟨h1, h2, h3, h4, h5, h6⟩ := h
  have hs : ∀ b e, (rst S w).1 b = some e → w.1 b = some e := by
    intro b e hb
    have hb : (if S b = true then w.1 b else none) = some e := hb
    by_cases c : S b = true
    · rw [if_pos c] at hb; exact hb
    · rw [if_neg c] at hb; cases hb
  exact ⟨h1, h2, h3, fun b e hb => h4 b e (hs b e hb), h5, fun b e hb he => h6 b e (hs b e hb) he⟩
section VFR
variable {C : xC} {cc : ByteArray} {nL : Nat} {own : String} {Ts : List Cond} {w : cW} {k n pc : Nat} {lv : List (Nat × Value)} {st : List Value} {β : Type} {z : β}
theorem v_callVF {α : Type} {mk : α → Option Value} {S : Nat → Bool} {y : MethodName} {rm : Room} {bytes : ByteArray} {maxL index ci N k' n' : Nat} {ret : Option FieldType} {CN : String} {T : u_T} {As rest : List Value} {r : Option Nat} {f : Nat → cW → Option (α × cW)} {F : α → cW → Option β} (hC : okC C cc nL own lw_gd) (hd : decode cc pc = .ok (.invokevirtual index, 3))
    (hlk : Cond.methodLink own index y ∈ lw_gd) (hin : Cond.instanceMethod y ∈ lw_gd) (hse : Cond.selects CN y y ∈ lw_gd) (hini : Cond.initialized y.cls ∈ lw_gd) (hcd : Cond.code y bytes maxL ret ∈ lw_gd) {nA : Nat} (hy : yOk y nA) (hna : As.length = nA)
    (hc : vwCl[ci]? = some (CN, T, N)) (hM : ∀ b w r' w', f b w = some (r', w') → Met (xl C) y (wsM y bytes maxL ret) rm (mP (xg C) w (.ref b :: As)) (mQ mk (xg C) w w' r') rm.cells rm.slots (Aw w))
    (hR : rm.frames + 1 ≤ (xR C).frames ∧ 8 + (maxL + 11) + rm.locals ≤ (xR C).locals) (hst : (rest.map fun v => v.category).sum ≤ 8) (hk' : k + rm.cells ≤ k' ∧ n + rm.slots ≤ n') (hkn : k' ≤ (xR C).cells ∧ n' ≤ (xR C).slots)
    (hf : (cRcv w r ci).bind (fun b => cbd (cFr S (f b) w) F) = some z) {st0 : List Value} {st1 : α → List Value} (hs0 : st0 = As.reverse ++ va_rf r :: rest) (hs1 : ∀ x, (mk x).toList ++ rest = st1 x) (kk : ∀ r' w', F r' w' = some z → V C w' k' n' (pc + 3) lv (st1 r')) : V C w k n pc lv st0 := by
  subst hs0
  have hy : yOk y As.length := by rw [hna]; exact hy
  obtain ⟨b, hb, hf1⟩ := ob hf
  obtain ⟨r', w', hfb0, hf2⟩ := obc hf1
  obtain ⟨w1, hfb, rfl⟩ := cFr_of hfb0
  obtain ⟨rfl, fs, hbw⟩ := cRcv_of hb
  have hK := hC.K
  have hkk := kk r' _ hf2
  have hm := hM b _ r' w1 hfb
  obtain ⟨p, l, e, R, s, m, args, below, meth, c, Q, nL, G, w0⟩ := C
  intro H locs ls hok hl
  have hKn := hK.1.1 ci _ hc
  have hts := hC.2.2.2.2.2.1
  have hr := va_runV hC.fix hm ⟨callB_of As.length hts (wsM_in hcd) rfl rfl rfl (hts _ hini) (hts _ hlk) hy hR, hts _ hin, hts _ hse⟩ ⟨mP_blind _ _ _, va_recv (q0 := 0) hK.1 (va_P1 (q := (b, .inr (ci, fs))) (hok.2.1 b _ hbw)) hc rfl, fun U hU hW => ⟨rfl, okw_rst S (okw_call hC.2.2.2.2.2.2.1 hok hU hW)⟩⟩ (e := e) (below := below) (meth := meth) (locs := locs) (cells := k) (slots := n) (g := F0 m pc ls (As.reverse ++ .ref b :: rest)) (rest := rest) rfl rfl hl.1 rfl (lv_room hst) hd ⟨Nat.le_trans hk'.1 hkn.1, Nat.le_trans hk'.2 hkn.2⟩
  intro T hT X
  obtain ⟨v, st₀, t, T', L, h0, X', hL, e1, e2, hq, st⟩ := hr T hT X
  have hv : v = mk r' := by have := hq.1; cases this; rfl
  subst hv
  have hkk := V.widen (C := (p, l, e, R, s, m, args, below, meth, c, Q, nL, G, w0)) hk'.1 hk'.2 hkk
  rw [← hs1] at hkk
  obtain ⟨t2, a1, b1⟩ := hkk T'.heap (locs ++ L) ls (okc_backF hC.2.2.2.2.2.2.1 hok h0 hq e1 e2 X'.warmed.alike hL) hl T' rfl X'
  exact ⟨t2, st t2 a1, b1⟩
end VFR
