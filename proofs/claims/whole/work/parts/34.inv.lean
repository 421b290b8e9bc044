/-! COUNTS, SUMS, THE GREATEST; the order in the arena; what holds between two calls -/
def cnt (p : Nat → Bool) : Nat → Nat
  | 0 => 0
  | n + 1 => cnt p n + (if p n = true then 1 else 0)
def sumN (f : Nat → Nat) : Nat → Nat
  | 0 => 0
  | n + 1 => sumN f n + f n
def maxN (f : Nat → Nat) : Nat → Nat
  | 0 => 0
  | n + 1 => max (maxN f n) (f n)
theorem cnt_le (p : Nat → Bool) : ∀ n, cnt p n ≤ n
  | 0 => Nat.le_refl _
  | n + 1 => by
    have := cnt_le p n
    unfold cnt
    split <;> omega
theorem cnt_lt {p : Nat → Bool} : ∀ {n u : Nat}, u < n → p u = false → cnt p n < n
  | 0, u, h, _ => absurd h (Nat.not_lt_zero u)
  | n + 1, u, h, hp => by
    have h1 := cnt_le p n
    unfold cnt
    by_cases c : u = n
    · subst c
      rw [hp, if_neg Bool.false_ne_true]
      omega
    · have := cnt_lt (p := p) (n := n) (u := u) (by omega) hp
      split <;> omega
theorem sumN_le (f : Nat → Nat) (b : Nat) : ∀ n, (∀ i, i < n → f i ≤ b) → sumN f n ≤ n * b
  | 0, _ => by unfold sumN; omega
  | n + 1, h => by
    have h1 := sumN_le f b n (fun i hi => h i (by omega))
    have h2 := h n (by omega)
    unfold sumN
    rw [Nat.succ_mul]
    omega
theorem maxN_le (f : Nat → Nat) (b : Nat) : ∀ n, (∀ i, i < n → f i ≤ b) → maxN f n ≤ b
  | 0, _ => by unfold maxN; omega
  | n + 1, h => by
    have h1 := maxN_le f b n (fun i hi => h i (by omega))
    have h2 := h n (by omega)
    unfold maxN
    omega
theorem maxN_ge (f : Nat → Nat) : ∀ n i, i < n → f i ≤ maxN f n
  | 0, i, h => absurd h (Nat.not_lt_zero i)
  | n + 1, i, h => by
    unfold maxN
    by_cases c : i = n
    · rw [c]; omega
    · have := maxN_ge f n i (by omega)
      omega
/-- u lies before the place that (wd, i) marks: it is longer than wd, or as long and below i -/
def bfP (S : sM) (L : Nat → Bool) (wd i u : Nat) : Bool := L u && (decide (wd < N S 1 u) || (decide (N S 1 u = wd) && decide (u < i)))
def bf (S : sM) (L : Nat → Bool) (wd i : Nat) : Nat := cnt (bfP S L wd i) (N S 6 0)
def ORD (S : sM) (L : Nat → Bool) (od : Nat → Nat) (nA : Nat) : Prop := (∀ t, t < N S 6 0 → L t = true → bf S L (N S 1 t) t < nA ∧ od (bf S L (N S 1 t) t) = t) ∧ (∀ k, k < nA → od k < N S 6 0 ∧ L (od k) = true ∧ bf S L (N S 1 (od k)) (od k) = k)
theorem ORD.p1 {S : sM} {L : Nat → Bool} {od : Nat → Nat} {nA : Nat} (h : ORD S L od nA) : ∀ t, t < N S 6 0 → L t = true → bf S L (N S 1 t) t < nA ∧ od (bf S L (N S 1 t) t) = t := h.1
theorem ORD.p2 {S : sM} {L : Nat → Bool} {od : Nat → Nat} {nA : Nat} (h : ORD S L od nA) : ∀ k, k < nA → od k < N S 6 0 ∧ L (od k) = true ∧ bf S L (N S 1 (od k)) (od k) = k := h.2
theorem ORD.lt {S : sM} {L : Nat → Bool} {od : Nat → Nat} {nA : Nat} (h : ORD S L od nA) {k : Nat} (hk : k < nA) : k < N S 6 0 := by
  obtain ⟨h1, h2, h3⟩ := h.p2 k hk
  have : bf S L (N S 1 (od k)) (od k) < N S 6 0 := cnt_lt h1 (by unfold bfP; simp)
  omega
section LOOPS
variable {S : sM} {L : Nat → Bool}
theorem placed_in (h : OKS S) (hL : ∀ t, t < N S 6 0 → gM_lives (nI t) S = some (if L t = true then 1 else 0, S)) {t n : Nat} (ht : t < N S 6 0) (rec14 : Int32 → Int32 → sM → Option (Int32 × sM)) : ∀ d u fu, u + d = N S 6 0 → d < fu → gM_placed_l27 rec14 fu (nI n) (nI t) (nI (cnt (bfP S L (N S 1 t) t) u)) (nI u) S = gM_placed_b92 rec14 (nI n) (nI t) (nI (bf S L (N S 1 t) t)) S := by
  have h20 := h.t20
  intro d
  induction d with
  | zero =>
    intro u fu h1 h2
    obtain ⟨fu, rfl⟩ : ∃ k, fu = k + 1 := ⟨fu - 1, by omega⟩
    rw [gM_placed_l27_s]
    unfold gM_placed_b27 bf
    have e : u = N S 6 0 := by omega
    rw [bnd_eq, h.e6, if_pos (nI_le (by omega) (by omega)), e]
  | succ d ih =>
    intro u fu h1 h2
    obtain ⟨fu, rfl⟩ : ∃ k, fu = k + 1 := ⟨fu - 1, by omega⟩
    have hi := ih (u + 1) fu (by omega) (by omega)
    have hu : u < N S 6 0 := by omega
    rw [gM_placed_l27_s]
    unfold gM_placed_b27
    rw [bnd_eq, h.e6, if_neg (nI_ge (by omega) (by omega)), cbd_of (hL u hu)]
    cases c : L u
    · have e : cnt (bfP S L (N S 1 t) t) (u + 1) = cnt (bfP S L (N S 1 t) t) u := by
        show _ + (if bfP S L (N S 1 t) t u = true then 1 else 0) = _
        rw [if_neg (by unfold bfP; simp [c])]
        rfl
      rw [if_neg Bool.false_ne_true, if_pos rfl, bnd_eq, nI_1, ← e]
      exact hi
    · rw [if_pos rfl, if_neg (by decide), ob_of (rd20 (show u < 20 by omega) (by omega)), ob_of (rd20 (show t < 20 by omega) (by omega)), h.e1, h.e1]
      by_cases c1 : N S 1 t < N S 1 u
      · have e : cnt (bfP S L (N S 1 t) t) (u + 1) = cnt (bfP S L (N S 1 t) t) u + 1 := by
          show _ + (if bfP S L (N S 1 t) t u = true then 1 else 0) = _
          rw [if_pos (by unfold bfP; simp [c, c1])]
        rw [if_pos (nI_lt c1 (N_lt _ _ _)), bnd_eq, bnd_eq, nI_1, nI_1, ← e]
        exact hi
      · rw [if_neg (nI_nlt (by omega) (N_lt _ _ _)), ob_of (rd20 (show u < 20 by omega) (by omega)), ob_of (rd20 (show t < 20 by omega) (by omega)), h.e1, h.e1]
        by_cases c2 : N S 1 u = N S 1 t
        · rw [if_pos (by rw [c2])]
          by_cases c3 : t ≤ u
          · have e : cnt (bfP S L (N S 1 t) t) (u + 1) = cnt (bfP S L (N S 1 t) t) u := by
              show _ + (if bfP S L (N S 1 t) t u = true then 1 else 0) = _
              rw [if_neg (by unfold bfP; simp [c1]; omega)]
              rfl
            rw [if_pos (nI_le c3 (by omega)), bnd_eq, nI_1, ← e]
            exact hi
          · have e : cnt (bfP S L (N S 1 t) t) (u + 1) = cnt (bfP S L (N S 1 t) t) u + 1 := by
              show _ + (if bfP S L (N S 1 t) t u = true then 1 else 0) = _
              rw [if_pos (by unfold bfP; simp [c, c2]; omega)]
            rw [if_neg (nI_ge (by omega) (by omega)), bnd_eq, bnd_eq, nI_1, nI_1, ← e]
            exact hi
        · have e : cnt (bfP S L (N S 1 t) t) (u + 1) = cnt (bfP S L (N S 1 t) t) u := by
            show _ + (if bfP S L (N S 1 t) t u = true then 1 else 0) = _
            rw [if_neg (by unfold bfP; simp [c1, c2])]
            rfl
          rw [if_neg (fun q => c2 ((NeqN S 1 u 1 t).mp q)), bnd_eq, nI_1, ← e]
          exact hi
theorem placed_out (h : OKS S) (hL : ∀ t, t < N S 6 0 → gM_lives (nI t) S = some (if L t = true then 1 else 0, S)) {n : Nat} (hn : n < 20) {od : Nat → Nat} {nA : Nat} (ho : ORD S L od nA) : ∀ d t fu, t + d = N S 6 0 → d < fu → (n < nA → t ≤ od n) → gM_placed_l14 fu (nI n) (nI t) S = some (if n < nA then nI (od n) else -1, S) := by
  have h20 := h.t20
  intro d
  induction d with
  | zero =>
    intro t fu h1 h2 h3
    obtain ⟨fu, rfl⟩ : ∃ k, fu = k + 1 := ⟨fu - 1, by omega⟩
    rw [gM_placed_l14_s]
    unfold gM_placed_b14
    rw [bnd_eq, h.e6, if_pos (nI_le (by omega) (by omega))]
    by_cases c : n < nA
    · have h4 := h3 c
      have h5 := (ho.p2 n c).1
      omega
    · rw [if_neg c]
  | succ d ih =>
    intro t fu h1 h2 h3
    obtain ⟨fu, rfl⟩ : ∃ k, fu = k + 1 := ⟨fu - 1, by omega⟩
    have ht : t < N S 6 0 := by omega
    rw [gM_placed_l14_s]
    unfold gM_placed_b14
    rw [bnd_eq, h.e6, if_neg (nI_ge (by omega) (by omega))]
    refine (placed_in h hL ht (gM_placed_l14 fu) (N S 6 0) 0 FU (by omega) (by unfold FU; omega)).trans ?_
    unfold gM_placed_b92
    have hb : bf S L (N S 1 t) t ≤ 20 := Nat.le_trans (cnt_le _ _) h20
    rw [cbd_of (hL t ht)]
    cases c : L t
    · rw [if_neg Bool.false_ne_true, if_pos rfl, bnd_eq, nI_1]
      refine ih (t + 1) fu (by omega) (by omega) (fun q => ?_)
      have h4 := h3 q
      have h5 := (ho.p2 n q).2.1
      by_cases c5 : t = od n
      · rw [← c5, c] at h5
        cases h5
      · omega
    · rw [if_pos rfl, if_neg (by decide)]
      by_cases c2 : bf S L (N S 1 t) t = n
      · have h6 := ho.p1 t ht c
        rw [c2] at h6
        rw [if_pos (by rw [c2]), if_pos h6.1, h6.2]
      · rw [if_neg (fun q => c2 ((nI_eq (by omega) (by omega)).mp q)), bnd_eq, nI_1]
        refine ih (t + 1) fu (by omega) (by omega) (fun q => ?_)
        have h4 := h3 q
        have h5 := (ho.p2 n q).2.2
        by_cases c5 : t = od n
        · rw [← c5] at h5
          exact absurd h5 c2
        · omega
theorem g_placed (h : OKS S) (hL : ∀ t, t < N S 6 0 → gM_lives (nI t) S = some (if L t = true then 1 else 0, S)) {od : Nat → Nat} {nA : Nat} (ho : ORD S L od nA) {n : Nat} (hn : n < 20) : gM_placed (nI n) S = some (if n < nA then nI (od n) else -1, S) := by
  have h20 := h.t20
  unfold gM_placed
  rw [if_neg (nI_pos (by omega)), if_pos (show nI n < 20 from (nI_lt hn (by omega) : nI n < nI 20))]
  exact placed_out h hL hn ho (N S 6 0) 0 FU (by omega) (by unfold FU; omega) (fun _ => Nat.zero_le _)
theorem g_placed0 {a : Int32} (ha : a < 0 ∨ nI 20 ≤ a) : gM_placed a S = some (-1, S) := by
  unfold gM_placed
  by_cases c : a < 0
  · rw [if_pos c]
  · rw [if_neg c, if_neg (show ¬ a < 20 from Int32.not_lt.mpr (ha.resolve_left c))]
theorem ord0 (hL : ∀ t, t < N S 6 0 → L t = false) (od : Nat → Nat) : ORD S L od 0 := ⟨fun t ht q => absurd ((hL t ht).symm.trans q) Bool.false_ne_true, fun k hk => absurd hk (Nat.not_lt_zero k)⟩
/-- how far what lives reaches -/
def arF (S : sM) (L : Nat → Bool) (u : Nat) : Nat := if L u = true then N S 16 u + N S 1 u else 0
def lnF (S : sM) (L : Nat → Bool) (u : Nat) : Nat := if L u = true then N S 1 u else 0
theorem arena_loop (h : OKS S) (hL : ∀ t, t < N S 6 0 → gM_lives (nI t) S = some (if L t = true then 1 else 0, S)) (h16 : ∀ t, t < N S 6 0 → L t = true → ¬ S 16 t < 0 ∧ N S 16 t ≤ 400) : ∀ d t fu, t + d = N S 6 0 → d < fu → gM_arena_l4 fu (nI (maxN (arF S L) t)) (nI t) S = some (nI (maxN (arF S L) (N S 6 0)), S) := by
  have h20 := h.t20
  have hF : ∀ i, i < N S 6 0 → arF S L i ≤ 464 := by
    intro i hi
    unfold arF
    split
    · rename_i c
      have := (h16 i hi c).2
      have := h.ln64 i hi
      omega
    · omega
  intro d
  induction d with
  | zero =>
    intro t fu h1 h2
    obtain ⟨fu, rfl⟩ : ∃ k, fu = k + 1 := ⟨fu - 1, by omega⟩
    rw [gM_arena_l4_s]
    unfold gM_arena_b4
    have e : t = N S 6 0 := by omega
    rw [bnd_eq, h.e6, if_pos (nI_le (by omega) (by omega)), e]
  | succ d ih =>
    intro t fu h1 h2
    obtain ⟨fu, rfl⟩ : ∃ k, fu = k + 1 := ⟨fu - 1, by omega⟩
    have hi := ih (t + 1) fu (by omega) (by omega)
    have ht : t < N S 6 0 := by omega
    have hm : maxN (arF S L) t ≤ 464 := maxN_le _ _ _ (fun i hi => hF i (by omega))
    have ee : maxN (arF S L) (t + 1) = max (maxN (arF S L) t) (arF S L t) := rfl
    rw [gM_arena_l4_s]
    unfold gM_arena_b4
    rw [bnd_eq, h.e6, if_neg (nI_ge (by omega) (by omega)), cbd_of (hL t ht)]
    cases c : L t
    · have e : arF S L t = 0 := by unfold arF; rw [if_neg (by rw [c]; decide)]
      rw [if_neg Bool.false_ne_true, if_pos rfl, bnd_eq, nI_1]
      rw [show maxN (arF S L) t = maxN (arF S L) (t + 1) by rw [ee, e]; omega]
      exact hi
    · have e : arF S L t = N S 16 t + N S 1 t := by unfold arF; rw [if_pos c]
      have hx := hF t ht
      rw [if_pos rfl, if_neg (by decide), ob_of (rd20 (show t < 20 by omega) (by omega)), ob_of (rd20 (show t < 20 by omega) (by omega)), h.e1, show S 16 t = nI (N S 16 t) from nI_N (h16 t ht c).1, nI_add, ← e]
      by_cases c2 : arF S L t ≤ maxN (arF S L) t
      · rw [if_pos (nI_le c2 (by omega)), bnd_eq, nI_1]
        rw [show maxN (arF S L) t = maxN (arF S L) (t + 1) by rw [ee]; omega]
        exact hi
      · rw [if_neg (nI_ge (by omega) (by omega)), ob_of (rd20 (show t < 20 by omega) (by omega)), ob_of (rd20 (show t < 20 by omega) (by omega)), h.e1, show S 16 t = nI (N S 16 t) from nI_N (h16 t ht c).1, nI_add, ← e, bnd_eq, bnd_eq, nI_1]
        rw [show arF S L t = maxN (arF S L) (t + 1) by rw [ee]; omega]
        exact hi
theorem g_arena (h : OKS S) (hL : ∀ t, t < N S 6 0 → gM_lives (nI t) S = some (if L t = true then 1 else 0, S)) (h16 : ∀ t, t < N S 6 0 → L t = true → ¬ S 16 t < 0 ∧ N S 16 t ≤ 400) : gM_arena S = some (nI (maxN (arF S L) (N S 6 0)), S) := by
  have h20 := h.t20
  exact arena_loop h hL h16 (N S 6 0) 0 FU (by omega) (by unfold FU; omega)
theorem count_loop (h : OKS S) (hL : ∀ t, t < N S 6 0 → gM_lives (nI t) S = some (if L t = true then 1 else 0, S)) : ∀ d t fu, t + d = N S 6 0 → d < fu → gM_count_l68 fu (nI (sumN (lnF S L) t)) (nI t) S = some (nI (sumN (lnF S L) (N S 6 0)), S) := by
  have h20 := h.t20
  intro d
  induction d with
  | zero =>
    intro t fu h1 h2
    obtain ⟨fu, rfl⟩ : ∃ k, fu = k + 1 := ⟨fu - 1, by omega⟩
    rw [gM_count_l68_s]
    unfold gM_count_b68
    have e : t = N S 6 0 := by omega
    rw [bnd_eq, h.e6, if_pos (nI_le (by omega) (by omega)), e]
  | succ d ih =>
    intro t fu h1 h2
    obtain ⟨fu, rfl⟩ : ∃ k, fu = k + 1 := ⟨fu - 1, by omega⟩
    have hi := ih (t + 1) fu (by omega) (by omega)
    have ht : t < N S 6 0 := by omega
    have ee : sumN (lnF S L) (t + 1) = sumN (lnF S L) t + lnF S L t := rfl
    rw [gM_count_l68_s]
    unfold gM_count_b68
    rw [bnd_eq, h.e6, if_neg (nI_ge (by omega) (by omega)), cbd_of (hL t ht)]
    cases c : L t
    · have e : lnF S L t = 0 := by unfold lnF; rw [if_neg (by rw [c]; decide)]
      rw [if_neg Bool.false_ne_true, if_pos rfl, bnd_eq, nI_1]
      rw [show sumN (lnF S L) t = sumN (lnF S L) (t + 1) by rw [ee, e]; rfl]
      exact hi
    · have e : lnF S L t = N S 1 t := by unfold lnF; rw [if_pos c]
      rw [if_pos rfl, if_neg (by decide), ob_of (rd20 (show t < 20 by omega) (by omega)), h.e1, bnd_eq, bnd_eq, nI_1, nI_add, ← e, ← ee]
      exact hi
end LOOPS
def PRP (S : sM) (Y : Nat → Nat → Int32) (od : Nat → Nat) (nA : Nat) (mx : Int32) : Prop := (∀ t, t < N S 6 0 → Y 7 t = if lv S t = true then 1 else 0) ∧ (∀ t, t < N S 6 0 → lv S t = true → Y 8 t = bgn S t) ∧ (∀ t, t < N S 6 0 → lv S t = true → Y 9 t = edn S t) ∧ (∀ t, t < N S 6 0 → lv S t = true → Y 10 t = S 16 t) ∧ (∀ t, t < N S 6 0 → lv S t = true → ¬ S 16 t < 0 ∧ N S 16 t ≤ 400) ∧ (ORD S (lv S) od nA) ∧ (sumN (fun k => N S 1 (od k)) nA = sumN (lnF S (lv S)) (N S 6 0)) ∧ (mx = nI (maxN (arF S (lv S)) (N S 6 0)))
theorem PRP.y7 {S : sM} {Y : Nat → Nat → Int32} {od : Nat → Nat} {nA : Nat} {mx : Int32} (h : PRP S Y od nA mx) : ∀ t, t < N S 6 0 → Y 7 t = if lv S t = true then 1 else 0 := h.1
theorem PRP.y8 {S : sM} {Y : Nat → Nat → Int32} {od : Nat → Nat} {nA : Nat} {mx : Int32} (h : PRP S Y od nA mx) : ∀ t, t < N S 6 0 → lv S t = true → Y 8 t = bgn S t := h.2.1
theorem PRP.y9 {S : sM} {Y : Nat → Nat → Int32} {od : Nat → Nat} {nA : Nat} {mx : Int32} (h : PRP S Y od nA mx) : ∀ t, t < N S 6 0 → lv S t = true → Y 9 t = edn S t := h.2.2.1
theorem PRP.y10 {S : sM} {Y : Nat → Nat → Int32} {od : Nat → Nat} {nA : Nat} {mx : Int32} (h : PRP S Y od nA mx) : ∀ t, t < N S 6 0 → lv S t = true → Y 10 t = S 16 t := h.2.2.2.1
theorem PRP.h16 {S : sM} {Y : Nat → Nat → Int32} {od : Nat → Nat} {nA : Nat} {mx : Int32} (h : PRP S Y od nA mx) : ∀ t, t < N S 6 0 → lv S t = true → ¬ S 16 t < 0 ∧ N S 16 t ≤ 400 := h.2.2.2.2.1
theorem PRP.ord {S : sM} {Y : Nat → Nat → Int32} {od : Nat → Nat} {nA : Nat} {mx : Int32} (h : PRP S Y od nA mx) : ORD S (lv S) od nA := h.2.2.2.2.2.1
theorem PRP.sm {S : sM} {Y : Nat → Nat → Int32} {od : Nat → Nat} {nA : Nat} {mx : Int32} (h : PRP S Y od nA mx) : sumN (fun k => N S 1 (od k)) nA = sumN (lnF S (lv S)) (N S 6 0) := h.2.2.2.2.2.2.1
theorem PRP.mxx {S : sM} {Y : Nat → Nat → Int32} {od : Nat → Nat} {nA : Nat} {mx : Int32} (h : PRP S Y od nA mx) : mx = nI (maxN (arF S (lv S)) (N S 6 0)) := h.2.2.2.2.2.2.2
def RUN (S : sM) (V : Nat → Nat → Nat → Int32) (d : Nat) : Prop := (∀ t, t < N S 6 0 → N S 0 t = 0 → ∀ j, j < N S 1 t → S 5 (t * 64 + j) = S 4 (t * 64 + j)) ∧ (∀ t, t < N S 6 0 → N S 0 t = 1 → ∀ j, j < N S 1 t → V 6 t j = S 5 (t * 64 + j)) ∧ (∀ t, t < N S 6 0 → N S 0 t = 2 → mk S t d < d → ∀ j, j < N S 1 t → V 5 t j = S 5 (t * 64 + j))
theorem RUN.rc {S : sM} {V : Nat → Nat → Nat → Int32} {d : Nat} (h : RUN S V d) : ∀ t, t < N S 6 0 → N S 0 t = 0 → ∀ j, j < N S 1 t → S 5 (t * 64 + j) = S 4 (t * 64 + j) := h.1
theorem RUN.ri {S : sM} {V : Nat → Nat → Nat → Int32} {d : Nat} (h : RUN S V d) : ∀ t, t < N S 6 0 → N S 0 t = 1 → ∀ j, j < N S 1 t → V 6 t j = S 5 (t * 64 + j) := h.2.1
theorem RUN.rm {S : sM} {V : Nat → Nat → Nat → Int32} {d : Nat} (h : RUN S V d) : ∀ t, t < N S 6 0 → N S 0 t = 2 → mk S t d < d → ∀ j, j < N S 1 t → V 5 t j = S 5 (t * 64 + j) := h.2.2
section CONG
variable {S S' : sM}
theorem mk_cong (h12 : S' 12 = S 12) (t n : Nat) : mk S' t n = mk S t n := by unfold mk N; rw [h12]
theorem lv_cong (h0 : S' 0 = S 0) (h12 : S' 12 = S 12) (h14 : S' 14 = S 14) : lv S' = lv S := by
  funext t
  unfold lv
  rw [mk_cong h12]
  unfold N
  rw [h0, h14]
theorem lu_cong (h10 : S' 10 = S 10) (h11 : S' 11 = S 11) (t : Nat) (e : Int32) : ∀ n, lu S' t e n = lu S t e n
  | 0 => rfl
  | n + 1 => by
    unfold lu
    rw [lu_cong h10 h11 t e n]
    unfold N
    rw [h10, h11]
theorem bgn_cong (h0 : S' 0 = S 0) (h12 : S' 12 = S 12) (h14 : S' 14 = S 14) (t : Nat) : bgn S' t = bgn S t := by
  unfold bgn mI
  rw [mk_cong h12]
  unfold N
  rw [h0, h14]
theorem edn_cong (h0 : S' 0 = S 0) (h3 : S' 3 = S 3) (h10 : S' 10 = S 10) (h11 : S' 11 = S 11) (h12 : S' 12 = S 12) (h14 : S' 14 = S 14) (t : Nat) : edn S' t = edn S t := by
  unfold edn
  rw [bgn_cong h0 h12 h14, lu_cong h10 h11]
  unfold N
  rw [h3, h14]
theorem bf_cong (h1 : S' 1 = S 1) (h6 : S' 6 = S 6) (L : Nat → Bool) (wd i : Nat) : bf S' L wd i = bf S L wd i := by
  have e : bfP S' L wd i = bfP S L wd i := by
    funext u
    unfold bfP N
    rw [h1]
  unfold bf
  rw [e]
  unfold N
  rw [h6]
theorem PRP.cong {Y : Nat → Nat → Int32} {od : Nat → Nat} {nA : Nat} {mx : Int32} (h : PRP S Y od nA mx) (hS : ∀ j, j ≠ 4 → j ≠ 5 → j ≠ 18 → S' j = S j) : PRP S' Y od nA mx := by
  have h0 := hS 0 (by omega) (by omega) (by omega)
  have h1 := hS 1 (by omega) (by omega) (by omega)
  have h3 := hS 3 (by omega) (by omega) (by omega)
  have h6 := hS 6 (by omega) (by omega) (by omega)
  have h10 := hS 10 (by omega) (by omega) (by omega)
  have h11 := hS 11 (by omega) (by omega) (by omega)
  have h12 := hS 12 (by omega) (by omega) (by omega)
  have h14 := hS 14 (by omega) (by omega) (by omega)
  have h16 := hS 16 (by omega) (by omega) (by omega)
  have n1 : ∀ i, N S' 1 i = N S 1 i := fun i => by unfold N; rw [h1]
  have n6 : N S' 6 0 = N S 6 0 := by unfold N; rw [h6]
  have n16 : ∀ i, N S' 16 i = N S 16 i := fun i => by unfold N; rw [h16]
  have el := lv_cong h0 h12 h14
  have ea : arF S' (lv S) = arF S (lv S) := by
    funext u
    unfold arF
    rw [n1, n16]
  have en : lnF S' (lv S) = lnF S (lv S) := by
    funext u
    unfold lnF
    rw [n1]
  refine ⟨?_, ?_, ?_, ?_, ?_, ⟨?_, ?_⟩, ?_, ?_⟩
  · rw [el, n6]; exact h.y7
  · intro t
    rw [el, n6, bgn_cong h0 h12 h14]; exact h.y8 t
  · intro t
    rw [el, n6, edn_cong h0 h3 h10 h11 h12 h14]; exact h.y9 t
  · intro t
    rw [el, n6, h16]; exact h.y10 t
  · intro t
    rw [el, n6, h16, n16]; exact h.h16 t
  · intro t
    rw [el, n6, n1, bf_cong h1 h6]; exact h.ord.p1 t
  · intro k
    rw [el, n6, n1, bf_cong h1 h6]; exact h.ord.p2 k
  · rw [el, en, n6, ← h.sm]
    congr 1
    funext k
    exact n1 _
  · rw [el, ea, n6]; exact h.mxx
theorem flt_cong (hS : ∀ j, j = 0 ∨ j = 1 ∨ j = 2 ∨ j = 9 ∨ j = 10 ∨ j = 11 ∨ j = 12 ∨ j = 13 → S' j = S j) (o : Nat) : flt S' o = flt S o := by
  have h0 := hS 0 (by omega)
  have h1 := hS 1 (by omega)
  have h2 := hS 2 (by omega)
  have h9 := hS 9 (by omega)
  have h10 := hS 10 (by omega)
  have h11 := hS 11 (by omega)
  have h12 := hS 12 (by omega)
  have h13 := hS 13 (by omega)
  unfold flt unm fitB mk N
  rw [h0, h1, h2, h9, h10, h11, h12, h13]
end CONG
def GIV (S : sM) (V : Nat → Nat → Nat → Int32) : Prop := ∀ t, t < N S 6 0 → N S 0 t ≠ 2 → ∀ j, j < N S 1 t → V 5 t j = S 4 (t * 64 + j)
def INV (w : cW) (b : Nat) (S : sM) : Prop := ∃ (X : Nat → Nat → Nat) (cd : Nat → Nat × Nat) (el tl : Nat → Nat) (Y : Nat → Nat → Int32) (V : Nat → Nat → Nat → Int32) (od : Nat → Nat) (nA : Nat) (mx : Int32), X 0 0 = b ∧ RC w S X cd el tl Y V od nA mx ∧ OKS S ∧ GIV S V ∧ (S 15 0 = 1 → PRP S Y od nA mx) ∧ ∀ d, d ≤ N S 14 0 → S 18 0 = nI d → RUN S V d
def Agr (b : Nat) (f : cW → Option (Int32 × cW)) (g : sM → Option (Int32 × sM)) : Prop := ∀ w S, INV w b S → ∃ r S' w', g S = some (r, S') ∧ f w = some (r, w') ∧ INV w' b S'
theorem Agr.same {b : Nat} {f : cW → Option (Int32 × cW)} {g : sM → Option (Int32 × sM)} (h : ∀ (w : cW) (S : sM), INV w b S → ∃ r, g S = some (r, S) ∧ f w = some (r, w)) : Agr b f g := fun w S hi => by
  obtain ⟨r, h1, h2⟩ := h w S hi
  exact ⟨r, S, w, h1, h2, hi⟩
