/-! AGREE: orders dealt, in the order of their words -/
def sgn (x y : Int32) : Int32 := if x = y then nI 0 else if x < y then -1 else nI 1
theorem sgn_anti (x y : Int32) : sgn x y = - sgn y x := by
  unfold sgn
  by_cases q : x = y
  · rw [if_pos q, if_pos q.symm]; decide
  · have q' : ¬ y = x := fun w => q w.symm
    rw [if_neg q, if_neg q']
    by_cases q2 : x < y
    · have q3 : ¬ y < x := fun w => by rw [i_lt] at q2 w; omega
      rw [if_pos q2, if_neg q3]; decide
    · have q3 : y < x := by rw [i_eq] at q; rw [i_lt] at q2 ⊢; omega
      rw [if_neg q2, if_pos q3]; decide
def Fm (f1 f2 : Nat → Int32) (o : Nat → Nat) (i j : Nat) : Int32 := sgn (f1 i) (f1 j) * sgn (f2 (o i)) (f2 (o j))
theorem Fm_symm (f1 f2 : Nat → Int32) (o : Nat → Nat) (i j : Nat) : Fm f1 f2 o i j = Fm f1 f2 o j i := by
  unfold Fm
  rw [sgn_anti (f1 i), sgn_anti (f2 (o i))]
  grind
def sJ (F : Nat → Nat → Int32) (i : Nat) (u : Int32) : Nat → Int32
  | 0 => u
  | k + 1 => sJ F i u k + F i (i + 1 + k)
def sI (F : Nat → Nat → Int32) (n : Nat) : Nat → Int32
  | 0 => nI 0
  | i + 1 => sJ F i (sI F n i) (n - (i + 1))
def gS (F : Nat → Nat → Int32) (p : Nat) : Nat → Int32
  | 0 => nI 0
  | q + 1 => gS F p q + F p q
def Lo2 (F : Nat → Nat → Int32) : Nat → Int32
  | 0 => nI 0
  | p + 1 => Lo2 F p + gS F p p
theorem sJ_add {F : Nat → Nat → Int32} {i : Nat} {u v : Int32} : ∀ k, sJ F i (u + v) k = sJ F i u k + v
  | 0 => rfl
  | k + 1 => by unfold sJ; rw [sJ_add k]; grind
theorem i0a (x : Int32) : x + nI 0 = x := by rw [nI_0]; grind
theorem sI_s {F : Nat → Nat → Int32} (hF : ∀ i j, F i j = F j i) {n : Nat} : ∀ i, i ≤ n → sI F (n + 1) i = sI F n i + gS F n i
  | 0, _ => (i0a _).symm
  | i + 1, hi => by
    have ih := sI_s hF (n := n) i (by omega)
    show sJ F i (sI F (n + 1) i) (n + 1 - (i + 1)) = sJ F i (sI F n i) (n - (i + 1)) + (gS F n i + F n i)
    rw [ih, show n + 1 - (i + 1) = (n - (i + 1)) + 1 by omega]
    show sJ F i (sI F n i + gS F n i) (n - (i + 1)) + F i (i + 1 + (n - (i + 1))) = _
    rw [sJ_add, show i + 1 + (n - (i + 1)) = n by omega, hF i n]
    grind
theorem sI_Lo {F : Nat → Nat → Int32} (hF : ∀ i j, F i j = F j i) : ∀ n, sI F n n = Lo2 F n
  | 0 => rfl
  | n + 1 => by
    show sJ F n (sI F (n + 1) n) (n + 1 - (n + 1)) = Lo2 F n + gS F n n
    rw [Nat.sub_self]
    show sI F (n + 1) n = _
    rw [sI_s hF n (Nat.le_refl _), sI_Lo hF n]
theorem gS_cg {F G : Nat → Nat → Int32} {p : Nat} : ∀ n, (∀ q, q < n → F p q = G p q) → gS F p n = gS G p n
  | 0, _ => rfl
  | n + 1, h => by unfold gS; rw [gS_cg n (fun q hq => h q (by omega)), h n (by omega)]
theorem Lo_cg {F G : Nat → Nat → Int32} : ∀ n, (∀ p q, p < n → q < p → F p q = G p q) → Lo2 F n = Lo2 G n
  | 0, _ => rfl
  | n + 1, h => by unfold Lo2; rw [Lo_cg n (fun p q hp hq => h p q (by omega) hq), gS_cg n (fun q hq => h n q (by omega) hq)]
/-- how many deals of the marks left come to the least score or more -/
def dl (n : Nat) (lst : Int32) (f1 f2 : Nat → Int32) : Nat → Nat → Nat → (Nat → Nat) → Int32 → Nat
  | 0, _, _, _, sm => if lst ≤ sm then 1 else 0
  | f + 1, p, u, o, sm => sN (fun mk => if u.testBit mk then 0 else dl n lst f1 f2 f (p + 1) (u ||| 2 ^ mk) (va_up o p mk) (sm + gS (Fm f1 f2 (va_up o p mk)) p p)) n
/-- the deals themselves -/
def pmF (n : Nat) : Nat → Nat → Nat → (Nat → Nat) → List (Nat → Nat)
  | 0, _, _, o => [o]
  | f + 1, p, u, o => (List.range n).flatMap (fun mk => if u.testBit mk then [] else pmF n f (p + 1) (u ||| 2 ^ mk) (va_up o p mk))
theorem sN_map {g : Nat → Nat} : ∀ n, sN g n = ((List.range n).map g).sum
  | 0 => rfl
  | n + 1 => by unfold sN; rw [sN_map n, List.range_succ, List.map_append, List.sum_append]; simp
theorem dl_pm {n : Nat} {lst : Int32} {f1 f2 : Nat → Int32} : ∀ f p u o, p + f = n → dl n lst f1 f2 f p u o (Lo2 (Fm f1 f2 o) p) = (pmF n f p u o).countP (fun o' => decide (lst ≤ Lo2 (Fm f1 f2 o') n))
  | 0, p, u, o, h => by
    have e : p = n := by omega
    subst e
    unfold dl pmF
    by_cases q : lst ≤ Lo2 (Fm f1 f2 o) p
    · rw [if_pos q]; simp [q]
    · rw [if_neg q]; simp [q]
  | f + 1, p, u, o, h => by
    unfold dl pmF
    rw [sN_map, List.countP_flatMap]
    congr 1
    apply List.map_congr_left
    intro mk hmk
    by_cases q : u.testBit mk = true
    · rw [if_pos q]; simp [q]
    · rw [if_neg q]
      have e : Lo2 (Fm f1 f2 o) p + gS (Fm f1 f2 (va_up o p mk)) p p = Lo2 (Fm f1 f2 (va_up o p mk)) (p + 1) := by
        show _ = Lo2 (Fm f1 f2 (va_up o p mk)) p + _
        congr 1
        refine Lo_cg p (fun p' q' h1 h2 => ?_)
        unfold Fm
        rw [va_up_n _ _ (show p' ≠ p by omega), va_up_n _ _ (show q' ≠ p by omega)]
      rw [e, dl_pm f (p + 1) _ _ (by omega)]
      simp [q]
/-! the next order -/
def pv (o : Nat → Nat) : Nat → Nat
  | 0 => 0
  | i + 1 => if o (i + 1) < o i then pv o i else i + 1
def jv (o : Nat → Nat) (x : Nat) : Nat → Nat
  | 0 => 0
  | j + 1 => if o (j + 1) < x then jv o x j else j + 1
def sw2 (o : Nat → Nat) (i j : Nat) : Nat → Nat := va_up (va_up o i (o j)) j (o i)
def rvF : Nat → (Nat → Nat) → Nat → Nat → Nat → Nat
  | 0, o, _, _ => o
  | f + 1, o, l, h => if l < h then rvF f (sw2 o l h) (l + 1) (h - 1) else o
def tn (n : Nat) (o : Nat → Nat) : Option (Nat → Nat) := if pv o (n - 1) = 0 then none else some (rvF 4 (sw2 o (pv o (n - 1) - 1) (jv o (o (pv o (n - 1) - 1)) (n - 1))) (pv o (n - 1)) (n - 1))
def eqv (n : Nat) (x y : Nat → Nat) : Bool := (List.range n).all (fun i => x i == y i)
theorem eqv_i {n : Nat} {x y : Nat → Nat} (h : eqv n x y = true) {i : Nat} (hi : i < n) : x i = y i := by
  unfold eqv at h
  rw [List.all_eq_true] at h
  exact eq_of_beq (h i (List.mem_range.mpr hi))
def tnE (n : Nat) (o o' : Nat → Nat) : Bool := match tn n o with
  | some t => eqv n t o'
  | none => false
def ckF (n : Nat) : List (Nat → Nat) → Bool
  | [] => false
  | [o] => (tn n o).isNone
  | o :: o' :: r => tnE n o o' && ckF n (o' :: r)
def ckB (n : Nat) (o : Nat → Nat) : Bool := (List.range n).all (fun i => decide (o i < n))
theorem ckB_i {n : Nat} {o : Nat → Nat} (h : ckB n o = true) {i : Nat} (hi : i < n) : o i < n := by
  unfold ckB at h
  rw [List.all_eq_true] at h
  exact of_decide_eq_true (h i (List.mem_range.mpr hi))
def fac : Nat → Nat
  | 0 => 1
  | n + 1 => fac n * (n + 1)
def pms (n : Nat) : List (Nat → Nat) := pmF n n 0 0 (fun _ => 0)
def ckA (n : Nat) : Bool := ckF n (pms n) && (pms n).all (ckB n) && ((pms n).length == fac n) && (match pms n with
  | o :: _ => eqv n o (fun i => i)
  | [] => false)
theorem ck2 : ckA 2 = true := by decide +kernel
theorem ck3 : ckA 3 = true := by decide +kernel
theorem ck4 : ckA 4 = true := by decide +kernel
theorem ck5 : ckA 5 = true := by decide +kernel
theorem ck6 : ckA 6 = true := by decide +kernel
theorem ck7 : ckA 7 = true := by decide +kernel
theorem ckAll {n : Nat} (h2 : 2 ≤ n) (h7 : n ≤ 7) : ckF n (pms n) = true ∧ (∀ o, o ∈ pms n → ckB n o = true) ∧ (pms n).length = fac n ∧ ∃ o r, pms n = o :: r ∧ eqv n o (fun i => i) = true := by
  have h : ckA n = true := by
    have : n = 2 ∨ n = 3 ∨ n = 4 ∨ n = 5 ∨ n = 6 ∨ n = 7 := by omega
    rcases this with w | w | w | w | w | w <;> subst w
    · exact ck2
    · exact ck3
    · exact ck4
    · exact ck5
    · exact ck6
    · exact ck7
  unfold ckA at h
  rw [Bool.and_eq_true, Bool.and_eq_true, Bool.and_eq_true] at h
  obtain ⟨⟨⟨h1, h2⟩, h3⟩, h4⟩ := h
  refine ⟨h1, fun o ho => List.all_eq_true.mp h2 o ho, eq_of_beq h3, ?_⟩
  cases q : pms n with
  | nil => rw [q] at h4; cases h4
  | cons o r => rw [q] at h4; exact ⟨o, r, rfl, h4⟩
theorem fac_b {n : Nat} (h : n ≤ 7) : 0 < fac n ∧ fac n ≤ 5040 := by
  have : n = 0 ∨ n = 1 ∨ n = 2 ∨ n = 3 ∨ n = 4 ∨ n = 5 ∨ n = 6 ∨ n = 7 := by omega
  rcases this with w | w | w | w | w | w | w | w <;> subst w <;> decide
/-! the scripts that both marked -/
def gP (c : Nat → Int32) (a b : Nat) : Nat → Nat × (Nat → Int32) × (Nat → Int32)
  | 0 => (0, fun _ => 0, fun _ => 0)
  | s + 1 => if c (4 * s + a) = -1 ∨ c (4 * s + b) = -1 then gP c a b s else ((gP c a b s).1 + 1, va_up (gP c a b s).2.1 (gP c a b s).1 (c (4 * s + a)), va_up (gP c a b s).2.2 (gP c a b s).1 (c (4 * s + b)))
theorem gP_le (c : Nat → Int32) (a b : Nat) : ∀ s, (gP c a b s).1 ≤ s
  | 0 => Nat.le_refl _
  | s + 1 => by
    have := gP_le c a b s
    unfold gP
    split
    · omega
    · dsimp only; omega
theorem gP_v {c : Nat → Int32} (hM : MK c) {a b : Nat} (ha : a < 4) (hb : b < 4) : ∀ s, s ≤ 12 → ∀ i, i < (gP c a b s).1 → (∃ v, v ≤ 100 ∧ (gP c a b s).2.1 i = nI v) ∧ ∃ v, v ≤ 100 ∧ (gP c a b s).2.2 i = nI v
  | 0, _, i, hi => absurd hi (Nat.not_lt_zero _)
  | s + 1, hs, i, hi => by
    have ih := gP_v hM ha hb s (by omega)
    unfold gP at hi ⊢
    by_cases q : c (4 * s + a) = -1 ∨ c (4 * s + b) = -1
    · rw [if_pos q] at hi ⊢
      exact ih i hi
    · rw [if_neg q] at hi ⊢
      dsimp only at hi ⊢
      by_cases e : i = (gP c a b s).1
      · subst e
        rw [va_up_s, va_up_s]
        rcases hM (4 * s + a) (by omega) with w | w
        · exact absurd (Or.inl w) q
        · rcases hM (4 * s + b) (by omega) with w2 | w2
          · exact absurd (Or.inr w2) q
          · exact ⟨w, w2⟩
      · rw [va_up_n _ _ e, va_up_n _ _ e]
        exact ih i (by omega)
