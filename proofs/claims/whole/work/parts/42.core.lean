/-! THE EQUATIONS: weights of pairs of markers, the rows, who is tied to the ground -/
def wN (h : Nat → Nat) (a b : Nat) : Nat → Nat
  | 0 => 0
  | s + 1 => wN h a b s + (if (h s).testBit a && (h s).testBit b then shr (h s) else 0)
def dN (h : Nat → Nat) (a : Nat) : Nat → Nat
  | 0 => 0
  | s + 1 => dN h a s + (if (h s).testBit a then 12 - shr (h s) else 0)
theorem shr_f : ∀ x, x < 16 → ∀ a, a < 4 → x.testBit a = true → 3 ≤ shr x ∧ shr x ≤ 12 ∧ shr x * pop x = 12 ∧ 12 = (if x.testBit 0 then shr x else 0) + (if x.testBit 1 then shr x else 0) + (if x.testBit 2 then shr x else 0) + (if x.testBit 3 then shr x else 0) := by decide +kernel
theorem shr_g0 : ∀ x, x < 16 → ∀ a, a < 4 → ∀ b, b < 4 → (a = b ∨ x.testBit a = false ∨ x.testBit b = false ∨ shr x ≤ 6) := by decide +kernel
theorem shr_g (x : Nat) (hx : x < 16) (a : Nat) (ha : a < 4) (b : Nat) (hb : b < 4) (hab : a ≠ b) (h1 : x.testBit a = true) (h2 : x.testBit b = true) : shr x ≤ 6 := by
  rcases shr_g0 x hx a ha b hb with q | q | q | q
  · exact absurd q hab
  · rw [h1] at q; cases q
  · rw [h2] at q; cases q
  · exact q
theorem wN_symm (h : Nat → Nat) (a b : Nat) : ∀ n, wN h a b n = wN h b a n
  | 0 => rfl
  | n + 1 => by unfold wN; rw [wN_symm h a b n, Bool.and_comm]
theorem dN_sum {h : Nat → Nat} (hh : ∀ s, s < 12 → h s < 16) {a : Nat} (ha : a < 4) : ∀ n, n ≤ 12 → dN h a n + wN h a a n = wN h a 0 n + wN h a 1 n + wN h a 2 n + wN h a 3 n
  | 0, _ => rfl
  | n + 1, hn => by
    have ih := dN_sum hh ha n (by omega)
    unfold dN wN
    cases q : (h n).testBit a with
    | false => simp only [Bool.false_and, Bool.false_eq_true, ↓reduceIte]; omega
    | true =>
      obtain ⟨h1, h2, -, h3⟩ := shr_f (h n) (hh n (by omega)) a ha q
      simp only [Bool.true_and, ↓reduceIte]
      omega
theorem dN_le {h : Nat → Nat} (hh : ∀ s, s < 12 → h s < 16) {a : Nat} (ha : a < 4) : ∀ n, n ≤ 12 → dN h a n ≤ 9 * n
  | 0, _ => Nat.le_refl _
  | n + 1, hn => by
    have ih := dN_le hh ha n (by omega)
    unfold dN
    split
    · rename_i q
      have := (shr_f (h n) (hh n (by omega)) a ha q).1
      omega
    · omega
theorem wN_le {h : Nat → Nat} (hh : ∀ s, s < 12 → h s < 16) {a b : Nat} (ha : a < 4) (hb : b < 4) (hab : a ≠ b) : ∀ n, n ≤ 12 → wN h a b n ≤ 6 * n
  | 0, _ => Nat.le_refl _
  | n + 1, hn => by
    have ih := wN_le hh ha hb hab n (by omega)
    unfold wN
    split
    · rename_i q
      rw [Bool.and_eq_true] at q
      have := shr_g (h n) (hh n (by omega)) a ha b hb hab q.1 q.2
      omega
    · omega
theorem wN_0 {h : Nat → Nat} (hh : ∀ s, s < 12 → h s < 16) {a b : Nat} (ha : a < 4) : ∀ n, n ≤ 12 → (wN h a b n = 0 ↔ ∀ s, s < n → ¬ ((h s).testBit a = true ∧ (h s).testBit b = true))
  | 0, _ => by simp [wN]
  | n + 1, hn => by
    have ih := wN_0 hh (b := b) ha n (by omega)
    unfold wN
    constructor
    · intro hq s hs
      by_cases e : s = n
      · subst e
        intro hc
        have := (shr_f (h s) (hh s (by omega)) a ha hc.1).1
        rw [hc.1, hc.2] at hq
        simp only [Bool.and_self, ↓reduceIte] at hq
        omega
      · exact ih.mp (by omega) s (by omega)
    · intro hq
      have h1 := ih.mpr (fun s hs => hq s (by omega))
      have h2 := hq n (by omega)
      rw [h1]
      split
      · rename_i q
        rw [Bool.and_eq_true] at q
        exact absurd q h2
      · rfl
theorem wN_eg {h : Nat → Nat} (hh : ∀ s, s < 12 → h s < 16) {a b : Nat} (ha : a < 4) : (wN h a b 12 = 0) = (eg h a b = false) := by
  rw [propext (wN_0 hh ha 12 (Nat.le_refl _))]
  refine propext ⟨fun q => ?_, fun q s hs hc => ?_⟩
  · cases e : eg h a b with
    | false => rfl
    | true =>
      obtain ⟨s, h1, h2⟩ := eg_iff.mp e
      exact absurd h2 (q s h1)
  · have : eg h a b = true := eg_iff.mpr ⟨s, hs, hc⟩
    rw [q] at this
    cases this
/-! the class's way to the bundles is the connectedness con -/
theorem rb_bit {h : Nat → Nat} {m x : Nat} : ∀ n, (rb h m n).testBit x = (List.range n).any (fun s => (h s).testBit m && (h s).testBit x)
  | 0 => by simp [rb]
  | n + 1 => by
    have ih := rb_bit (h := h) (m := m) (x := x) n
    rw [List.range_succ, List.any_append]
    unfold rb
    simp only [List.any_cons, List.any_nil, Bool.or_false]
    split
    · rename_i q; rw [q, ih]; simp
    · rename_i q
      have q' : (h n).testBit m = true := by simpa using q
      rw [Nat.testBit_or, ih, q']
      simp
theorem w2_val {b : Nat} {r : Nat → Nat} (hb : b < 4) : ∀ k, k ≤ 4 → ∀ m, w2 b r k m = if m < k ∧ (r m).testBit b = true then r m ||| r b else r m
  | 0, _, m => by simp [w2]
  | k + 1, hk, m => by
    have ih := w2_val (r := r) hb k (by omega)
    have hbb : w2 b r k b = r b := by
      rw [ih]
      split
      · exact Nat.or_self _
      · rfl
    have hkk : w2 b r k k = r k := by rw [ih, if_neg (by omega)]
    unfold w2 wst
    rw [hkk, hbb]
    cases q : (r k).testBit b with
    | false =>
      rw [if_pos rfl, ih]
      by_cases e : m = k
      · subst e; rw [if_neg (by omega), if_neg (by rw [q]; simp)]
      · by_cases e2 : m < k
        · have e3 : m < k + 1 := by omega
          simp only [e2, e3]
        · have e3 : ¬ m < k + 1 := by omega
          simp only [e2, e3]
    | true =>
      rw [if_neg (by simp)]
      by_cases e : m = k
      · subst e
        rw [va_up_s, if_pos ⟨by omega, q⟩]
      · rw [va_up_n _ _ e, ih]
        by_cases e2 : m < k
        · have e3 : m < k + 1 := by omega
          simp only [e2, e3]
        · have e3 : ¬ m < k + 1 := by omega
          simp only [e2, e3]
theorem w2_bit {b : Nat} {r : Nat → Nat} (hb : b < 4) {m x : Nat} (hm : m < 4) : (w2 b r 4 m).testBit x = wk b (fun p q => (r p).testBit q) m x := by
  rw [w2_val hb 4 (Nat.le_refl _)]
  unfold wk
  cases q : (r m).testBit b with
  | false => rw [if_neg (by simp)]; simp [q]
  | true => rw [if_pos ⟨hm, rfl⟩, Nat.testBit_or]; simp [q]
theorem wk_cg {k : Nat} {w w' : Nat → Nat → Bool} (hk : k < 4) (h : ∀ a b, a < 4 → w a b = w' a b) (a b : Nat) (ha : a < 4) : wk k w a b = wk k w' a b := by
  unfold wk
  rw [h a b ha, h a k ha, h k b hk]
theorem wC_bit (c : Nat → Int32) {m : Nat} (x : Nat) (hm : m < 4) : (wC c m).testBit x = con (hnd c) m x := by
  have h0 : ∀ a b, a < 4 → (rb (hnd c) a 12).testBit b = eg (hnd c) a b := fun a b _ => rb_bit 12
  unfold wC con
  show (w2 3 (w2 2 (w2 1 (w2 0 (fun m => rb (hnd c) m 12) 4) 4) 4) 4 m).testBit x = _
  rw [w2_bit (by decide) hm]
  refine wk_cg (by decide) (fun a b ha => ?_) m x hm
  rw [w2_bit (by decide) ha]
  refine wk_cg (by decide) (fun a b ha => ?_) a b ha
  rw [w2_bit (by decide) ha]
  refine wk_cg (by decide) (fun a b ha => ?_) a b ha
  rw [w2_bit (by decide) ha]
  exact wk_cg (by decide) h0 a b ha
theorem lbn_wC (c : Nat → Int32) {m : Nat} (hm : m < 4) : lbn (wC c m) = lb (hnd c) m := by
  unfold lbn lb
  rw [wC_bit c 0 hm, wC_bit c 1 hm, wC_bit c 2 hm, wC_bit c 3 hm]
theorem fr_bit (w : Nat → Nat) : ∀ n m, (fr w n).testBit m = decide (m < n ∧ lbn (w m) ≠ 4 ∧ lbn (w m) ≠ m)
  | 0, m => by simp [fr]
  | n + 1, m => by
    have ih := fr_bit w n m
    have e : (2 ^ n).testBit m = decide (n = m) := Nat.testBit_two_pow
    unfold fr
    split
    · rename_i q
      rw [ih, decide_eq_decide]
      by_cases hm : m = n
      · subst hm; simp [q]
      · exact and_congr_left' (by omega)
    · split
      · rename_i q
        rw [ih, decide_eq_decide]
        by_cases hm : m = n
        · subst hm; simp [q]
        · exact and_congr_left' (by omega)
      · rename_i q1 q2
        rw [Nat.testBit_or, ih, e]
        by_cases hm : m = n
        · subst hm; simp [q1, q2]
        · have : ¬ n = m := fun z => hm z.symm
          simp only [this, decide_false, Bool.or_false]
          rw [decide_eq_decide]
          exact and_congr_left' (by omega)
/-- a marker with an equation -/
def fre (h : Nat → Nat) (m : Nat) : Bool := decide (lb h m ≠ 4 ∧ lb h m ≠ m)
theorem fC_bit (c : Nat → Int32) {m : Nat} (hm : m < 4) : (fC c).testBit m = fre (hnd c) m := by
  unfold fC fre
  rw [fr_bit, lbn_wC c hm, decide_eq_decide]
  exact ⟨fun q => q.2, fun q => ⟨hm, q⟩⟩
/-! tied to the ground: every pattern of edges -/
def ckE (e00 e11 e22 e33 e01 e02 e03 e12 e13 e23 : Bool) (a b : Nat) : Bool := match a, b with
  | 0, 0 => e00
  | 1, 1 => e11
  | 2, 2 => e22
  | 3, 3 => e33
  | 0, 1 => e01
  | 1, 0 => e01
  | 0, 2 => e02
  | 2, 0 => e02
  | 0, 3 => e03
  | 3, 0 => e03
  | 1, 2 => e12
  | 2, 1 => e12
  | 1, 3 => e13
  | 3, 1 => e13
  | 2, 3 => e23
  | 3, 2 => e23
  | _, _ => false
def lbE (w : Nat → Nat → Bool) (m : Nat) : Nat := if w m 0 then 0 else if w m 1 then 1 else if w m 2 then 2 else if w m 3 then 3 else 4
def frE (w : Nat → Nat → Bool) (m : Nat) : Bool := decide (lbE w m ≠ 4 ∧ lbE w m ≠ m)
/-- p is on the ground or has an edge to it, e an edge between free ones -/
def cnn (p1 p2 p3 x y z : Bool) : Bool :=
  (p1 || (x && p2) || (y && p3) || (x && z && p3) || (y && z && p2)) && (p2 || (x && p1) || (z && p3) || (x && y && p3) || (z && y && p1)) && (p3 || (y && p1) || (z && p2) || (y && x && p2) || (z && x && p1))
def ckG (E : Nat → Nat → Bool) (f1 f2 f3 : Bool) : Bool :=
  cnn (!f1 || (E 1 0 || (!f2 && E 1 2) || (!f3 && E 1 3))) (!f2 || (E 2 0 || (!f1 && E 2 1) || (!f3 && E 2 3))) (!f3 || (E 3 0 || (!f1 && E 3 1) || (!f2 && E 3 2))) (f1 && f2 && E 1 2) (f1 && f3 && E 1 3) (f2 && f3 && E 2 3)
def ckW (E : Nat → Nat → Bool) : Nat → Nat → Bool := wk 3 (wk 2 (wk 1 (wk 0 E)))
def ckL (E : Nat → Nat → Bool) : Bool := ckG E (frE (ckW E) 1) (frE (ckW E) 2) (frE (ckW E) 3)
theorem ck_all : ∀ e00 e11 e22 e33 e01 e02 e03 e12 e13 e23 : Bool, ckL (ckE e00 e11 e22 e33 e01 e02 e03 e12 e13 e23) = true := by decide +kernel
theorem ckE_eg (h : Nat → Nat) (a b : Nat) (ha : a < 4) (hb : b < 4) : ckE (eg h 0 0) (eg h 1 1) (eg h 2 2) (eg h 3 3) (eg h 0 1) (eg h 0 2) (eg h 0 3) (eg h 1 2) (eg h 1 3) (eg h 2 3) a b = eg h a b := by
  match a, b, ha, hb with
  | 0, 0, _, _ => rfl
  | 1, 1, _, _ => rfl
  | 2, 2, _, _ => rfl
  | 3, 3, _, _ => rfl
  | 0, 1, _, _ => rfl
  | 0, 2, _, _ => rfl
  | 0, 3, _, _ => rfl
  | 1, 2, _, _ => rfl
  | 1, 3, _, _ => rfl
  | 2, 3, _, _ => rfl
  | 1, 0, _, _ => exact eg_symm h 0 1
  | 2, 0, _, _ => exact eg_symm h 0 2
  | 3, 0, _, _ => exact eg_symm h 0 3
  | 2, 1, _, _ => exact eg_symm h 1 2
  | 3, 1, _, _ => exact eg_symm h 1 3
  | 3, 2, _, _ => exact eg_symm h 2 3
theorem wk_cg2 {k : Nat} {w w' : Nat → Nat → Bool} (hk : k < 4) (h : ∀ a b, a < 4 → b < 4 → w a b = w' a b) (a b : Nat) (ha : a < 4) (hb : b < 4) : wk k w a b = wk k w' a b := by
  unfold wk
  rw [h a b ha hb, h a k ha hk, h k b hk hb]
theorem ground (h : Nat → Nat) : ckG (eg h) (fre h 1) (fre h 2) (fre h 3) = true := by
  have k1 := ck_all (eg h 0 0) (eg h 1 1) (eg h 2 2) (eg h 3 3) (eg h 0 1) (eg h 0 2) (eg h 0 3) (eg h 1 2) (eg h 1 3) (eg h 2 3)
  have k2 := ckE_eg h
  generalize ckE (eg h 0 0) (eg h 1 1) (eg h 2 2) (eg h 3 3) (eg h 0 1) (eg h 0 2) (eg h 0 3) (eg h 1 2) (eg h 1 3) (eg h 2 3) = E at k1 k2
  have k3 : ∀ a b, a < 4 → b < 4 → ckW E a b = con h a b := wk_cg2 (by decide) (wk_cg2 (by decide) (wk_cg2 (by decide) (wk_cg2 (by decide) k2)))
  have k4 : ∀ m, m < 4 → frE (ckW E) m = fre h m := by
    intro m hm
    unfold frE fre lbE lb
    rw [k3 m 0 hm (by decide), k3 m 1 hm (by decide), k3 m 2 hm (by decide), k3 m 3 hm (by decide)]
  unfold ckL ckG at k1
  rw [k4 1 (by decide), k4 2 (by decide), k4 3 (by decide), k2 1 0 (by decide) (by decide), k2 1 2 (by decide) (by decide), k2 1 3 (by decide) (by decide), k2 2 0 (by decide) (by decide), k2 2 1 (by decide) (by decide), k2 2 3 (by decide) (by decide), k2 3 0 (by decide) (by decide), k2 3 1 (by decide) (by decide), k2 3 2 (by decide) (by decide)] at k1
  exact k1
