/-! the rows as whole numbers; all principal minors are above 0 -/
def Mz (h : Nat → Nat) (n k : Nat) : Int := if fre h (k / 3 + 1) && fre h (k % 3 + 1) then (if k / 3 = k % 3 then (dN h (k / 3 + 1) n : Int) else - (wN h (k / 3 + 1) (k % 3 + 1) n : Int)) else if k / 3 = k % 3 then 1 else 0
theorem inF_e {h : Nat → Nat} {f s i : Nat} : inF h f s i = ((h s).testBit (i + 1) && f.testBit (i + 1)) := Nat.testBit_and _ _ _
theorem rst_v {h : Nat → Nat} {f s i k : Nat} {S g : Nat → Int64} : rst h f S s i g k = if k / 3 = i ∧ inF h f s i = true then (if k / 3 = k % 3 then g k + 12 else g k) - psh h f S s (k % 3) else g k := by
  unfold rst
  cases q : inF h f s i with
  | false => rw [if_pos rfl, if_neg (by simp)]
  | true =>
    rw [if_neg (by simp)]
    by_cases e : k / 3 = i
    · subst e
      have e2 : (k = 3 * (k / 3) + k / 3) = (k / 3 = k % 3) := propext ⟨fun _ => by omega, fun _ => by omega⟩
      simp only [e2, ↓reduceIte, and_self]
    · simp only [e, ↓reduceIte, false_and]
theorem rI_v {h : Nat → Nat} {f s k : Nat} {S g : Nat → Int64} (hk : k < 9) : rI h f S s g 3 k = if inF h f s (k / 3) = true then (if k / 3 = k % 3 then g k + 12 else g k) - psh h f S s (k % 3) else g k := by
  show rst h f S s 2 (rst h f S s 1 (rst h f S s 0 g)) k = _
  have e : k / 3 = 0 ∨ k / 3 = 1 ∨ k / 3 = 2 := by omega
  rcases e with e | e | e
  · simp [rst_v, e]
  · simp [rst_v, e]
  · simp [rst_v, e]
theorem dN_s (h : Nat → Nat) (a n : Nat) : dN h a (n + 1) = dN h a n + (if (h n).testBit a then 12 - shr (h n) else 0) := rfl
theorem wN_s (h : Nat → Nat) (a b n : Nat) : wN h a b (n + 1) = wN h a b n + (if (h n).testBit a && (h n).testBit b then shr (h n) else 0) := rfl
theorem dnb {n : Nat} {b : Bool} (h : (n = 0) = (b = false)) : decide (n ≠ 0) = b := by
  cases b with
  | false => have q : n = 0 := h.mpr rfl; simp [q]
  | true => have q : ¬ n = 0 := fun q => by rw [h] at q; cases q
            simp [q]
theorem rS_z {c : Nat → Int32} {S : Nat → Int64} (hS : ∀ s, s < 12 → S s = zL (shr (hnd c s) : Nat)) : ∀ n, n ≤ 12 → ∀ k, k < 9 → rS (hnd c) (fC c) S n k = zL (Mz (hnd c) n k)
  | 0, _, k, hk => by
    show rw0 (fC c) k = _
    unfold rw0 Mz dN wN
    rw [fC_bit c (by omega)]
    by_cases e : k / 3 = k % 3
    · rw [← e]
      cases fre (hnd c) (k / 3 + 1) <;> simp [zL_0, zL_1]
    · cases fre (hnd c) (k / 3 + 1) <;> cases fre (hnd c) (k % 3 + 1) <;> simp [e, zL_0]
  | n + 1, hn, k, hk => by
    have ih := rS_z hS n (by omega) k hk
    show rI (hnd c) (fC c) S n (rS (hnd c) (fC c) S n) 3 k = _
    rw [rI_v hk, ih]
    unfold psh
    rw [inF_e, inF_e, fC_bit c (by omega), fC_bit c (by omega), hS n (by omega)]
    have hsh : ∀ a, a < 4 → (hnd c n).testBit a = true → shr (hnd c n) ≤ 12 := fun a ha q => (shr_f _ (hnd_lt c n) a ha q).2.1
    unfold Mz
    rw [dN_s, wN_s]
    by_cases e : k / 3 = k % 3
    · rw [← e]
      cases hf : fre (hnd c) (k / 3 + 1)
      · simp
      · cases ht : (hnd c n).testBit (k / 3 + 1)
        · simp
        · have := hsh _ (by omega) ht
          simp only [Bool.and_self, ↓reduceIte, zL_12, zL_add, zL_sub]
          congr 1
          omega
    · cases hf : fre (hnd c) (k / 3 + 1)
      · simp [e]
      · cases hf2 : fre (hnd c) (k % 3 + 1)
        · cases ht : (hnd c n).testBit (k / 3 + 1)
          · simp [e]
          · simp [e]
        · cases ht : (hnd c n).testBit (k / 3 + 1)
          · simp [e]
          · cases ht2 : (hnd c n).testBit (k % 3 + 1)
            · simp [e]
            · simp only [Bool.and_self, ↓reduceIte, e, zL_sub]
              congr 1
              omega
set_option maxHeartbeats 4000000 in
theorem pd {g1 g2 g3 x y z : Nat} (hc : cnn (decide (g1 ≠ 0)) (decide (g2 ≠ 0)) (decide (g3 ≠ 0)) (decide (x ≠ 0)) (decide (y ≠ 0)) (decide (z ≠ 0)) = true) :
    0 < g1 + x + y ∧ 0 < g2 + x + z ∧ 0 < g3 + y + z ∧ 0 < (g1 + y) * (g2 + z) + x * (g1 + y + g2 + z) ∧ 0 < (g1 + x) * (g3 + z) + y * (g1 + x + g3 + z) ∧ 0 < (g2 + x) * (g3 + y) + z * (g2 + x + g3 + y) ∧
    0 < g1 * g2 * g3 + g1 * g2 * (y + z) + g1 * g3 * (x + z) + g2 * g3 * (x + y) + (g1 + g2 + g3) * (x * y + x * z + y * z) := by
  simp only [Nat.pos_iff_ne_zero]
  by_cases a1 : g1 = 0 <;> by_cases a2 : g2 = 0 <;> by_cases a3 : g3 = 0 <;> by_cases a4 : x = 0 <;> by_cases a5 : y = 0 <;> by_cases a6 : z = 0 <;> simp [a1, a2, a3, a4, a5, a6, cnn, Nat.mul_eq_zero, Nat.add_eq_zero_iff] at hc ⊢
/-- the rows by weights: ground, edges -/
theorem Mz_w {h : Nat → Nat} (hh : ∀ s, s < 12 → h s < 16) : ∃ g1 g2 g3 x y z : Nat, cnn (decide (g1 ≠ 0)) (decide (g2 ≠ 0)) (decide (g3 ≠ 0)) (decide (x ≠ 0)) (decide (y ≠ 0)) (decide (z ≠ 0)) = true ∧
    (Mz h 12 0 = g1 + x + y ∧ Mz h 12 1 = -x ∧ Mz h 12 2 = -y ∧ Mz h 12 3 = -x ∧ Mz h 12 4 = g2 + x + z ∧ Mz h 12 5 = -z ∧ Mz h 12 6 = -y ∧ Mz h 12 7 = -z ∧ Mz h 12 8 = g3 + y + z) ∧ g1 + x + y ≤ 108 ∧ g2 + x + z ≤ 108 ∧ g3 + y + z ≤ 108 := by
  have d1 := dN_sum hh (a := 1) (by decide) 12 (Nat.le_refl _)
  have d2 := dN_sum hh (a := 2) (by decide) 12 (Nat.le_refl _)
  have d3 := dN_sum hh (a := 3) (by decide) 12 (Nat.le_refl _)
  have b1 := dN_le hh (a := 1) (by decide) 12 (Nat.le_refl _)
  have b2 := dN_le hh (a := 2) (by decide) 12 (Nat.le_refl _)
  have b3 := dN_le hh (a := 3) (by decide) 12 (Nat.le_refl _)
  have s21 := wN_symm h 2 1 12
  have s31 := wN_symm h 3 1 12
  have s32 := wN_symm h 3 2 12
  have e10 := wN_eg hh (a := 1) (b := 0) (by decide)
  have e20 := wN_eg hh (a := 2) (b := 0) (by decide)
  have e30 := wN_eg hh (a := 3) (b := 0) (by decide)
  have e12 := wN_eg hh (a := 1) (b := 2) (by decide)
  have e13 := wN_eg hh (a := 1) (b := 3) (by decide)
  have e23 := wN_eg hh (a := 2) (b := 3) (by decide)
  have gr := ground h
  unfold ckG at gr
  rw [eg_symm h 2 1, eg_symm h 3 1, eg_symm h 3 2] at gr
  refine ⟨if fre h 1 then wN h 1 0 12 + (if fre h 2 then 0 else wN h 1 2 12) + (if fre h 3 then 0 else wN h 1 3 12) else 1, if fre h 2 then wN h 2 0 12 + (if fre h 1 then 0 else wN h 1 2 12) + (if fre h 3 then 0 else wN h 2 3 12) else 1, if fre h 3 then wN h 3 0 12 + (if fre h 1 then 0 else wN h 1 3 12) + (if fre h 2 then 0 else wN h 2 3 12) else 1, if fre h 1 && fre h 2 then wN h 1 2 12 else 0, if fre h 1 && fre h 3 then wN h 1 3 12 else 0, if fre h 2 && fre h 3 then wN h 2 3 12 else 0, ?_, ?_, ?_, ?_, ?_⟩
  · refine Eq.trans ?_ gr
    have n10 : decide (wN h 1 0 12 ≠ 0) = eg h 1 0 := dnb e10
    have n20 : decide (wN h 2 0 12 ≠ 0) = eg h 2 0 := dnb e20
    have n30 : decide (wN h 3 0 12 ≠ 0) = eg h 3 0 := dnb e30
    have n12 : decide (wN h 1 2 12 ≠ 0) = eg h 1 2 := dnb e12
    have n13 : decide (wN h 1 3 12 ≠ 0) = eg h 1 3 := dnb e13
    have n23 : decide (wN h 2 3 12 ≠ 0) = eg h 2 3 := dnb e23
    rw [← n10, ← n20, ← n30, ← n12, ← n13, ← n23]
    clear d1 d2 d3 b1 b2 b3 s21 s31 s32 e10 e20 e30 e12 e13 e23 gr n10 n20 n30 n12 n13 n23
    generalize wN h 1 0 12 = a
    generalize wN h 2 0 12 = b
    generalize wN h 3 0 12 = c
    generalize wN h 1 2 12 = d
    generalize wN h 1 3 12 = e
    generalize wN h 2 3 12 = f
    have ad : ∀ p q : Nat, decide (p + q ≠ 0) = (decide (p ≠ 0) || decide (q ≠ 0)) := by
      intro p q
      rw [← Bool.decide_or, decide_eq_decide]
      omega
    cases fre h 1 <;> cases fre h 2 <;> cases fre h 3 <;> simp [ad, Bool.or_assoc]
  · unfold Mz
    simp only [Nat.reduceDiv, Nat.reduceMod, Nat.reduceAdd]
    cases fre h 1 <;> cases fre h 2 <;> cases fre h 3 <;> simp [s21, s31, s32] <;> omega
  · cases fre h 1 <;> cases fre h 2 <;> cases fre h 3 <;> simp <;> omega
  · cases fre h 1 <;> cases fre h 2 <;> cases fre h 3 <;> simp <;> omega
  · cases fre h 1 <;> cases fre h 2 <;> cases fre h 3 <;> simp <;> omega
def cofZ (R : Nat → Int) (i j : Nat) : Int := R (3 * ((i + 1) % 3) + (j + 1) % 3) * R (3 * ((i + 2) % 3) + (j + 2) % 3) - R (3 * ((i + 1) % 3) + (j + 2) % 3) * R (3 * ((i + 2) % 3) + (j + 1) % 3)
def whZ (R : Nat → Int) : Int := R 0 * cofZ R 0 0 + R 1 * cofZ R 0 1 + R 2 * cofZ R 0 2
def solZ (R p : Nat → Int) (m : Nat) : Int := if m = 0 then 0 else cofZ R (m - 1) 0 * p 0 + cofZ R (m - 1) 1 * p 1 + cofZ R (m - 1) 2 * p 2
/-- a symmetric matrix of three rows, its principal minors above 0, none of its numbers large -/
def PD (R : Nat → Int) : Prop := (R 3 = R 1 ∧ R 6 = R 2 ∧ R 7 = R 5) ∧ (0 < R 0 ∧ 0 < R 4 ∧ 0 < R 8) ∧ (0 < R 0 * R 4 - R 1 * R 1 ∧ 0 < R 0 * R 8 - R 2 * R 2 ∧ 0 < R 4 * R 8 - R 5 * R 5) ∧ 0 < whZ R ∧ (R 0 ≤ 108 ∧ R 4 ≤ 108 ∧ R 8 ≤ 108) ∧ (-108 ≤ R 1 ∧ R 1 ≤ 0 ∧ -108 ≤ R 2 ∧ R 2 ≤ 0 ∧ -108 ≤ R 5 ∧ R 5 ≤ 0)
theorem Mz_PD {h : Nat → Nat} (hh : ∀ s, s < 12 → h s < 16) : PD (Mz h 12) := by
  obtain ⟨g1, g2, g3, x, y, z, hc, ⟨m0, m1, m2, m3, m4, m5, m6, m7, m8⟩, l1, l2, l3⟩ := Mz_w hh
  obtain ⟨p1, p2, p3, p4, p5, p6, p7⟩ := pd hc
  have q4 : (0 : Int) < (((g1 + y) * (g2 + z) + x * (g1 + y + g2 + z) : Nat) : Int) := by omega
  have q5 : (0 : Int) < (((g1 + x) * (g3 + z) + y * (g1 + x + g3 + z) : Nat) : Int) := by omega
  have q6 : (0 : Int) < (((g2 + x) * (g3 + y) + z * (g2 + x + g3 + y) : Nat) : Int) := by omega
  have q7 : (0 : Int) < ((g1 * g2 * g3 + g1 * g2 * (y + z) + g1 * g3 * (x + z) + g2 * g3 * (x + y) + (g1 + g2 + g3) * (x * y + x * z + y * z) : Nat) : Int) := by omega
  simp only [Int.natCast_add, Int.natCast_mul] at q4 q5 q6 q7
  unfold PD whZ cofZ
  simp only [Nat.reduceDiv, Nat.reduceMod, Nat.reduceAdd, Nat.reduceMul]
  rw [m0, m1, m2, m3, m4, m5, m6, m7, m8]
  refine ⟨⟨rfl, rfl, rfl⟩, ⟨by omega, by omega, by omega⟩, ⟨?_, ?_, ?_⟩, ?_, ⟨by omega, by omega, by omega⟩, by omega, by omega, by omega, by omega, by omega, by omega⟩
  · have e : ((g1 : Int) + x + y) * (g2 + x + z) - -x * -x = (g1 + y) * (g2 + z) + x * (g1 + y + g2 + z) := by grind
    rw [e]; exact q4
  · have e : ((g1 : Int) + x + y) * (g3 + y + z) - -y * -y = (g1 + x) * (g3 + z) + y * (g1 + x + g3 + z) := by grind
    rw [e]; exact q5
  · have e : ((g2 : Int) + x + z) * (g3 + y + z) - -z * -z = (g2 + x) * (g3 + y) + z * (g2 + x + g3 + y) := by grind
    rw [e]; exact q6
  · have e : ((g1 : Int) + x + y) * (((g2 : Int) + x + z) * (g3 + y + z) - -z * -z) + -x * (-z * -y - -x * (g3 + y + z)) + -y * (-x * -z - (g2 + x + z) * -y) = g1 * g2 * g3 + g1 * g2 * (y + z) + g1 * g3 * (x + z) + g2 * g3 * (x + y) + (g1 + g2 + g3) * (x * y + x * z + y * z) := by grind
    rw [e]; exact q7
