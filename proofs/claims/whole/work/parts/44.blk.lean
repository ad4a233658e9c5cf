/-! a block of the rows: the reference solves the block of one bundle, the class all rows at once -/
def ovZ (T : Nat → Nat → Int) (n : Nat) : Int := if n = 0 then 1 else if n = 1 then T 0 0 else if n = 2 then T 0 0 * T 1 1 - T 0 1 * T 1 0 else T 0 0 * (T 1 1 * T 2 2 - T 1 2 * T 2 1) - T 0 1 * (T 1 0 * T 2 2 - T 1 2 * T 2 0) + T 0 2 * (T 1 0 * T 2 1 - T 1 1 * T 2 0)
def lvZ (T : Nat → Nat → Int) (F : Nat → Int) (n r : Nat) : Int := if n = 1 then F 0 else if n = 2 then (if r = 0 then F 0 * T 1 1 - F 1 * T 0 1 else T 0 0 * F 1 - T 1 0 * F 0) else if r = 0 then F 0 * (T 1 1 * T 2 2 - T 1 2 * T 2 1) - T 0 1 * (F 1 * T 2 2 - T 1 2 * F 2) + T 0 2 * (F 1 * T 2 1 - T 1 1 * F 2) else if r = 1 then T 0 0 * (F 1 * T 2 2 - T 1 2 * F 2) - F 0 * (T 1 0 * T 2 2 - T 1 2 * T 2 0) + T 0 2 * (T 1 0 * F 2 - F 1 * T 2 0) else T 0 0 * (T 1 1 * F 2 - F 1 * T 2 1) - T 0 1 * (T 1 0 * F 2 - F 1 * T 2 0) + F 0 * (T 1 0 * T 2 1 - T 1 1 * T 2 0)
set_option maxHeartbeats 4000000 in
theorem core {R p : Nat → Int} (hR : PD R) {n : Nat} {q : Nat → Nat} (hn : n ≤ 3) (hq : ∀ r, r < n → q r < 3) (hi : ∀ r, r + 1 < n → q r < q (r + 1)) (hz : ∀ r, r < n → ∀ j, j < 3 → (∀ r', r' < n → q r' ≠ j) → R (3 * q r + j) = 0) :
    ∃ K, 0 < K ∧ 0 < ovZ (fun r c => R (3 * q r + q c)) n ∧ whZ R = K * ovZ (fun r c => R (3 * q r + q c)) n ∧ ∀ r, r < n → solZ R p (q r + 1) = K * lvZ (fun r c => R (3 * q r + q c)) (fun r => p (q r)) n r := by
  obtain ⟨⟨s3, s6, s7⟩, ⟨d0, d4, d8⟩, ⟨m1, m2, m3⟩, hw, -, -⟩ := hR
  match n, hn with
  | 0, _ => exact ⟨whZ R, hw, Int.zero_lt_one, (Int.mul_one _).symm, fun r hr => by omega⟩
  | 1, _ =>
    have q0 := hq 0 (by omega)
    have z := hz 0 (by omega)
    have e : q 0 = 0 ∨ q 0 = 1 ∨ q 0 = 2 := by omega
    rcases e with e | e | e
    · have z1 := z 1 (by omega) (fun r' hr' => by have : r' = 0 := by omega
                                                  subst this; omega)
      have z2 := z 2 (by omega) (fun r' hr' => by have : r' = 0 := by omega
                                                  subst this; omega)
      rw [e] at z1 z2
      simp only [Nat.reduceAdd, Nat.reduceMul] at z1 z2
      refine ⟨R 4 * R 8 - R 5 * R 5, m3, ?_, ?_, ?_⟩
      · simp only [ovZ, e, ↓reduceIte, Nat.reduceEqDiff, Nat.one_ne_zero, Nat.reduceAdd, Nat.reduceMul]; exact d0
      · simp only [ovZ, whZ, cofZ, e, ↓reduceIte, Nat.reduceEqDiff, Nat.one_ne_zero, Nat.reduceAdd, Nat.reduceMul, Nat.reduceMod, s3, s6, s7, z1, z2]; grind
      · intro r hr
        have : r = 0 := by omega
        subst this
        simp only [lvZ, solZ, cofZ, e, ↓reduceIte, Nat.reduceEqDiff, Nat.one_ne_zero, Nat.reduceAdd, Nat.reduceSub, Nat.reduceMul, Nat.reduceMod, s3, s6, s7, z1, z2]; grind
    · have z1 := z 0 (by omega) (fun r' hr' => by have : r' = 0 := by omega
                                                  subst this; omega)
      have z2 := z 2 (by omega) (fun r' hr' => by have : r' = 0 := by omega
                                                  subst this; omega)
      rw [e] at z1 z2
      simp only [Nat.reduceAdd, Nat.reduceMul] at z1 z2
      rw [s3] at z1
      refine ⟨R 0 * R 8 - R 2 * R 2, m2, ?_, ?_, ?_⟩
      · simp only [ovZ, e, ↓reduceIte, Nat.reduceEqDiff, Nat.one_ne_zero, Nat.reduceAdd, Nat.reduceMul]; exact d4
      · simp only [ovZ, whZ, cofZ, e, ↓reduceIte, Nat.reduceEqDiff, Nat.one_ne_zero, Nat.reduceAdd, Nat.reduceMul, Nat.reduceMod, s3, s6, s7, z1, z2]; grind
      · intro r hr
        have : r = 0 := by omega
        subst this
        simp only [lvZ, solZ, cofZ, e, ↓reduceIte, Nat.reduceEqDiff, Nat.one_ne_zero, Nat.reduceAdd, Nat.reduceSub, Nat.reduceMul, Nat.reduceMod, s3, s6, s7, z1, z2]; grind
    · have z1 := z 0 (by omega) (fun r' hr' => by have : r' = 0 := by omega
                                                  subst this; omega)
      have z2 := z 1 (by omega) (fun r' hr' => by have : r' = 0 := by omega
                                                  subst this; omega)
      rw [e] at z1 z2
      simp only [Nat.reduceAdd, Nat.reduceMul] at z1 z2
      rw [s6] at z1
      rw [s7] at z2
      refine ⟨R 0 * R 4 - R 1 * R 1, m1, ?_, ?_, ?_⟩
      · simp only [ovZ, e, ↓reduceIte, Nat.reduceEqDiff, Nat.one_ne_zero, Nat.reduceAdd, Nat.reduceMul]; exact d8
      · simp only [ovZ, whZ, cofZ, e, ↓reduceIte, Nat.reduceEqDiff, Nat.one_ne_zero, Nat.reduceAdd, Nat.reduceMul, Nat.reduceMod, s3, s6, s7, z1, z2]; grind
      · intro r hr
        have : r = 0 := by omega
        subst this
        simp only [lvZ, solZ, cofZ, e, ↓reduceIte, Nat.reduceEqDiff, Nat.one_ne_zero, Nat.reduceAdd, Nat.reduceSub, Nat.reduceMul, Nat.reduceMod, s3, s6, s7, z1, z2]; grind
  | 2, _ =>
    have q0 := hq 0 (by omega)
    have q1 := hq 1 (by omega)
    have i0 : q 0 < q 1 := hi 0 (by omega)
    have nn : ∀ {j : Nat}, q 0 ≠ j → q 1 ≠ j → ∀ r', r' < 2 → q r' ≠ j := by
      intro j h0 h1 r' hr'
      have : r' = 0 ∨ r' = 1 := by omega
      rcases this with t | t <;> subst t <;> assumption
    have e : (q 0 = 0 ∧ q 1 = 1) ∨ (q 0 = 0 ∧ q 1 = 2) ∨ (q 0 = 1 ∧ q 1 = 2) := by omega
    rcases e with ⟨e, e1⟩ | ⟨e, e1⟩ | ⟨e, e1⟩
    · have z1 := hz 0 (by omega) 2 (by omega) (nn (by omega) (by omega))
      have z2 := hz 1 (by omega) 2 (by omega) (nn (by omega) (by omega))
      rw [e] at z1
      rw [e1] at z2
      simp only [Nat.reduceAdd, Nat.reduceMul] at z1 z2
      refine ⟨R 8, d8, ?_, ?_, ?_⟩
      · simp only [ovZ, e, e1, ↓reduceIte, Nat.reduceEqDiff, Nat.reduceAdd, Nat.reduceMul, s3]; exact m1
      · simp only [ovZ, whZ, cofZ, e, e1, ↓reduceIte, Nat.reduceEqDiff, Nat.reduceAdd, Nat.reduceMul, Nat.reduceMod, s3, s6, s7, z1, z2]; grind
      · intro r hr
        have : r = 0 ∨ r = 1 := by omega
        rcases this with t | t <;> subst t <;> simp only [lvZ, solZ, cofZ, e, e1, ↓reduceIte, Nat.reduceEqDiff, Nat.one_ne_zero, Nat.reduceAdd, Nat.reduceSub, Nat.reduceMul, Nat.reduceMod, s3, s6, s7, z1, z2] <;> grind
    · have z1 := hz 0 (by omega) 1 (by omega) (nn (by omega) (by omega))
      have z2 := hz 1 (by omega) 1 (by omega) (nn (by omega) (by omega))
      rw [e] at z1
      rw [e1] at z2
      simp only [Nat.reduceAdd, Nat.reduceMul] at z1 z2
      rw [s7] at z2
      refine ⟨R 4, d4, ?_, ?_, ?_⟩
      · simp only [ovZ, e, e1, ↓reduceIte, Nat.reduceEqDiff, Nat.reduceAdd, Nat.reduceMul, s6]; exact m2
      · simp only [ovZ, whZ, cofZ, e, e1, ↓reduceIte, Nat.reduceEqDiff, Nat.reduceAdd, Nat.reduceMul, Nat.reduceMod, s3, s6, s7, z1, z2]; grind
      · intro r hr
        have : r = 0 ∨ r = 1 := by omega
        rcases this with t | t <;> subst t <;> simp only [lvZ, solZ, cofZ, e, e1, ↓reduceIte, Nat.reduceEqDiff, Nat.one_ne_zero, Nat.reduceAdd, Nat.reduceSub, Nat.reduceMul, Nat.reduceMod, s3, s6, s7, z1, z2] <;> grind
    · have z1 := hz 0 (by omega) 0 (by omega) (nn (by omega) (by omega))
      have z2 := hz 1 (by omega) 0 (by omega) (nn (by omega) (by omega))
      rw [e] at z1
      rw [e1] at z2
      simp only [Nat.reduceAdd, Nat.reduceMul] at z1 z2
      rw [s3] at z1
      rw [s6] at z2
      refine ⟨R 0, d0, ?_, ?_, ?_⟩
      · simp only [ovZ, e, e1, ↓reduceIte, Nat.reduceEqDiff, Nat.reduceAdd, Nat.reduceMul, s7]; exact m3
      · simp only [ovZ, whZ, cofZ, e, e1, ↓reduceIte, Nat.reduceEqDiff, Nat.reduceAdd, Nat.reduceMul, Nat.reduceMod, s3, s6, s7, z1, z2]; grind
      · intro r hr
        have : r = 0 ∨ r = 1 := by omega
        rcases this with t | t <;> subst t <;> simp only [lvZ, solZ, cofZ, e, e1, ↓reduceIte, Nat.reduceEqDiff, Nat.one_ne_zero, Nat.reduceAdd, Nat.reduceSub, Nat.reduceMul, Nat.reduceMod, s3, s6, s7, z1, z2] <;> grind
  | 3, _ =>
    have q0 := hq 0 (by omega)
    have q2 := hq 2 (by omega)
    have i0 : q 0 < q 1 := hi 0 (by omega)
    have i1 : q 1 < q 2 := hi 1 (by omega)
    have e : q 0 = 0 := by omega
    have e1 : q 1 = 1 := by omega
    have e2 : q 2 = 2 := by omega
    have ew : whZ R = ovZ (fun r c => R (3 * q r + q c)) 3 := by
      simp only [ovZ, whZ, cofZ, e, e1, e2, ↓reduceIte, Nat.reduceEqDiff, Nat.reduceAdd, Nat.reduceMul, Nat.reduceMod, s3, s6, s7]; grind
    refine ⟨1, by decide, ?_, ?_, ?_⟩
    · rw [← ew]; exact hw
    · rw [← ew, Int.one_mul]
    · intro r hr
      have : r = 0 ∨ r = 1 ∨ r = 2 := by omega
      rcases this with t | t | t <;> subst t <;> simp only [lvZ, solZ, cofZ, e, e1, e2, ↓reduceIte, Nat.reduceEqDiff, Nat.one_ne_zero, Nat.reduceAdd, Nat.reduceSub, Nat.reduceMul, Nat.reduceMod, s3, s6, s7] <;> grind
