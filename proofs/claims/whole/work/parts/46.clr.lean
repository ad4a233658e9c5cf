/-! CONTRACTS: clears (the elimination) -/
def elS (t : Nat → Int64) (k r : Nat) (last : Int64) (c : Nat) : Nat → Int64 := if c = k then t else va_up t (4 * r + c) ((t (4 * r + c) * t (5 * k) - t (4 * r + k) * t (4 * k + c)) / last)
def elR (t : Nat → Int64) (k r : Nat) (last : Int64) : Nat → Int64 := if r = k then t else va_up (elS (elS (elS (elS t k r last 3) k r last 2) k r last 1) k r last 0) (4 * r + k) 0
def elK (t : Nat → Int64) (k : Nat) (last : Int64) : Nat → Nat → Int64
  | 0 => t
  | r + 1 => elR (elK t k last r) k r last
def elN (t : Nat → Int64) (n : Nat) : Nat → (Nat → Int64) × Int64
  | 0 => (t, 1)
  | k + 1 => (elK (elN t n k).1 k (elN t n k).2 n, elK (elN t n k).1 k (elN t n k).2 n (5 * k))
theorem m32 : nI 3 + (-1) = nI 2 := by decide
theorem m21 : nI 2 + (-1) = nI 1 := by decide
theorem m10 : nI 1 + (-1) = nI 0 := by decide
theorem m00 : nI 0 + (-1) = -1 := by decide
theorem mlt : ((-1 : Int32) < 0) = True := by decide
theorem nlt0 {n : Nat} (h : n < 2 ^ 31) : (nI n < 0) = False := eq_false (nI_pos h)
section CLR
variable {I : ab_I} {J : ab_J} {Q : Option Value → ab_I → ab_J → Prop} {x x1 x2 : Int32} {u : Int64}
set_option maxRecDepth 100000 in
theorem k144c {n k r c : Nat} {t : Nat → Int64} {last : Int64} (hk : k < 3) (hr : r < 3) (hc : c < 4) (hrk : r ≠ k) (hl : ¬ last = 0) : At 144 23 [some (.ref 49), some (.int (nI n)), some (.long last), none, some (.int (nI k)), some (.int (nI r)), some (.int (nI c))] [] I (va_up J 59 t) Q ↔ At 144 23 [some (.ref 49), some (.int (nI n)), some (.long last), none, some (.int (nI k)), some (.int (nI r)), some (.int (nI c + (-1)))] [] I (va_up J 59 (elS t k r last c)) Q := by
  have hrk' : ¬ nI r = nI k := by rw [nIeq (by omega) (by omega)]; exact hrk
  rw [k144_23]
  simp (disch := omega) only [k144_25, k144_28, k144_30, k144_32, k144_35, k144_37, k144_39, nlt0, hrk', ↓reduceIte, nIeq]
  unfold elS
  by_cases e : c = k
  · rw [if_pos e, if_pos e]
    simp (disch := omega) only [k144_104, k144_107, Option.toList_some, Option.toList_none, List.cons_append, List.nil_append, nl_i, nl_r, nl_l, nl_n]
  · rw [if_neg e, if_neg e]
    simp (disch := omega) only [k144_0, k144_1, k144_2, k144_3, k144_5, k144_7, k144_8, k144_11, k144_12, k144_14, k144_16, k144_17, k144_20, k144_21, k144_25, k144_28, k144_30, k144_32, k144_35, k144_37, k144_39, k144_42, k144_43, k144_46, k144_47, k144_49, k144_50, k144_52, k144_53, k144_54, k144_57, k144_58, k144_60, k144_61, k144_63, k144_64, k144_65, k144_66, k144_69, k144_70, k144_72, k144_73, k144_74, k144_75, k144_76, k144_79, k144_80, k144_82, k144_83, k144_85, k144_86, k144_87, k144_88, k144_91, k144_92, k144_94, k144_95, k144_97, k144_98, k144_99, k144_100, k144_101, k144_102, k144_103, k144_104, k144_107, k144_110, k144_111, k144_114, k144_115, k144_117, k144_118, k144_120, k144_121, k144_123, k144_125, k144_128, k144_129, k144_132, k144_133, k144_135, k144_136, k144_138, k144_139, k144_140, k144_143, k144_144, k144_145, k144_148, k144_151, k144_152, k144_155, k144_156, k144_158, k144_159, k144_160, k144_161, k144_164, k144_167, Option.toList_some, Option.toList_none, List.cons_append, List.nil_append, nl_i, nl_r, nl_l, nl_n, pk_mul, nI_add, nI_clamp, bnd, ly_59, Nat.reduceLT, true_and, and_true, va_up_s, up_same, hl, not_false_eq_true]
set_option maxRecDepth 100000 in
theorem c144 {n : Nat} (hn : n ≤ 3) (hl : ∀ k, k < n → ¬ (elN (J 59) n k).2 = 0) : Cal 144 [.ref 49, .int (nI n)] I J Q ↔ Q none I (va_up J 59 (elN (J 59) n n).1) := by
  refine Cal_of (fun Q hQ => ?_)
  rw [en144]
  simp only [k144_0, k144_1, k144_2, k144_3, Option.toList_some, Option.toList_none, List.cons_append, List.nil_append, nl_i, nl_r, nl_l, nl_n]
  have key : ∀ a5 a6 : Option Value, At 144 5 [some (.ref 49), some (.int (nI n)), some (.long (elN (J 59) n 0).2), none, some (.int (nI 0)), a5, a6] [] I (va_up J 59 (elN (J 59) n 0).1) Q := by
    refine loop_dn (N := n) (P := fun k => ∀ a5 a6 : Option Value, At 144 5 [some (.ref 49), some (.int (nI n)), some (.long (elN (J 59) n k).2), none, some (.int (nI k)), a5, a6] [] I (va_up J 59 (elN (J 59) n k).1) Q) ?_ ?_
    · intro a5 a6
      rw [k144_5]
      simp (disch := omega) only [k144_7, k144_8, k144_167, nI_leI, Nat.le_refl, ↓reduceIte]
      exact hQ
    · intro k hk ih a5 a6
      have hlk := hl k hk
      have e0 : ¬ n ≤ k := by omega
      rw [k144_5]
      simp (disch := omega) only [k144_7, k144_8, k144_11, k144_12, Option.toList_some, Option.toList_none, List.cons_append, List.nil_append, nl_i, nl_r, nl_l, nl_n, nI_leI, e0, ↓reduceIte]
      have inner : ∀ a6 : Option Value, At 144 14 [some (.ref 49), some (.int (nI n)), some (.long (elN (J 59) n k).2), none, some (.int (nI k)), some (.int (nI 0)), a6] [] I (va_up J 59 (elK (elN (J 59) n k).1 k (elN (J 59) n k).2 0)) Q := by
        refine loop_dn (N := n) (P := fun r => ∀ a6 : Option Value, At 144 14 [some (.ref 49), some (.int (nI n)), some (.long (elN (J 59) n k).2), none, some (.int (nI k)), some (.int (nI r)), a6] [] I (va_up J 59 (elK (elN (J 59) n k).1 k (elN (J 59) n k).2 r)) Q) ?_ ?_
        · intro a6
          rw [k144_14]
          simp (disch := omega) only [k144_16, k144_17, k144_151, k144_152, k144_155, k144_156, k144_158, k144_159, k144_160, k144_161, k144_164, Option.toList_some, Option.toList_none, List.cons_append, List.nil_append, nl_i, nl_r, nl_l, nl_n, nI_leI, Nat.le_refl, ↓reduceIte, pk_mul, nI_add, nI_clamp, bnd, ly_59, Nat.reduceLT, true_and, and_true, va_up_s]
          exact ih _ _
        · intro r hr ih2 a6
          have e1 : ¬ n ≤ r := by omega
          rw [elK, elR] at ih2
          rw [k144_14]
          simp (disch := omega) only [k144_16, k144_17, k144_20, k144_21, Option.toList_some, Option.toList_none, List.cons_append, List.nil_append, nl_i, nl_r, nl_l, nl_n, nI_leI, e1, ↓reduceIte]
          generalize hT : elK (elN (J 59) n k).1 k (elN (J 59) n k).2 r = T at ih2 ⊢
          generalize hLA : (elN (J 59) n k).2 = last at ih2 hlk ih ⊢
          by_cases erk : r = k
          · rw [if_pos erk] at ih2
            subst erk
            rw [k144_23]
            simp (disch := omega) only [k144_25, k144_28, k144_30, k144_32, k144_110, k144_111, k144_114, k144_115, k144_117, k144_118, k144_120, k144_121, k144_123, k144_125, k144_128, k144_129, k144_132, k144_133, k144_135, k144_136, k144_138, k144_139, k144_140, k144_144, k144_145, k144_148, nlt0, ↓reduceIte, not_true_eq_false, Option.toList_some, Option.toList_none, List.cons_append, List.nil_append, nl_i, nl_r, nl_l, nl_n, pk_mul, nI_add, nI_clamp, bnd, ly_59, Nat.reduceLT, true_and, and_true, va_up_s, up_same, up_id]
            exact ih2 _
          · rw [if_neg erk] at ih2
            have hrk' : ¬ nI r = nI k := by rw [nIeq (by omega) (by omega)]; exact erk
            rw [k144c (by omega) (by omega) (by omega) erk hlk, m32, k144c (by omega) (by omega) (by omega) erk hlk, m21, k144c (by omega) (by omega) (by omega) erk hlk, m10, k144c (by omega) (by omega) (by omega) erk hlk, m00, k144_23]
            simp (disch := omega) only [k144_25, mlt, k144_110, k144_111, k144_114, k144_115, k144_117, k144_118, k144_120, k144_121, k144_123, k144_125, k144_143, k144_144, k144_145, k144_148, ↓reduceIte, hrk', not_false_eq_true, Option.toList_some, Option.toList_none, List.cons_append, List.nil_append, nl_i, nl_r, nl_l, nl_n, pk_mul, nI_add, nI_clamp, bnd, ly_59, Nat.reduceLT, true_and, and_true, va_up_s, up_same]
            exact ih2 _
      exact inner _
  rw [show (elN (J 59) n 0).1 = J 59 from rfl, show (elN (J 59) n 0).2 = 1 from rfl, up_id] at key
  exact key _ _
end CLR
/-- amounts are at most .. -/
def bd (a : Int) (A : Nat) : Prop := a.natAbs ≤ A
theorem bd_mul {a b : Int} {A B : Nat} (h1 : bd a A) (h2 : bd b B) : bd (a * b) (A * B) := by
  unfold bd at *
  rw [Int.natAbs_mul]
  exact Nat.mul_le_mul h1 h2
theorem bd_add {a b : Int} {A B : Nat} (h1 : bd a A) (h2 : bd b B) : bd (a + b) (A + B) := by unfold bd at *; omega
theorem bd_sub {a b : Int} {A B : Nat} (h1 : bd a A) (h2 : bd b B) : bd (a - b) (A + B) := by unfold bd at *; omega
theorem bd_neg {a : Int} {A : Nat} (h1 : bd a A) : bd (-a) A := by unfold bd at *; omega
theorem bd_le {a : Int} {A B : Nat} (h1 : bd a A) (h : A ≤ B) : bd a B := Nat.le_trans h1 h
theorem bd_ok {a : Int} {A : Nat} (h1 : bd a A) (h : A < 4611686018427387904) : ok a := by unfold bd at h1; unfold ok; omega
theorem zL_dv {a b q : Int} (e : a = b * q) (hb : b ≠ 0) (oa : ok a) (ob : ok b) : zL a / zL b = zL q := by
  rw [zL_div oa ob, e, Int.mul_tdiv_cancel_left _ hb]
theorem zL_d1 {a : Int} (oa : ok a) : zL a / 1 = zL a := by
  rw [zL_1, zL_div oa (by unfold ok; omega), Int.tdiv_one]
theorem elK3_0 (t : Nat → Int64) (l : Int64) : elK t 0 l 3 0 = t 0 ∧ elK t 0 l 3 1 = t 1 ∧ elK t 0 l 3 2 = t 2 ∧ elK t 0 l 3 3 = t 3 ∧ elK t 0 l 3 4 = 0 ∧ elK t 0 l 3 5 = (t 5 * t 0 - t 4 * t 1) / l ∧ elK t 0 l 3 6 = (t 6 * t 0 - t 4 * t 2) / l ∧ elK t 0 l 3 7 = (t 7 * t 0 - t 4 * t 3) / l ∧ elK t 0 l 3 8 = 0 ∧ elK t 0 l 3 9 = (t 9 * t 0 - t 8 * t 1) / l ∧ elK t 0 l 3 10 = (t 10 * t 0 - t 8 * t 2) / l ∧ elK t 0 l 3 11 = (t 11 * t 0 - t 8 * t 3) / l := by
  simp [elK, elR, elS, va_up]
theorem elK3_1 (t : Nat → Int64) (l : Int64) : elK t 1 l 3 0 = (t 0 * t 5 - t 1 * t 4) / l ∧ elK t 1 l 3 1 = 0 ∧ elK t 1 l 3 2 = (t 2 * t 5 - t 1 * t 6) / l ∧ elK t 1 l 3 3 = (t 3 * t 5 - t 1 * t 7) / l ∧ elK t 1 l 3 4 = t 4 ∧ elK t 1 l 3 5 = t 5 ∧ elK t 1 l 3 6 = t 6 ∧ elK t 1 l 3 7 = t 7 ∧ elK t 1 l 3 8 = (t 8 * t 5 - t 9 * t 4) / l ∧ elK t 1 l 3 9 = 0 ∧ elK t 1 l 3 10 = (t 10 * t 5 - t 9 * t 6) / l ∧ elK t 1 l 3 11 = (t 11 * t 5 - t 9 * t 7) / l := by
  simp [elK, elR, elS, va_up]
theorem elK3_2 (t : Nat → Int64) (l : Int64) : elK t 2 l 3 0 = (t 0 * t 10 - t 2 * t 8) / l ∧ elK t 2 l 3 3 = (t 3 * t 10 - t 2 * t 11) / l ∧ elK t 2 l 3 7 = (t 7 * t 10 - t 6 * t 11) / l ∧ elK t 2 l 3 11 = t 11 := by
  simp [elK, elR, elS, va_up]
theorem elK2_0 (t : Nat → Int64) (l : Int64) : elK t 0 l 2 0 = t 0 ∧ elK t 0 l 2 1 = t 1 ∧ elK t 0 l 2 3 = t 3 ∧ elK t 0 l 2 4 = 0 ∧ elK t 0 l 2 5 = (t 5 * t 0 - t 4 * t 1) / l ∧ elK t 0 l 2 7 = (t 7 * t 0 - t 4 * t 3) / l := by
  simp [elK, elR, elS, va_up]
theorem elK2_1 (t : Nat → Int64) (l : Int64) : elK t 1 l 2 0 = (t 0 * t 5 - t 1 * t 4) / l ∧ elK t 1 l 2 3 = (t 3 * t 5 - t 1 * t 7) / l ∧ elK t 1 l 2 7 = t 7 := by
  simp [elK, elR, elS, va_up]
theorem elK1_0 (t : Nat → Int64) (l : Int64) : elK t 0 l 1 = t := by
  simp [elK, elR]
/-- what the elimination comes to -/
theorem clr_val {t : Nat → Int64} {n : Nat} {T : Nat → Nat → Int} {F : Nat → Int} (hn : n ≤ 3) (hT : ∀ r c, r < n → c < n → t (4 * r + c) = zL (T r c)) (hF : ∀ r, r < n → t (4 * r + 3) = zL (F r)) (bT : ∀ r c, bd (T r c) 108) (bF : ∀ r, bd (F r) 100000)
    (h1 : 1 < n → T 0 0 ≠ 0) (h2 : 2 < n → T 1 1 * T 0 0 - T 1 0 * T 0 1 ≠ 0) : (∀ k, k < n → ¬ (elN t n k).2 = 0) ∧ (0 < n → (elN t n n).1 0 = zL (ovZ T n)) ∧ ∀ r, r < n → (elN t n n).1 (4 * r + 3) = zL (lvZ T F n r) := by
  have bTT : ∀ r c r' c', bd (T r c * T r' c') 11664 := fun r c r' c' => bd_mul (bT r c) (bT r' c')
  have bTF : ∀ r c r', bd (T r c * F r') 10800000 := fun r c r' => bd_mul (bT r c) (bF r')
  have bFT : ∀ r c r', bd (F r' * T r c) 10800000 := fun r c r' => bd_mul (bF r') (bT r c)
  match n, hn with
  | 0, _ => exact ⟨fun k hk => by omega, fun h => by omega, fun r hr => by omega⟩
  | 1, _ =>
    have t0 := hT 0 0 (by omega) (by omega)
    have t3 := hF 0 (by omega)
    refine ⟨fun k hk => ?_, fun _ => ?_, fun r hr => ?_⟩
    · have : k = 0 := by omega
      subst this
      show ¬ (1 : Int64) = 0
      decide
    · show elK t 0 1 1 0 = _
      rw [elK1_0]
      exact t0
    · have : r = 0 := by omega
      subst this
      show elK t 0 1 1 3 = _
      rw [elK1_0]
      exact t3
  | 2, _ =>
    have t0 : t 0 = _ := hT 0 0 (by omega) (by omega)
    have t1 : t 1 = _ := hT 0 1 (by omega) (by omega)
    have t4 : t 4 = _ := hT 1 0 (by omega) (by omega)
    have t5 : t 5 = _ := hT 1 1 (by omega) (by omega)
    have t3 : t 3 = _ := hF 0 (by omega)
    have t7 : t 7 = _ := hF 1 (by omega)
    have n0 := h1 (by omega)
    have o0 : ok (T 0 0) := bd_ok (bT 0 0) (by decide)
    obtain ⟨a0, a1, a3, a4, a5, a7⟩ := elK2_0 t 1
    have c5 : bd (T 1 1 * T 0 0 - T 1 0 * T 0 1) 23328 := bd_sub (bTT ..) (bTT ..)
    have c7 : bd (F 1 * T 0 0 - T 1 0 * F 0) 21600000 := bd_sub (bFT ..) (bTF ..)
    rw [t5, t0, t4, t1, zL_mul, zL_mul, zL_sub, zL_d1 (bd_ok c5 (by decide))] at a5
    rw [t7, t0, t4, t3, zL_mul, zL_mul, zL_sub, zL_d1 (bd_ok c7 (by decide))] at a7
    rw [t0] at a0
    rw [t1] at a1
    rw [t3] at a3
    obtain ⟨b0, b3, b7⟩ := elK2_1 (elK t 0 1 2) (zL (T 0 0))
    have g0 : bd (T 0 0 * (T 1 1 * T 0 0 - T 1 0 * T 0 1) - T 0 1 * 0) (108 * 23328 + 108 * 0) := bd_sub (bd_mul (bT 0 0) c5) (bd_mul (bT 0 1) (Nat.le_refl 0))
    have g3 : bd (F 0 * (T 1 1 * T 0 0 - T 1 0 * T 0 1) - T 0 1 * (F 1 * T 0 0 - T 1 0 * F 0)) (100000 * 23328 + 108 * 21600000) := bd_sub (bd_mul (bF 0) c5) (bd_mul (bT 0 1) c7)
    rw [a0, a5, a1, a4, zL_0, zL_mul, zL_mul, zL_sub, zL_dv (q := T 0 0 * T 1 1 - T 0 1 * T 1 0) (by grind) n0 (bd_ok g0 (by decide)) o0] at b0
    rw [a3, a5, a1, a7, zL_mul, zL_mul, zL_sub, zL_dv (q := F 0 * T 1 1 - F 1 * T 0 1) (by grind) n0 (bd_ok g3 (by decide)) o0] at b3
    rw [a7] at b7
    refine ⟨fun k hk => ?_, fun _ => ?_, fun r hr => ?_⟩
    · have : k = 0 ∨ k = 1 := by omega
      rcases this with e | e <;> subst e
      · show ¬ (1 : Int64) = 0
        decide
      · show ¬ elK t 0 1 2 0 = 0
        rw [a0, zL_0, zL_eq o0 ok_0]
        exact n0
    · show elK (elK t 0 1 2) 1 (elK t 0 1 2 0) 2 0 = _
      rw [a0]
      refine Eq.trans b0 ?_
      congr 1
    · have : r = 0 ∨ r = 1 := by omega
      rcases this with e | e <;> subst e
      · show elK (elK t 0 1 2) 1 (elK t 0 1 2 0) 2 3 = _
        rw [a0]
        refine Eq.trans b3 ?_
        congr 1
      · show elK (elK t 0 1 2) 1 (elK t 0 1 2 0) 2 7 = _
        rw [a0]
        refine Eq.trans b7 ?_
        congr 1
        simp only [lvZ, ↓reduceIte, Nat.reduceEqDiff, Nat.one_ne_zero]
        grind
  | 3, _ =>
    have t0 : t 0 = _ := hT 0 0 (by omega) (by omega)
    have t1 : t 1 = _ := hT 0 1 (by omega) (by omega)
    have t2 : t 2 = _ := hT 0 2 (by omega) (by omega)
    have t4 : t 4 = _ := hT 1 0 (by omega) (by omega)
    have t5 : t 5 = _ := hT 1 1 (by omega) (by omega)
    have t6 : t 6 = _ := hT 1 2 (by omega) (by omega)
    have t8 : t 8 = _ := hT 2 0 (by omega) (by omega)
    have t9 : t 9 = _ := hT 2 1 (by omega) (by omega)
    have t10 : t 10 = _ := hT 2 2 (by omega) (by omega)
    have t3 : t 3 = _ := hF 0 (by omega)
    have t7 : t 7 = _ := hF 1 (by omega)
    have t11 : t 11 = _ := hF 2 (by omega)
    have n0 := h1 (by omega)
    have nm := h2 (by omega)
    have o0 : ok (T 0 0) := bd_ok (bT 0 0) (by decide)
    obtain ⟨a0, a1, a2, a3, a4, a5, a6, a7, a8, a9, a10, a11⟩ := elK3_0 t 1
    have c5 : bd (T 1 1 * T 0 0 - T 1 0 * T 0 1) 23328 := bd_sub (bTT ..) (bTT ..)
    have c6 : bd (T 1 2 * T 0 0 - T 1 0 * T 0 2) 23328 := bd_sub (bTT ..) (bTT ..)
    have c7 : bd (F 1 * T 0 0 - T 1 0 * F 0) 21600000 := bd_sub (bFT ..) (bTF ..)
    have c9 : bd (T 2 1 * T 0 0 - T 2 0 * T 0 1) 23328 := bd_sub (bTT ..) (bTT ..)
    have c10 : bd (T 2 2 * T 0 0 - T 2 0 * T 0 2) 23328 := bd_sub (bTT ..) (bTT ..)
    have c11 : bd (F 2 * T 0 0 - T 2 0 * F 0) 21600000 := bd_sub (bFT ..) (bTF ..)
    rw [t5, t0, t4, t1, zL_mul, zL_mul, zL_sub, zL_d1 (bd_ok c5 (by decide))] at a5
    rw [t6, t0, t4, t2, zL_mul, zL_mul, zL_sub, zL_d1 (bd_ok c6 (by decide))] at a6
    rw [t7, t0, t4, t3, zL_mul, zL_mul, zL_sub, zL_d1 (bd_ok c7 (by decide))] at a7
    rw [t9, t0, t8, t1, zL_mul, zL_mul, zL_sub, zL_d1 (bd_ok c9 (by decide))] at a9
    rw [t10, t0, t8, t2, zL_mul, zL_mul, zL_sub, zL_d1 (bd_ok c10 (by decide))] at a10
    rw [t11, t0, t8, t3, zL_mul, zL_mul, zL_sub, zL_d1 (bd_ok c11 (by decide))] at a11
    rw [t0] at a0
    rw [t1] at a1
    rw [t2] at a2
    rw [t3] at a3
    obtain ⟨b0, b1, b2, b3, b4, b5, b6, b7, b8, b9, b10, b11⟩ := elK3_1 (elK t 0 1 3) (zL (T 0 0))
    generalize hm : T 1 1 * T 0 0 - T 1 0 * T 0 1 = m at *
    have om : ok m := bd_ok c5 (by decide)
    have g0 : bd (T 0 0 * m - T 0 1 * 0) (108 * 23328 + 108 * 0) := bd_sub (bd_mul (bT 0 0) c5) (bd_mul (bT 0 1) (Nat.le_refl 0))
    have g2 : bd (T 0 2 * m - T 0 1 * (T 1 2 * T 0 0 - T 1 0 * T 0 2)) (108 * 23328 + 108 * 23328) := bd_sub (bd_mul (bT 0 2) c5) (bd_mul (bT 0 1) c6)
    have g3 : bd (F 0 * m - T 0 1 * (F 1 * T 0 0 - T 1 0 * F 0)) (100000 * 23328 + 108 * 21600000) := bd_sub (bd_mul (bF 0) c5) (bd_mul (bT 0 1) c7)
    have g8 : bd (0 * m - (T 2 1 * T 0 0 - T 2 0 * T 0 1) * 0) (0 * 23328 + 23328 * 0) := bd_sub (bd_mul (Nat.le_refl 0) c5) (bd_mul c9 (Nat.le_refl 0))
    have g10 : bd ((T 2 2 * T 0 0 - T 2 0 * T 0 2) * m - (T 2 1 * T 0 0 - T 2 0 * T 0 1) * (T 1 2 * T 0 0 - T 1 0 * T 0 2)) (23328 * 23328 + 23328 * 23328) := bd_sub (bd_mul c10 c5) (bd_mul c9 c6)
    have g11 : bd ((F 2 * T 0 0 - T 2 0 * F 0) * m - (T 2 1 * T 0 0 - T 2 0 * T 0 1) * (F 1 * T 0 0 - T 1 0 * F 0)) (21600000 * 23328 + 23328 * 21600000) := bd_sub (bd_mul c11 c5) (bd_mul c9 c7)
    rw [a0, a5, a1, a4, zL_0, zL_mul, zL_mul, zL_sub, zL_dv (q := m) (by grind) n0 (bd_ok g0 (by decide)) o0] at b0
    rw [a2, a5, a1, a6, zL_mul, zL_mul, zL_sub, zL_dv (q := T 0 2 * T 1 1 - T 0 1 * T 1 2) (by grind) n0 (bd_ok g2 (by decide)) o0] at b2
    rw [a3, a5, a1, a7, zL_mul, zL_mul, zL_sub, zL_dv (q := F 0 * T 1 1 - T 0 1 * F 1) (by grind) n0 (bd_ok g3 (by decide)) o0] at b3
    rw [a8, a5, a9, a4, zL_0, zL_mul, zL_mul, zL_sub, zL_dv (q := 0) (by grind) n0 (bd_ok g8 (by decide)) o0] at b8
    rw [a10, a5, a9, a6, zL_mul, zL_mul, zL_sub, zL_dv (q := ovZ T 3) (by simp only [ovZ, ↓reduceIte, Nat.reduceEqDiff]; grind) n0 (bd_ok g10 (by decide)) o0] at b10
    rw [a11, a5, a9, a7, zL_mul, zL_mul, zL_sub, zL_dv (q := lvZ T F 3 2) (by simp only [lvZ, ↓reduceIte, Nat.reduceEqDiff]; grind) n0 (bd_ok g11 (by decide)) o0] at b11
    rw [a5] at b5
    rw [a6] at b6
    rw [a7] at b7
    obtain ⟨d0, d3, d7, d11⟩ := elK3_2 (elK (elK t 0 1 3) 1 (zL (T 0 0)) 3) (zL m)
    have cc2 : bd (T 0 2 * T 1 1 - T 0 1 * T 1 2) 23328 := bd_sub (bTT ..) (bTT ..)
    have cc3 : bd (F 0 * T 1 1 - T 0 1 * F 1) 21600000 := bd_sub (bFT ..) (bTF ..)
    have cD : bd (ovZ T 3) 7558272 := by
      simp only [ovZ, ↓reduceIte, Nat.reduceEqDiff]
      exact bd_add (bd_sub (bd_mul (bT 0 0) (bd_sub (bTT 1 1 2 2) (bTT 1 2 2 1))) (bd_mul (bT 0 1) (bd_sub (bTT 1 0 2 2) (bTT 1 2 2 0)))) (bd_mul (bT 0 2) (bd_sub (bTT 1 0 2 1) (bTT 1 1 2 0)))
    have cE : bd (lvZ T F 3 2) 6998400000 := by
      simp only [lvZ, ↓reduceIte, Nat.reduceEqDiff]
      exact bd_add (bd_sub (bd_mul (bT 0 0) (bd_sub (bTF 1 1 2) (bFT 2 1 1))) (bd_mul (bT 0 1) (bd_sub (bTF 1 0 2) (bFT 2 0 1)))) (bd_mul (bF 0) (bd_sub (bTT 1 0 2 1) (bTT 1 1 2 0)))
    have f0 : bd (m * ovZ T 3 - (T 0 2 * T 1 1 - T 0 1 * T 1 2) * 0) (23328 * 7558272 + 23328 * 0) := bd_sub (bd_mul c5 cD) (bd_mul cc2 (Nat.le_refl 0))
    have f3 : bd ((F 0 * T 1 1 - T 0 1 * F 1) * ovZ T 3 - (T 0 2 * T 1 1 - T 0 1 * T 1 2) * lvZ T F 3 2) (21600000 * 7558272 + 23328 * 6998400000) := bd_sub (bd_mul cc3 cD) (bd_mul cc2 cE)
    have f7 : bd ((F 1 * T 0 0 - T 1 0 * F 0) * ovZ T 3 - (T 1 2 * T 0 0 - T 1 0 * T 0 2) * lvZ T F 3 2) (21600000 * 7558272 + 23328 * 6998400000) := bd_sub (bd_mul c7 cD) (bd_mul c6 cE)
    rw [b0, b10, b2, b8, zL_mul, zL_mul, zL_sub, zL_dv (q := ovZ T 3) (by grind) nm (bd_ok f0 (by decide)) om] at d0
    rw [b3, b10, b2, b11, zL_mul, zL_mul, zL_sub, zL_dv (q := lvZ T F 3 0) (by subst hm; simp only [ovZ, lvZ, ↓reduceIte, Nat.reduceEqDiff]; grind) nm (bd_ok f3 (by decide)) om] at d3
    rw [b7, b10, b6, b11, zL_mul, zL_mul, zL_sub, zL_dv (q := lvZ T F 3 1) (by subst hm; simp only [ovZ, lvZ, ↓reduceIte, Nat.reduceEqDiff, Nat.one_ne_zero]; grind) nm (bd_ok f7 (by decide)) om] at d7
    rw [b11] at d11
    refine ⟨fun k hk => ?_, fun _ => ?_, fun r hr => ?_⟩
    · have : k = 0 ∨ k = 1 ∨ k = 2 := by omega
      rcases this with e | e | e <;> subst e
      · show ¬ (1 : Int64) = 0
        decide
      · show ¬ elK t 0 1 3 0 = 0
        rw [a0, zL_0, zL_eq o0 ok_0]
        exact n0
      · show ¬ elK (elK t 0 1 3) 1 (elK t 0 1 3 0) 3 5 = 0
        rw [a0, b5, zL_0, zL_eq om ok_0]
        exact nm
    · show elK (elK (elK t 0 1 3) 1 (elK t 0 1 3 0) 3) 2 (elK (elK t 0 1 3) 1 (elK t 0 1 3 0) 3 5) 3 0 = _
      rw [a0, b5]
      exact d0
    · have : r = 0 ∨ r = 1 ∨ r = 2 := by omega
      rcases this with e | e | e <;> subst e
      · show elK (elK (elK t 0 1 3) 1 (elK t 0 1 3 0) 3) 2 (elK (elK t 0 1 3) 1 (elK t 0 1 3 0) 3 5) 3 3 = _
        rw [a0, b5]
        exact d3
      · show elK (elK (elK t 0 1 3) 1 (elK t 0 1 3 0) 3) 2 (elK (elK t 0 1 3) 1 (elK t 0 1 3 0) 3 5) 3 7 = _
        rw [a0, b5]
        exact d7
      · show elK (elK (elK t 0 1 3) 1 (elK t 0 1 3 0) 3) 2 (elK (elK t 0 1 3) 1 (elK t 0 1 3 0) 3 5) 3 11 = _
        rw [a0, b5]
        exact d11
