/-! CONTRACTS: areTied, doubtOf, offAmong -/
/-- the doubt: A the adjugate, d the flow -/
def dbI (A d : Nat → Int64) (u : Int64) : Nat → Int64
  | 0 => u
  | i + 1 => if d i = 0 then dbI A d u i else dbI A d u i + d i * A (3 * i + 0) * d 0 + d i * A (3 * i + 1) * d 1 + d i * A (3 * i + 2) * d 2
def dfl (h : Nat → Nat) (f : Nat) (S : Nat → Int64) (a b i : Nat) : Int64 := psh h f S a i - psh h f S b i
def abL (u : Int64) : Int64 := if 0 < u then u else -u
/-- a mark's fit -/
def ftF (c : Nat → Int32) (w : Int64) (H W : Nat → Int64) (k : Nat) : Int64 := 12 * ((c k).toInt64 * w + H (k % 4)) - W (k / 4)
def ofA (c : Nat → Int32) (a : Nat) (g : Nat → Int64) : Nat → Int64
  | 0 => 0
  | k + 1 => if c k = -1 then ofA c a g k else if a.testBit (k % 4) = false then ofA c a g k else ofA c a g k + abL (g k)
section BALB
variable {I : ab_I} {J : ab_J} {Q : Option Value → ab_I → ab_J → Prop} {x x1 x2 : Int32} {u : Int64}
theorem c32_5 {a b : Nat} (ha : a < 12) (hb : b < 12) : Cal 32 [.ref 5, .int (nI a), .int (nI b)] I J Q ↔ Q (some (.int (bI (decide (¬ I 11 a = -1 ∧ I 11 a = I 11 b))))) I J := by
  rw [en32]
  simp (disch := omega) only [k32_0, k32_1_5, k32_1_17, k32_4, k32_5, k32_6, k32_7, k32_10, k32_11_5, k32_11_17, k32_14, k32_15, k32_16, k32_17_5, k32_17_17, k32_20, k32_21, k32_22, k32_25, k32_26, k32_29, k32_30, Option.toList_some, Option.toList_none, List.cons_append, List.nil_append, nl_i, nl_r, nl_l, nl_n, nI_clamp, bnd, ly_11, Nat.reduceLT, z10, z00, true_and, and_true]
  by_cases h0 : I 11 a = -1
  · rw [if_pos h0, decide_eq_false (fun q => q.1 h0), bI_f]
  · rw [if_neg h0]
    by_cases h1 : I 11 a = I 11 b
    · rw [if_neg (show ¬ ¬ I 11 a = I 11 b from fun q => q h1), decide_eq_true ⟨h0, h1⟩, bI_t]
    · rw [if_pos h1, decide_eq_false (fun q => h1 q.2), bI_f]
set_option maxRecDepth 100000 in
theorem c33_5 {h : Nat → Nat} {f a b : Nat} {S A : Nat → Int64} (hf : I 5 12 = nI f) (hh : ∀ s, s < 12 → I 7 s = nI (h s) ∧ h s < 16) (hS : J 8 = S) (hA : J 13 = A) (ha : a < 12) (hb : b < 12) : Cal 33 [.ref 5, .int (nI a), .int (nI b)] I J Q ↔ Q (some (.long (dbI A (dfl h f S a b) (J 5 11 * (S a + S b)) 3))) I J := by
  refine Cal_iff ?_
  obtain ⟨ha1, ha2⟩ := hh a ha
  obtain ⟨hb1, hb2⟩ := hh b hb
  rw [en33]
  simp (disch := omega) only [k33_0, k33_1_5, k33_4, k33_5_5, k33_8, k33_9, k33_10, k33_11_5, k33_14, k33_15, k33_16, k33_17, k33_18, k33_19, k33_20, Option.toList_some, Option.toList_none, List.cons_append, List.nil_append, nl_i, nl_r, nl_l, nl_n, nI_clamp, bnd, ly_8, Nat.reduceLT, true_and, and_true, hS]
  have key : ∀ a6 a7 a8 : Option Value, At 33 22 [some (.ref 5), some (.int (nI a)), some (.int (nI b)), some (.long (dbI A (dfl h f S a b) (J 5 11 * (S a + S b)) 0)), none, some (.int (nI 0)), a6, a7, a8] [] I J (fun v' I1 J1 => v' = some (.long (dbI A (dfl h f S a b) (J 5 11 * (S a + S b)) 3)) ∧ I1 = I ∧ J1 = J) := by
    refine loop_dn (N := 3) (P := fun i => ∀ a6 a7 a8 : Option Value, At 33 22 [some (.ref 5), some (.int (nI a)), some (.int (nI b)), some (.long (dbI A (dfl h f S a b) (J 5 11 * (S a + S b)) i)), none, some (.int (nI i)), a6, a7, a8] [] I J (fun v' I1 J1 => v' = some (.long (dbI A (dfl h f S a b) (J 5 11 * (S a + S b)) 3)) ∧ I1 = I ∧ J1 = J)) ?_ ?_
    · intro a6 a7 a8
      rw [k33_22]
      simp (disch := omega) only [k33_24, k33_25, k33_107, k33_108, nI_leI, Nat.le_refl, ↓reduceIte, and_self]
    · intro i hi ih a6 a7 a8
      have e0 : ¬ 3 ≤ i := by omega
      rw [dbI] at ih
      rw [k33_22]
      simp (disch := omega) only [k33_24, k33_25, k33_28, k33_29, k33_30, k33_32_5, k33_35, k33_36, k33_37, k33_39_5, k33_42, k33_43, k33_45, k33_46, Option.toList_some, Option.toList_none, List.cons_append, List.nil_append, nl_i, nl_r, nl_l, nl_n, nI_leI, e0, ↓reduceIte, c23_5 hf ha hi ha1 ha2, c23_5 hf hb hi hb1 hb2, hS, psh_e]
      have ed : psh h f S a i - psh h f S b i = dfl h f S a b i := rfl
      have e00 : psh h f S a 0 - psh h f S b 0 = dfl h f S a b 0 := rfl
      have e01 : psh h f S a 1 - psh h f S b 1 = dfl h f S a b 1 := rfl
      have e02 : psh h f S a 2 - psh h f S b 2 = dfl h f S a b 2 := rfl
      rw [ed]
      by_cases hq : dfl h f S a b i = 0
      · rw [if_pos hq] at ih
        simp (disch := omega) only [k33_48, k33_50, k33_51, k33_52, k33_101, k33_104, Option.toList_some, Option.toList_none, List.cons_append, List.nil_append, nl_i, nl_r, nl_l, nl_n, lg_cmp_eq, hq, ↓reduceIte, nI_add]
        exact ih _ _ _
      · rw [if_neg hq] at ih
        simp (disch := omega) only [k33_0, k33_1_5, k33_1_17, k33_4, k33_5_5, k33_5_17, k33_8, k33_9, k33_10, k33_11_5, k33_11_17, k33_14, k33_15, k33_16, k33_17, k33_18, k33_19, k33_20, k33_24, k33_25, k33_28, k33_29, k33_30, k33_32_5, k33_32_17, k33_35, k33_36, k33_37, k33_39_5, k33_39_17, k33_42, k33_43, k33_45, k33_46, k33_48, k33_50, k33_51, k33_52, k33_55, k33_57, k33_58, k33_61, k33_62, k33_64, k33_65_5, k33_65_17, k33_68, k33_69, k33_71, k33_72, k33_74, k33_75, k33_76, k33_77, k33_78, k33_79, k33_81_5, k33_81_17, k33_84, k33_85, k33_86, k33_88_5, k33_88_17, k33_91, k33_92, k33_93, k33_94, k33_95, k33_98, k33_101, k33_104, k33_107, k33_108, Option.toList_some, Option.toList_none, List.cons_append, List.nil_append, nl_i, nl_r, nl_l, nl_n, lg_cmp_eq, hq, ↓reduceIte, nI_leI, Nat.reduceLeDiff, nI_add, Nat.reduceAdd, pk_mul, nI_clamp, bnd, ly_13, Nat.reduceLT, true_and, and_true, hA, c23_5 hf ha (show 0 < 3 by decide) ha1 ha2, c23_5 hf ha (show 1 < 3 by decide) ha1 ha2, c23_5 hf ha (show 2 < 3 by decide) ha1 ha2, c23_5 hf hb (show 0 < 3 by decide) hb1 hb2, c23_5 hf hb (show 1 < 3 by decide) hb1 hb2, c23_5 hf hb (show 2 < 3 by decide) hb1 hb2, hS, psh_e, e00, e01, e02]
        exact ih _ _ _
  exact key _ _ _
set_option maxRecDepth 100000 in
theorem c31_5 {c : Nat → Int32} {a : Nat} (hc : I 6 = c) (ha : a < 16) : Cal 31 [.ref 5, .int (nI a)] I J Q ↔ Q (some (.long (ofA c a (ftF c (J 5 11) (J 15) (J 16)) 48))) I J := by
  refine Cal_iff ?_
  rw [en31]
  simp only [k31_0, k31_1, k31_2, k31_3, Option.toList_some, Option.toList_none, List.cons_append, List.nil_append, nl_i, nl_r, nl_l, nl_n]
  refine loop_dn (N := 48) (P := fun k => At 31 5 [some (.ref 5), some (.int (nI a)), some (.long (ofA c a (ftF c (J 5 11) (J 15) (J 16)) k)), none, some (.int (nI k))] [] I J (fun v' I1 J1 => v' = some (.long (ofA c a (ftF c (J 5 11) (J 15) (J 16)) 48)) ∧ I1 = I ∧ J1 = J)) ?_ ?_
  · rw [k31_5]
    simp (disch := omega) only [k31_7, k31_9, k31_52, k31_53, nI_leI, Nat.le_refl, ↓reduceIte, and_self]
  · intro k hk ih
    have e0 : ¬ 48 ≤ k := by omega
    have ef : (12 * ((c k).toInt64 * J 5 11 + J 15 (k % 4)) - J 16 (k / 4)) = ftF c (J 5 11) (J 15) (J 16) k := rfl
    have ea : ∀ u : Int64, (if 0 < u then u else -u) = abL u := fun _ => rfl
    rw [ofA] at ih
    rw [k31_5]
    simp (disch := omega) only [k31_0, k31_1, k31_2, k31_3, k31_7, k31_9, k31_12, k31_13_5, k31_13_17, k31_16, k31_18, k31_19, k31_20, k31_23, k31_24, k31_26, k31_27, k31_28, k31_29, k31_30, k31_31, k31_34, k31_35, k31_36, k31_38_5, k31_38_17, k31_41, k31_44, k31_45, k31_46, k31_49, k31_52, k31_53, Option.toList_some, Option.toList_none, List.cons_append, List.nil_append, nl_i, nl_r, nl_l, nl_n, nI_leI, e0, ↓reduceIte, hc, nI_clamp, bnd, ly_6, Nat.reduceLT, true_and, and_true, eq0, rem4, Nat.reduceEqDiff, not_false_eq_true, shr1, c30_5 hk, ef, ea, nI_add]
    split
    · rename_i hq
      rw [if_pos hq] at ih
      exact ih
    · rename_i hq
      rw [if_neg hq] at ih
      split
      · rename_i hq2
        rw [if_pos hq2] at ih
        exact ih
      · rename_i hq2
        rw [if_neg hq2] at ih
        exact ih
theorem c32_17 {a b : Nat} (ha : a < 12) (hb : b < 12) : Cal 32 [.ref 17, .int (nI a), .int (nI b)] I J Q ↔ Q (some (.int (bI (decide (¬ I 23 a = -1 ∧ I 23 a = I 23 b))))) I J := by
  rw [en32]
  simp (disch := omega) only [k32_0, k32_1_5, k32_1_17, k32_4, k32_5, k32_6, k32_7, k32_10, k32_11_5, k32_11_17, k32_14, k32_15, k32_16, k32_17_5, k32_17_17, k32_20, k32_21, k32_22, k32_25, k32_26, k32_29, k32_30, Option.toList_some, Option.toList_none, List.cons_append, List.nil_append, nl_i, nl_r, nl_l, nl_n, nI_clamp, bnd, ly_23, Nat.reduceLT, z10, z00, true_and, and_true]
  by_cases h0 : I 23 a = -1
  · rw [if_pos h0, decide_eq_false (fun q => q.1 h0), bI_f]
  · rw [if_neg h0]
    by_cases h1 : I 23 a = I 23 b
    · rw [if_neg (show ¬ ¬ I 23 a = I 23 b from fun q => q h1), decide_eq_true ⟨h0, h1⟩, bI_t]
    · rw [if_pos h1, decide_eq_false (fun q => h1 q.2), bI_f]
set_option maxRecDepth 100000 in
theorem c33_17 {h : Nat → Nat} {f a b : Nat} {S A : Nat → Int64} (hf : I 17 12 = nI f) (hh : ∀ s, s < 12 → I 19 s = nI (h s) ∧ h s < 16) (hS : J 20 = S) (hA : J 25 = A) (ha : a < 12) (hb : b < 12) : Cal 33 [.ref 17, .int (nI a), .int (nI b)] I J Q ↔ Q (some (.long (dbI A (dfl h f S a b) (J 17 11 * (S a + S b)) 3))) I J := by
  refine Cal_iff ?_
  obtain ⟨ha1, ha2⟩ := hh a ha
  obtain ⟨hb1, hb2⟩ := hh b hb
  rw [en33]
  simp (disch := omega) only [k33_0, k33_1_17, k33_4, k33_5_17, k33_8, k33_9, k33_10, k33_11_17, k33_14, k33_15, k33_16, k33_17, k33_18, k33_19, k33_20, Option.toList_some, Option.toList_none, List.cons_append, List.nil_append, nl_i, nl_r, nl_l, nl_n, nI_clamp, bnd, ly_20, Nat.reduceLT, true_and, and_true, hS]
  have key : ∀ a6 a7 a8 : Option Value, At 33 22 [some (.ref 17), some (.int (nI a)), some (.int (nI b)), some (.long (dbI A (dfl h f S a b) (J 17 11 * (S a + S b)) 0)), none, some (.int (nI 0)), a6, a7, a8] [] I J (fun v' I1 J1 => v' = some (.long (dbI A (dfl h f S a b) (J 17 11 * (S a + S b)) 3)) ∧ I1 = I ∧ J1 = J) := by
    refine loop_dn (N := 3) (P := fun i => ∀ a6 a7 a8 : Option Value, At 33 22 [some (.ref 17), some (.int (nI a)), some (.int (nI b)), some (.long (dbI A (dfl h f S a b) (J 17 11 * (S a + S b)) i)), none, some (.int (nI i)), a6, a7, a8] [] I J (fun v' I1 J1 => v' = some (.long (dbI A (dfl h f S a b) (J 17 11 * (S a + S b)) 3)) ∧ I1 = I ∧ J1 = J)) ?_ ?_
    · intro a6 a7 a8
      rw [k33_22]
      simp (disch := omega) only [k33_24, k33_25, k33_107, k33_108, nI_leI, Nat.le_refl, ↓reduceIte, and_self]
    · intro i hi ih a6 a7 a8
      have e0 : ¬ 3 ≤ i := by omega
      rw [dbI] at ih
      rw [k33_22]
      simp (disch := omega) only [k33_24, k33_25, k33_28, k33_29, k33_30, k33_32_17, k33_35, k33_36, k33_37, k33_39_17, k33_42, k33_43, k33_45, k33_46, Option.toList_some, Option.toList_none, List.cons_append, List.nil_append, nl_i, nl_r, nl_l, nl_n, nI_leI, e0, ↓reduceIte, c23_17 hf ha hi ha1 ha2, c23_17 hf hb hi hb1 hb2, hS, psh_e]
      have ed : psh h f S a i - psh h f S b i = dfl h f S a b i := rfl
      have e00 : psh h f S a 0 - psh h f S b 0 = dfl h f S a b 0 := rfl
      have e01 : psh h f S a 1 - psh h f S b 1 = dfl h f S a b 1 := rfl
      have e02 : psh h f S a 2 - psh h f S b 2 = dfl h f S a b 2 := rfl
      rw [ed]
      by_cases hq : dfl h f S a b i = 0
      · rw [if_pos hq] at ih
        simp (disch := omega) only [k33_48, k33_50, k33_51, k33_52, k33_101, k33_104, Option.toList_some, Option.toList_none, List.cons_append, List.nil_append, nl_i, nl_r, nl_l, nl_n, lg_cmp_eq, hq, ↓reduceIte, nI_add]
        exact ih _ _ _
      · rw [if_neg hq] at ih
        simp (disch := omega) only [k33_0, k33_1_5, k33_1_17, k33_4, k33_5_5, k33_5_17, k33_8, k33_9, k33_10, k33_11_5, k33_11_17, k33_14, k33_15, k33_16, k33_17, k33_18, k33_19, k33_20, k33_24, k33_25, k33_28, k33_29, k33_30, k33_32_5, k33_32_17, k33_35, k33_36, k33_37, k33_39_5, k33_39_17, k33_42, k33_43, k33_45, k33_46, k33_48, k33_50, k33_51, k33_52, k33_55, k33_57, k33_58, k33_61, k33_62, k33_64, k33_65_5, k33_65_17, k33_68, k33_69, k33_71, k33_72, k33_74, k33_75, k33_76, k33_77, k33_78, k33_79, k33_81_5, k33_81_17, k33_84, k33_85, k33_86, k33_88_5, k33_88_17, k33_91, k33_92, k33_93, k33_94, k33_95, k33_98, k33_101, k33_104, k33_107, k33_108, Option.toList_some, Option.toList_none, List.cons_append, List.nil_append, nl_i, nl_r, nl_l, nl_n, lg_cmp_eq, hq, ↓reduceIte, nI_leI, Nat.reduceLeDiff, nI_add, Nat.reduceAdd, pk_mul, nI_clamp, bnd, ly_25, Nat.reduceLT, true_and, and_true, hA, c23_17 hf ha (show 0 < 3 by decide) ha1 ha2, c23_17 hf ha (show 1 < 3 by decide) ha1 ha2, c23_17 hf ha (show 2 < 3 by decide) ha1 ha2, c23_17 hf hb (show 0 < 3 by decide) hb1 hb2, c23_17 hf hb (show 1 < 3 by decide) hb1 hb2, c23_17 hf hb (show 2 < 3 by decide) hb1 hb2, hS, psh_e, e00, e01, e02]
        exact ih _ _ _
  exact key _ _ _
set_option maxRecDepth 100000 in
theorem c31_17 {c : Nat → Int32} {a : Nat} (hc : I 18 = c) (ha : a < 16) : Cal 31 [.ref 17, .int (nI a)] I J Q ↔ Q (some (.long (ofA c a (ftF c (J 17 11) (J 27) (J 28)) 48))) I J := by
  refine Cal_iff ?_
  rw [en31]
  simp only [k31_0, k31_1, k31_2, k31_3, Option.toList_some, Option.toList_none, List.cons_append, List.nil_append, nl_i, nl_r, nl_l, nl_n]
  refine loop_dn (N := 48) (P := fun k => At 31 5 [some (.ref 17), some (.int (nI a)), some (.long (ofA c a (ftF c (J 17 11) (J 27) (J 28)) k)), none, some (.int (nI k))] [] I J (fun v' I1 J1 => v' = some (.long (ofA c a (ftF c (J 17 11) (J 27) (J 28)) 48)) ∧ I1 = I ∧ J1 = J)) ?_ ?_
  · rw [k31_5]
    simp (disch := omega) only [k31_7, k31_9, k31_52, k31_53, nI_leI, Nat.le_refl, ↓reduceIte, and_self]
  · intro k hk ih
    have e0 : ¬ 48 ≤ k := by omega
    have ef : (12 * ((c k).toInt64 * J 17 11 + J 27 (k % 4)) - J 28 (k / 4)) = ftF c (J 17 11) (J 27) (J 28) k := rfl
    have ea : ∀ u : Int64, (if 0 < u then u else -u) = abL u := fun _ => rfl
    rw [ofA] at ih
    rw [k31_5]
    simp (disch := omega) only [k31_0, k31_1, k31_2, k31_3, k31_7, k31_9, k31_12, k31_13_5, k31_13_17, k31_16, k31_18, k31_19, k31_20, k31_23, k31_24, k31_26, k31_27, k31_28, k31_29, k31_30, k31_31, k31_34, k31_35, k31_36, k31_38_5, k31_38_17, k31_41, k31_44, k31_45, k31_46, k31_49, k31_52, k31_53, Option.toList_some, Option.toList_none, List.cons_append, List.nil_append, nl_i, nl_r, nl_l, nl_n, nI_leI, e0, ↓reduceIte, hc, nI_clamp, bnd, ly_18, Nat.reduceLT, true_and, and_true, eq0, rem4, Nat.reduceEqDiff, not_false_eq_true, shr1, c30_17 hk, ef, ea, nI_add]
    split
    · rename_i hq
      rw [if_pos hq] at ih
      exact ih
    · rename_i hq
      rw [if_neg hq] at ih
      split
      · rename_i hq2
        rw [if_pos hq2] at ih
        exact ih
      · rename_i hq2
        rw [if_neg hq2] at ih
        exact ih
end BALB
