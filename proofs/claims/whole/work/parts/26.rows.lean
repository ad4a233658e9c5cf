/-! CONTRACTS: isFree, isIn, push, cofactor, invert -/
/-- script s goes into the equation of marker i + 1 -/
def inF (h : Nat → Nat) (f s i : Nat) : Bool := (h s &&& f).testBit (i + 1)
theorem bit2 {a i : Nat} (ha : a < 16) (hi : i < 3) : ((nI a &&& nI (2 ^ (i + 1))) = 0) = (a.testBit (i + 1) = false) := by
  have h : ∀ a, a < 16 → ∀ i, i < 3 → (((nI a &&& nI (2 ^ (i + 1))) = 0) ↔ (a.testBit (i + 1) = false)) := by decide +kernel
  exact propext (h a ha i hi)
def cof (R : Nat → Int64) (i j : Nat) : Int64 := R (3 * ((i + 1) % 3) + (j + 1) % 3) * R (3 * ((i + 2) % 3) + (j + 2) % 3) - R (3 * ((i + 1) % 3) + (j + 2) % 3) * R (3 * ((i + 2) % 3) + (j + 1) % 3)
theorem rem3 {a : Nat} (h : a < 2 ^ 31) : nI a - nI a / nI 3 * nI 3 = nI (a % 3) := pk_rem h (by decide) (by decide)
theorem fll9 {α : Type} (g f : Nat → α) : fll g f 9 = va_up (va_up (va_up (va_up (va_up (va_up (va_up (va_up (va_up f 0 (g 0)) 1 (g 1)) 2 (g 2)) 3 (g 3)) 4 (g 4)) 5 (g 5)) 6 (g 6)) 7 (g 7)) 8 (g 8) := by
  rw [← fll_s, ← fll_s, ← fll_s, ← fll_s, ← fll_s, ← fll_s, ← fll_s, ← fll_s, ← fll_s, fll_0]
section ROWS
variable {I : ab_I} {J : ab_J} {Q : Option Value → ab_I → ab_J → Prop} {x x1 x2 : Int32} {u : Int64}
theorem c22_5 {f m : Nat} (hf : I 5 12 = nI f) (hf2 : f < 16) (hm : m < 4) : Cal 22 [.ref 5, .int (nI m)] I J Q ↔ Q (some (.int (bI (f.testBit m)))) I J := by
  rw [en22]
  simp (disch := omega) only [k22_0, k22_1_5, k22_1_17, k22_4, k22_5, k22_6, k22_7, k22_8, k22_11, k22_12, k22_15, k22_16, Option.toList_some, Option.toList_none, List.cons_append, List.nil_append, nl_i, nl_r, nl_l, nl_n, hf, shr1, z10, z00, true_and]
  cases f.testBit m <;> rfl
theorem c24_5 {h : Nat → Nat} {f s i : Nat} (hf : I 5 12 = nI f) (hs : s < 12) (hi : i < 3) (h1 : I 7 s = nI (h s)) (h2 : h s < 16) : Cal 24 [.ref 5, .int (nI s), .int (nI i)] I J Q ↔ Q (some (.int (bI (inF h f s i)))) I J := by
  have h3 : h s &&& f < 16 := Nat.lt_of_le_of_lt Nat.and_le_left h2
  rw [en24]
  simp (disch := omega) only [k24_0, k24_1_5, k24_1_17, k24_4, k24_5, k24_6, k24_7_5, k24_7_17, k24_10, k24_11, k24_12, k24_13, k24_14, k24_15, k24_18, k24_19, k24_22, k24_23, Option.toList_some, Option.toList_none, List.cons_append, List.nil_append, nl_i, nl_r, nl_l, nl_n, hf, h1, nI_clamp, bnd, ly_7, Nat.reduceLT, and_nI (h s) f, shl2, bit2, z10, z00, true_and, and_true]
  unfold inF
  cases (h s &&& f).testBit (i + 1) <;> rfl
theorem c23_5 {h : Nat → Nat} {f s i : Nat} (hf : I 5 12 = nI f) (hs : s < 12) (hi : i < 3) (h1 : I 7 s = nI (h s)) (h2 : h s < 16) : Cal 23 [.ref 5, .int (nI s), .int (nI i)] I J Q ↔ Q (some (.long (if inF h f s i then J 8 s else 0))) I J := by
  rw [en23]
  simp (disch := omega) only [k23_0, k23_1, k23_2, k23_3_5, k23_3_17, k23_6, k23_9, k23_10_5, k23_10_17, k23_13, k23_14, k23_15, k23_18, k23_19, Option.toList_some, Option.toList_none, List.cons_append, List.nil_append, nl_i, nl_r, nl_l, nl_n, c24_5 hf hs hi h1 h2, bI_0, nI_clamp, bnd, ly_8, Nat.reduceLT, true_and, and_true]
  cases inF h f s i <;> rfl
set_option maxRecDepth 100000 in
theorem c26_5 {i j : Nat} (hi : i < 3) (hj : j < 3) : Cal 26 [.ref 5, .int (nI i), .int (nI j)] I J Q ↔ Q (some (.long (cof (J 12) i j))) I J := by
  rw [en26]
  simp (disch := omega) only [k26_0, k26_1, k26_2, k26_3, k26_4, k26_5, k26_6, k26_7, k26_8, k26_9, k26_10, k26_11, k26_12, k26_13, k26_14, k26_15, k26_17, k26_18, k26_19, k26_20, k26_21, k26_22, k26_24, k26_25, k26_26, k26_27, k26_28, k26_29, k26_31, k26_32_5, k26_32_17, k26_35, k26_36, k26_38, k26_39, k26_40, k26_41_5, k26_41_17, k26_44, k26_46, k26_48, k26_49, k26_50, k26_51, k26_52_5, k26_52_17, k26_55, k26_56, k26_58, k26_59, k26_60, k26_61_5, k26_61_17, k26_64, k26_66, k26_68, k26_69, k26_70, k26_71, k26_72, Option.toList_some, Option.toList_none, List.cons_append, List.nil_append, nl_i, nl_r, nl_l, nl_n, eq0, nI_add, rem3, pk_mul, nI_clamp, bnd, ly_12, Nat.reduceLT, Nat.reduceEqDiff, not_false_eq_true, true_and, and_true]
  rfl
set_option maxRecDepth 100000 in
theorem c25_5 : Cal 25 [.ref 5] I J Q ↔ Q none I (va_up (va_up J 5 (va_up (J 5) 11 (J 12 0 * cof (J 12) 0 0 + J 12 1 * cof (J 12) 0 1 + J 12 2 * cof (J 12) 0 2))) 13 (fll (fun k => cof (J 12) (k / 3) (k % 3)) (J 13) 9)) := by
  rw [en25, fll9]
  simp (disch := omega) only [k25_0, k25_1, k25_2, k25_3, k25_4, k25_7, k25_8, k25_9, k25_10, k25_11, k25_14, k25_15_5, k25_15_17, k25_18, k25_19, k25_20, k25_21, k25_22, k25_23, k25_24, k25_25, k25_26_5, k25_26_17, k25_29, k25_30, k25_33, k25_36, k25_39, k25_42, k25_43, k25_44_5, k25_44_17, k25_47, k25_48, k25_49, k25_50_5, k25_50_17, k25_53, k25_54, k25_55, k25_56, k25_57_5, k25_57_17, k25_60, k25_61, k25_62, k25_63_5, k25_63_17, k25_66, k25_67, k25_68, k25_69, k25_70, k25_71_5, k25_71_17, k25_74, k25_75, k25_76, k25_77_5, k25_77_17, k25_80, k25_81, k25_82, k25_83, k25_84_5, k25_84_17, k25_87, Option.toList_some, Option.toList_none, List.cons_append, List.nil_append, nl_i, nl_r, nl_l, nl_n, nI_add, pk_mul, nI_clamp, bnd, ly_12, ly_13, Nat.reduceLT, Nat.reduceAdd, Nat.reduceMul, Nat.reduceLeDiff, nI_leI, ↓reduceIte, c26_5, up_ne, va_up_s, up_same, up_comm, true_and, and_true]
theorem c22_17 {f m : Nat} (hf : I 17 12 = nI f) (hf2 : f < 16) (hm : m < 4) : Cal 22 [.ref 17, .int (nI m)] I J Q ↔ Q (some (.int (bI (f.testBit m)))) I J := by
  rw [en22]
  simp (disch := omega) only [k22_0, k22_1_5, k22_1_17, k22_4, k22_5, k22_6, k22_7, k22_8, k22_11, k22_12, k22_15, k22_16, Option.toList_some, Option.toList_none, List.cons_append, List.nil_append, nl_i, nl_r, nl_l, nl_n, hf, shr1, z10, z00, true_and]
  cases f.testBit m <;> rfl
theorem c24_17 {h : Nat → Nat} {f s i : Nat} (hf : I 17 12 = nI f) (hs : s < 12) (hi : i < 3) (h1 : I 19 s = nI (h s)) (h2 : h s < 16) : Cal 24 [.ref 17, .int (nI s), .int (nI i)] I J Q ↔ Q (some (.int (bI (inF h f s i)))) I J := by
  have h3 : h s &&& f < 16 := Nat.lt_of_le_of_lt Nat.and_le_left h2
  rw [en24]
  simp (disch := omega) only [k24_0, k24_1_5, k24_1_17, k24_4, k24_5, k24_6, k24_7_5, k24_7_17, k24_10, k24_11, k24_12, k24_13, k24_14, k24_15, k24_18, k24_19, k24_22, k24_23, Option.toList_some, Option.toList_none, List.cons_append, List.nil_append, nl_i, nl_r, nl_l, nl_n, hf, h1, nI_clamp, bnd, ly_19, Nat.reduceLT, and_nI (h s) f, shl2, bit2, z10, z00, true_and, and_true]
  unfold inF
  cases (h s &&& f).testBit (i + 1) <;> rfl
theorem c23_17 {h : Nat → Nat} {f s i : Nat} (hf : I 17 12 = nI f) (hs : s < 12) (hi : i < 3) (h1 : I 19 s = nI (h s)) (h2 : h s < 16) : Cal 23 [.ref 17, .int (nI s), .int (nI i)] I J Q ↔ Q (some (.long (if inF h f s i then J 20 s else 0))) I J := by
  rw [en23]
  simp (disch := omega) only [k23_0, k23_1, k23_2, k23_3_5, k23_3_17, k23_6, k23_9, k23_10_5, k23_10_17, k23_13, k23_14, k23_15, k23_18, k23_19, Option.toList_some, Option.toList_none, List.cons_append, List.nil_append, nl_i, nl_r, nl_l, nl_n, c24_17 hf hs hi h1 h2, bI_0, nI_clamp, bnd, ly_20, Nat.reduceLT, true_and, and_true]
  cases inF h f s i <;> rfl
set_option maxRecDepth 100000 in
theorem c26_17 {i j : Nat} (hi : i < 3) (hj : j < 3) : Cal 26 [.ref 17, .int (nI i), .int (nI j)] I J Q ↔ Q (some (.long (cof (J 24) i j))) I J := by
  rw [en26]
  simp (disch := omega) only [k26_0, k26_1, k26_2, k26_3, k26_4, k26_5, k26_6, k26_7, k26_8, k26_9, k26_10, k26_11, k26_12, k26_13, k26_14, k26_15, k26_17, k26_18, k26_19, k26_20, k26_21, k26_22, k26_24, k26_25, k26_26, k26_27, k26_28, k26_29, k26_31, k26_32_5, k26_32_17, k26_35, k26_36, k26_38, k26_39, k26_40, k26_41_5, k26_41_17, k26_44, k26_46, k26_48, k26_49, k26_50, k26_51, k26_52_5, k26_52_17, k26_55, k26_56, k26_58, k26_59, k26_60, k26_61_5, k26_61_17, k26_64, k26_66, k26_68, k26_69, k26_70, k26_71, k26_72, Option.toList_some, Option.toList_none, List.cons_append, List.nil_append, nl_i, nl_r, nl_l, nl_n, eq0, nI_add, rem3, pk_mul, nI_clamp, bnd, ly_24, Nat.reduceLT, Nat.reduceEqDiff, not_false_eq_true, true_and, and_true]
  rfl
set_option maxRecDepth 100000 in
theorem c25_17 : Cal 25 [.ref 17] I J Q ↔ Q none I (va_up (va_up J 17 (va_up (J 17) 11 (J 24 0 * cof (J 24) 0 0 + J 24 1 * cof (J 24) 0 1 + J 24 2 * cof (J 24) 0 2))) 25 (fll (fun k => cof (J 24) (k / 3) (k % 3)) (J 25) 9)) := by
  rw [en25, fll9]
  simp (disch := omega) only [k25_0, k25_1, k25_2, k25_3, k25_4, k25_7, k25_8, k25_9, k25_10, k25_11, k25_14, k25_15_5, k25_15_17, k25_18, k25_19, k25_20, k25_21, k25_22, k25_23, k25_24, k25_25, k25_26_5, k25_26_17, k25_29, k25_30, k25_33, k25_36, k25_39, k25_42, k25_43, k25_44_5, k25_44_17, k25_47, k25_48, k25_49, k25_50_5, k25_50_17, k25_53, k25_54, k25_55, k25_56, k25_57_5, k25_57_17, k25_60, k25_61, k25_62, k25_63_5, k25_63_17, k25_66, k25_67, k25_68, k25_69, k25_70, k25_71_5, k25_71_17, k25_74, k25_75, k25_76, k25_77_5, k25_77_17, k25_80, k25_81, k25_82, k25_83, k25_84_5, k25_84_17, k25_87, Option.toList_some, Option.toList_none, List.cons_append, List.nil_append, nl_i, nl_r, nl_l, nl_n, nI_add, pk_mul, nI_clamp, bnd, ly_24, ly_25, Nat.reduceLT, Nat.reduceAdd, Nat.reduceMul, Nat.reduceLeDiff, nI_leI, ↓reduceIte, c26_17, up_ne, va_up_s, up_same, up_comm, true_and, and_true]
end ROWS
