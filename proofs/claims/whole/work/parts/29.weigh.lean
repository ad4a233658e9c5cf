/-! CONTRACTS: findPull, weigh, fitOf -/
def pl (c : Nat → Int32) (h : Nat → Nat) (f : Nat) (S : Nat → Int64) (i : Nat) : Nat → Int64
  | 0 => 0
  | s + 1 => if inF h f s i = false then pl c h f S i s else pl c h f S i s + (S s * sumL c s - (nI 12 * c (4 * s + i + 1)).toInt64)
def hrd (A p : Nat → Int64) (m : Nat) : Int64 := if m = 0 then 0 else 0 + A (3 * (m - 1) + 0) * p 0 + A (3 * (m - 1) + 1) * p 1 + A (3 * (m - 1) + 2) * p 2
def smW (a : Nat) (H : Nat → Int64) (u : Int64) : Nat → Int64
  | 0 => u
  | m + 1 => smW a H u m + (if a.testBit m = false then 0 else H m)
def wrt (c : Nat → Int32) (h : Nat → Nat) (S H : Nat → Int64) (w : Int64) (s : Nat) : Int64 := S s * smW (h s) H (sumL c s * w) 4
theorem fll4 {α : Type} (g f : Nat → α) : fll g f 4 = va_up (va_up (va_up (va_up f 0 (g 0)) 1 (g 1)) 2 (g 2)) 3 (g 3) := by
  rw [← fll_s, ← fll_s, ← fll_s, ← fll_s, fll_0]
theorem rem4 {a : Nat} (h : a < 2 ^ 31) : nI a - nI a / nI 4 * nI 4 = nI (a % 4) := pk_rem h (by decide) (by decide)
theorem rem4b {a : Nat} (h : a < 2 ^ 31) : nI a - nI (a / 4) * nI 4 = nI (a % 4) := by rw [← rem4 h, pk_div h (by decide) (by decide)]
theorem div4 {a : Nat} (h : a < 2 ^ 31) : nI a / nI 4 = nI (a / 4) := pk_div h (by decide) (by decide)
section WEIGH
variable {I : ab_I} {J : ab_J} {Q : Option Value → ab_I → ab_J → Prop} {x x1 x2 : Int32} {u : Int64}
set_option maxRecDepth 100000 in
theorem c29_17 {s : Nat} (hs : s < 12) : Cal 29 [.ref 17, .int (nI s)] I J Q ↔ Q (some (.long (sumL (I 18) s))) I J := by
  rw [en29]
  simp (disch := omega) only [k29_0, k29_1, k29_2, k29_3, k29_5, k29_7, k29_8, k29_11, k29_12, k29_13, k29_14_5, k29_14_17, k29_17, k29_18, k29_19, k29_20, k29_22, k29_23, k29_24, k29_27, k29_28, k29_29, k29_30, k29_33, k29_36, k29_37, Option.toList_some, Option.toList_none, List.cons_append, List.nil_append, nl_i, nl_r, nl_l, nl_n, nI_add, pk_mul, nI_clamp, bnd, nI_leI, Nat.reduceAdd, Nat.reduceMul, Nat.reduceLT, Nat.reduceLeDiff, ↓reduceIte, true_and, and_true, ly_6, ly_18]
  rfl
set_option maxRecDepth 100000 in
theorem c28_5 {c : Nat → Int32} {h : Nat → Nat} {f : Nat} {S : Nat → Int64} (hc : I 6 = c) (hf : I 5 12 = nI f) (hh : ∀ s, s < 12 → I 7 s = nI (h s) ∧ h s < 16) (hS : J 8 = S) : Cal 28 [.ref 5] I J Q ↔ Q none I (va_up J 14 (fll (fun i => pl c h f S i 12) (J 14) 3)) := by
  refine Cal_iff ?_
  rw [en28]
  simp only [k28_0, k28_1, Option.toList_some, Option.toList_none, List.cons_append, List.nil_append, nl_i, nl_r, nl_l, nl_n]
  have key : ∀ a2 : Option Value, At 28 2 [some (.ref 5), some (.int (nI 0)), a2] [] I (va_up J 14 (fll (fun i => pl c h f S i 12) (J 14) 0)) (fun v' I1 J1 => v' = none ∧ I1 = I ∧ J1 = va_up J 14 (fll (fun i => pl c h f S i 12) (J 14) 3)) := by
    refine loop_dn (N := 3) (P := fun i => ∀ a2 : Option Value, At 28 2 [some (.ref 5), some (.int (nI i)), a2] [] I (va_up J 14 (fll (fun i => pl c h f S i 12) (J 14) i)) (fun v' I1 J1 => v' = none ∧ I1 = I ∧ J1 = va_up J 14 (fll (fun i => pl c h f S i 12) (J 14) 3))) ?_ ?_
    · intro a2
      rw [k28_2]
      simp (disch := omega) only [k28_3, k28_4, k28_81, nI_leI, Nat.le_refl, ↓reduceIte, and_self]
    · intro i hi ih a2
      have e0 : ¬ 3 ≤ i := by omega
      rw [k28_2]
      simp (disch := omega) only [k28_3, k28_4, k28_7, k28_8_5, k28_11, k28_12, k28_13, k28_14, k28_15, Option.toList_some, Option.toList_none, List.cons_append, List.nil_append, nl_i, nl_r, nl_l, nl_n, nI_leI, e0, ↓reduceIte, nI_clamp, bnd, ly_14, Nat.reduceLT, true_and, and_true, va_up_s, up_same]
      refine loop_dn (N := 12) (P := fun s => At 28 16 [some (.ref 5), some (.int (nI i)), some (.int (nI s))] [] I (va_up J 14 (va_up (fll (fun i => pl c h f S i 12) (J 14) i) i (pl c h f S i s))) (fun v' I1 J1 => v' = none ∧ I1 = I ∧ J1 = va_up J 14 (fll (fun i => pl c h f S i 12) (J 14) 3))) ?_ ?_
      · have ih2 := ih (some (.int (nI 12)))
        rw [k28_16]
        simp (disch := omega) only [k28_17, k28_19, k28_75, k28_78, Option.toList_some, Option.toList_none, List.cons_append, List.nil_append, nl_i, nl_r, nl_l, nl_n, nI_leI, Nat.le_refl, ↓reduceIte, nI_add, fll_s]
        exact ih2
      · intro s hs ihs
        have e1 : ¬ 12 ≤ s := by omega
        obtain ⟨h1, h2⟩ := hh s hs
        have hS3 : ∀ g, (va_up J 14 g) 8 = S := fun _ => hS
        rw [k28_16]
        simp (disch := omega) only [k28_0, k28_1, k28_3, k28_4, k28_7, k28_8_5, k28_8_17, k28_11, k28_12, k28_13, k28_14, k28_15, k28_17, k28_19, k28_22, k28_23, k28_24, k28_25_5, k28_25_17, k28_28, k28_31, k28_32_5, k28_32_17, k28_35, k28_36, k28_37, k28_38, k28_39_5, k28_39_17, k28_42, k28_43, k28_44, k28_45, k28_46_5, k28_46_17, k28_49, k28_50, k28_52, k28_53_5, k28_53_17, k28_56, k28_57, k28_58, k28_59, k28_60, k28_61, k28_62, k28_63, k28_64, k28_65, k28_66, k28_67, k28_68, k28_69, k28_72, k28_75, k28_78, k28_81, Option.toList_some, Option.toList_none, List.cons_append, List.nil_append, nl_i, nl_r, nl_l, nl_n, nI_leI, e1, ↓reduceIte, c24_5 hf hs hi h1 h2, c29_5 hs, bI_0, pk_mul, nI_add, nI_clamp, bnd, ly_6, ly_8, ly_14, Nat.reduceLT, true_and, and_true, va_up_s, up_ne, up_same, hS, hc]
        rw [pl] at ihs
        split
        · rename_i hq
          rw [if_pos hq] at ihs
          exact ihs
        · rename_i hq
          rw [if_neg hq] at ihs
          exact ihs
  have key := key none
  rw [fll_0, up_id] at key
  exact key
theorem c30_5 {k : Nat} (hk : k < 48) : Cal 30 [.ref 5, .int (nI k)] I J Q ↔ Q (some (.long (12 * ((I 6 k).toInt64 * J 5 11 + J 15 (k % 4)) - J 16 (k / 4)))) I J := by
  rw [en30]
  simp (disch := omega) only [k30_0, k30_3, k30_4_5, k30_4_17, k30_7, k30_8, k30_9, k30_10, k30_11_5, k30_11_17, k30_14, k30_15, k30_16_5, k30_16_17, k30_19, k30_20, k30_21, k30_22, k30_23, k30_24, k30_25, k30_26_5, k30_26_17, k30_29, k30_30, k30_31, k30_32, k30_33, k30_34, Option.toList_some, Option.toList_none, List.cons_append, List.nil_append, nl_i, nl_r, nl_l, nl_n, eq0, rem4, rem4b, div4, nI_clamp, bnd, ly_6, ly_15, ly_16, Nat.reduceLT, Nat.reduceEqDiff, not_false_eq_true, true_and, and_true]
set_option maxRecDepth 100000 in
theorem c27_5 {c : Nat → Int32} {h : Nat → Nat} {f : Nat} {S A : Nat → Int64} (hc : I 6 = c) (hf : I 5 12 = nI f) (hh : ∀ s, s < 12 → I 7 s = nI (h s) ∧ h s < 16) (hS : J 8 = S) (hA : J 13 = A) : Cal 27 [.ref 5] I J Q ↔ Q none I (va_up (va_up (va_up J 14 (fll (fun i => pl c h f S i 12) (J 14) 3)) 15 (fll (hrd A (fun i => pl c h f S i 12)) (J 15) 4)) 16 (fll (wrt c h S (hrd A (fun i => pl c h f S i 12)) (J 5 11)) (J 16) 12)) := by
  refine Cal_iff ?_
  rw [en27]
  simp only [k27_0, k27_1_5, Option.toList_some, Option.toList_none, List.cons_append, List.nil_append, nl_i, nl_r, nl_l, nl_n]
  refine (c28_5 hc hf hh hS).mpr ?_
  have hp0 : fll (fun i => pl c h f S i 12) (J 14) 3 0 = pl c h f S 0 12 := fll_lt (by decide)
  have hp1 : fll (fun i => pl c h f S i 12) (J 14) 3 1 = pl c h f S 1 12 := fll_lt (by decide)
  have hp2 : fll (fun i => pl c h f S i 12) (J 14) 3 2 = pl c h f S 2 12 := fll_lt (by decide)
  simp (disch := omega) only [k27_0, k27_1_5, k27_1_17, k27_4, k27_5, k27_6, k27_7, k27_8, k27_11, k27_12_5, k27_12_17, k27_15, k27_16, k27_17, k27_18, k27_21, k27_24, k27_25, k27_26, k27_27, k27_28, k27_31, k27_32, k27_33, k27_34, k27_35, k27_38, k27_39_5, k27_39_17, k27_42, k27_43, k27_44, k27_45, k27_46, k27_47, k27_48_5, k27_48_17, k27_51, k27_52, k27_53, k27_54, k27_55, k27_56, k27_57, k27_58_5, k27_58_17, k27_61, k27_62, k27_63, k27_64, k27_65, k27_66, k27_69, k27_72, k27_75, k27_78, k27_79, k27_81, k27_83, k27_86, k27_87, k27_88_5, k27_88_17, k27_91, k27_92_5, k27_92_17, k27_95, k27_96, k27_97, k27_98, k27_102, k27_103, k27_106, k27_107, k27_108_5, k27_108_17, k27_111, k27_112, k27_113, k27_115, k27_116, k27_117, k27_118, k27_121, k27_122_5, k27_122_17, k27_125, k27_127, k27_128, k27_131, k27_132, k27_133, k27_134, k27_137, k27_140, k27_141_5, k27_141_17, k27_144, k27_145, k27_146_5, k27_146_17, k27_149, k27_150, k27_151, k27_152, k27_153, k27_154, k27_157, k27_160, Option.toList_some, Option.toList_none, List.cons_append, List.nil_append, nl_i, nl_r, nl_l, nl_n, nI_leI, Nat.reduceLeDiff, ↓reduceIte, nI_clamp, bnd, ly_13, ly_14, ly_15, Nat.reduceLT, Nat.reduceAdd, Nat.reduceMul, pk_mul, nI_add, true_and, and_true, va_up_s, up_ne, up_same, up_cm, id_eq, hA, hp0, hp1, hp2]
  have eH : va_up (va_up (va_up (va_up (J 15) 0 0) 1 (0 + A 0 * pl c h f S 0 12 + A 1 * pl c h f S 1 12 + A 2 * pl c h f S 2 12)) 2 (0 + A 3 * pl c h f S 0 12 + A 4 * pl c h f S 1 12 + A 5 * pl c h f S 2 12)) 3 (0 + A 6 * pl c h f S 0 12 + A 7 * pl c h f S 1 12 + A 8 * pl c h f S 2 12) = fll (hrd A (fun i => pl c h f S i 12)) (J 15) 4 := by
    rw [fll4]; rfl
  rw [eH]
  generalize hHe : hrd A (fun i => pl c h f S i 12) = Hh
  generalize hPe : fll (fun i => pl c h f S i 12) (J 14) 3 = Pp
  have key : ∀ a2 a3 a4 : Option Value, At 27 80 [some (.ref 5), some (.int (nI 0)), a2, a3, a4] [] I (va_up (va_up (va_up J 14 Pp) 15 (fll Hh (J 15) 4)) 16 (fll (wrt c h S Hh (J 5 11)) (J 16) 0)) (fun v' I1 J1 => v' = none ∧ I1 = I ∧ J1 = va_up (va_up (va_up J 14 Pp) 15 (fll Hh (J 15) 4)) 16 (fll (wrt c h S Hh (J 5 11)) (J 16) 12)) := by
    refine loop_dn (N := 12) (P := fun i => ∀ a2 a3 a4 : Option Value, At 27 80 [some (.ref 5), some (.int (nI i)), a2, a3, a4] [] I (va_up (va_up (va_up J 14 Pp) 15 (fll Hh (J 15) 4)) 16 (fll (wrt c h S Hh (J 5 11)) (J 16) i)) (fun v' I1 J1 => v' = none ∧ I1 = I ∧ J1 = va_up (va_up (va_up J 14 Pp) 15 (fll Hh (J 15) 4)) 16 (fll (wrt c h S Hh (J 5 11)) (J 16) 12))) ?_ ?_
    · intro a2 a3 a4
      rw [k27_80]
      simp (disch := omega) only [k27_81, k27_83, k27_160, nI_leI, Nat.le_refl, ↓reduceIte, and_self]
    · intro i hi ih a2 a3 a4
      have e0 : ¬ 12 ≤ i := by omega
      obtain ⟨h1, h2⟩ := hh i hi
      rw [k27_80]
      simp (disch := omega) only [k27_81, k27_83, k27_86, k27_87, k27_88_5, k27_91, k27_92_5, k27_95, k27_96, k27_97, k27_98, Option.toList_some, Option.toList_none, List.cons_append, List.nil_append, nl_i, nl_r, nl_l, nl_n, nI_leI, e0, ↓reduceIte, c29_5 hi, hc, up_ne]
      refine loop_dn (N := 4) (P := fun m => At 27 100 [some (.ref 5), some (.int (nI i)), some (.long (smW (h i) Hh (sumL c i * J 5 11) m)), none, some (.int (nI m))] [] I (va_up (va_up (va_up J 14 Pp) 15 (fll Hh (J 15) 4)) 16 (fll (wrt c h S Hh (J 5 11)) (J 16) i)) (fun v' I1 J1 => v' = none ∧ I1 = I ∧ J1 = va_up (va_up (va_up J 14 Pp) 15 (fll Hh (J 15) 4)) 16 (fll (wrt c h S Hh (J 5 11)) (J 16) 12))) ?_ ?_
      · have ih2 := ih (some (.long (smW (h i) Hh (sumL c i * J 5 11) 4))) none (some (.int (nI 4)))
        rw [← fll_s (wrt c h S Hh (J 5 11)) (J 16) i] at ih2
        rw [k27_100]
        simp (disch := omega) only [k27_102, k27_103, k27_140, k27_141_5, k27_144, k27_145, k27_146_5, k27_149, k27_150, k27_151, k27_152, k27_153, k27_154, k27_157, Option.toList_some, Option.toList_none, List.cons_append, List.nil_append, nl_i, nl_r, nl_l, nl_n, nI_leI, Nat.le_refl, ↓reduceIte, nI_clamp, bnd, ly_8, ly_16, Nat.reduceLT, true_and, and_true, va_up_s, up_ne, up_same, hS, nI_add]
        exact ih2
      · intro m hm ihm
        have e1 : ¬ 4 ≤ m := by omega
        rw [k27_100]
        simp (disch := omega) only [k27_102, k27_103, k27_106, k27_107, k27_108_5, k27_111, k27_112, k27_113, k27_115, k27_116, k27_117, k27_118, k27_121, k27_122_5, k27_125, k27_127, k27_128, k27_131, k27_132, k27_133, k27_134, k27_137, Option.toList_some, Option.toList_none, List.cons_append, List.nil_append, nl_i, nl_r, nl_l, nl_n, h1, nI_leI, e1, ↓reduceIte, shr1, nI_clamp, bnd, ly_7, ly_15, Nat.reduceLT, true_and, and_true, va_up_s, up_ne, fll_lt, nI_add]
        rw [smW] at ihm
        split
        · rename_i hq
          rw [if_pos hq] at ihm
          exact ihm
        · rename_i hq
          rw [if_neg hq] at ihm
          exact ihm
  rw [fll_0, show J 16 = (va_up (va_up J 14 Pp) 15 (fll Hh (J 15) 4)) 16 from rfl, up_id] at key
  exact key _ _ _
set_option maxRecDepth 100000 in
theorem c28_17 {c : Nat → Int32} {h : Nat → Nat} {f : Nat} {S : Nat → Int64} (hc : I 18 = c) (hf : I 17 12 = nI f) (hh : ∀ s, s < 12 → I 19 s = nI (h s) ∧ h s < 16) (hS : J 20 = S) : Cal 28 [.ref 17] I J Q ↔ Q none I (va_up J 26 (fll (fun i => pl c h f S i 12) (J 26) 3)) := by
  refine Cal_iff ?_
  rw [en28]
  simp only [k28_0, k28_1, Option.toList_some, Option.toList_none, List.cons_append, List.nil_append, nl_i, nl_r, nl_l, nl_n]
  have key : ∀ a2 : Option Value, At 28 2 [some (.ref 17), some (.int (nI 0)), a2] [] I (va_up J 26 (fll (fun i => pl c h f S i 12) (J 26) 0)) (fun v' I1 J1 => v' = none ∧ I1 = I ∧ J1 = va_up J 26 (fll (fun i => pl c h f S i 12) (J 26) 3)) := by
    refine loop_dn (N := 3) (P := fun i => ∀ a2 : Option Value, At 28 2 [some (.ref 17), some (.int (nI i)), a2] [] I (va_up J 26 (fll (fun i => pl c h f S i 12) (J 26) i)) (fun v' I1 J1 => v' = none ∧ I1 = I ∧ J1 = va_up J 26 (fll (fun i => pl c h f S i 12) (J 26) 3))) ?_ ?_
    · intro a2
      rw [k28_2]
      simp (disch := omega) only [k28_3, k28_4, k28_81, nI_leI, Nat.le_refl, ↓reduceIte, and_self]
    · intro i hi ih a2
      have e0 : ¬ 3 ≤ i := by omega
      rw [k28_2]
      simp (disch := omega) only [k28_3, k28_4, k28_7, k28_8_17, k28_11, k28_12, k28_13, k28_14, k28_15, Option.toList_some, Option.toList_none, List.cons_append, List.nil_append, nl_i, nl_r, nl_l, nl_n, nI_leI, e0, ↓reduceIte, nI_clamp, bnd, ly_26, Nat.reduceLT, true_and, and_true, va_up_s, up_same]
      refine loop_dn (N := 12) (P := fun s => At 28 16 [some (.ref 17), some (.int (nI i)), some (.int (nI s))] [] I (va_up J 26 (va_up (fll (fun i => pl c h f S i 12) (J 26) i) i (pl c h f S i s))) (fun v' I1 J1 => v' = none ∧ I1 = I ∧ J1 = va_up J 26 (fll (fun i => pl c h f S i 12) (J 26) 3))) ?_ ?_
      · have ih2 := ih (some (.int (nI 12)))
        rw [k28_16]
        simp (disch := omega) only [k28_17, k28_19, k28_75, k28_78, Option.toList_some, Option.toList_none, List.cons_append, List.nil_append, nl_i, nl_r, nl_l, nl_n, nI_leI, Nat.le_refl, ↓reduceIte, nI_add, fll_s]
        exact ih2
      · intro s hs ihs
        have e1 : ¬ 12 ≤ s := by omega
        obtain ⟨h1, h2⟩ := hh s hs
        have hS3 : ∀ g, (va_up J 26 g) 20 = S := fun _ => hS
        rw [k28_16]
        simp (disch := omega) only [k28_0, k28_1, k28_3, k28_4, k28_7, k28_8_5, k28_8_17, k28_11, k28_12, k28_13, k28_14, k28_15, k28_17, k28_19, k28_22, k28_23, k28_24, k28_25_5, k28_25_17, k28_28, k28_31, k28_32_5, k28_32_17, k28_35, k28_36, k28_37, k28_38, k28_39_5, k28_39_17, k28_42, k28_43, k28_44, k28_45, k28_46_5, k28_46_17, k28_49, k28_50, k28_52, k28_53_5, k28_53_17, k28_56, k28_57, k28_58, k28_59, k28_60, k28_61, k28_62, k28_63, k28_64, k28_65, k28_66, k28_67, k28_68, k28_69, k28_72, k28_75, k28_78, k28_81, Option.toList_some, Option.toList_none, List.cons_append, List.nil_append, nl_i, nl_r, nl_l, nl_n, nI_leI, e1, ↓reduceIte, c24_17 hf hs hi h1 h2, c29_17 hs, bI_0, pk_mul, nI_add, nI_clamp, bnd, ly_18, ly_20, ly_26, Nat.reduceLT, true_and, and_true, va_up_s, up_ne, up_same, hS, hc]
        rw [pl] at ihs
        split
        · rename_i hq
          rw [if_pos hq] at ihs
          exact ihs
        · rename_i hq
          rw [if_neg hq] at ihs
          exact ihs
  have key := key none
  rw [fll_0, up_id] at key
  exact key
theorem c30_17 {k : Nat} (hk : k < 48) : Cal 30 [.ref 17, .int (nI k)] I J Q ↔ Q (some (.long (12 * ((I 18 k).toInt64 * J 17 11 + J 27 (k % 4)) - J 28 (k / 4)))) I J := by
  rw [en30]
  simp (disch := omega) only [k30_0, k30_3, k30_4_5, k30_4_17, k30_7, k30_8, k30_9, k30_10, k30_11_5, k30_11_17, k30_14, k30_15, k30_16_5, k30_16_17, k30_19, k30_20, k30_21, k30_22, k30_23, k30_24, k30_25, k30_26_5, k30_26_17, k30_29, k30_30, k30_31, k30_32, k30_33, k30_34, Option.toList_some, Option.toList_none, List.cons_append, List.nil_append, nl_i, nl_r, nl_l, nl_n, eq0, rem4, rem4b, div4, nI_clamp, bnd, ly_18, ly_27, ly_28, Nat.reduceLT, Nat.reduceEqDiff, not_false_eq_true, true_and, and_true]
set_option maxRecDepth 100000 in
theorem c27_17 {c : Nat → Int32} {h : Nat → Nat} {f : Nat} {S A : Nat → Int64} (hc : I 18 = c) (hf : I 17 12 = nI f) (hh : ∀ s, s < 12 → I 19 s = nI (h s) ∧ h s < 16) (hS : J 20 = S) (hA : J 25 = A) : Cal 27 [.ref 17] I J Q ↔ Q none I (va_up (va_up (va_up J 26 (fll (fun i => pl c h f S i 12) (J 26) 3)) 27 (fll (hrd A (fun i => pl c h f S i 12)) (J 27) 4)) 28 (fll (wrt c h S (hrd A (fun i => pl c h f S i 12)) (J 17 11)) (J 28) 12)) := by
  refine Cal_iff ?_
  rw [en27]
  simp only [k27_0, k27_1_17, Option.toList_some, Option.toList_none, List.cons_append, List.nil_append, nl_i, nl_r, nl_l, nl_n]
  refine (c28_17 hc hf hh hS).mpr ?_
  have hp0 : fll (fun i => pl c h f S i 12) (J 26) 3 0 = pl c h f S 0 12 := fll_lt (by decide)
  have hp1 : fll (fun i => pl c h f S i 12) (J 26) 3 1 = pl c h f S 1 12 := fll_lt (by decide)
  have hp2 : fll (fun i => pl c h f S i 12) (J 26) 3 2 = pl c h f S 2 12 := fll_lt (by decide)
  simp (disch := omega) only [k27_0, k27_1_5, k27_1_17, k27_4, k27_5, k27_6, k27_7, k27_8, k27_11, k27_12_5, k27_12_17, k27_15, k27_16, k27_17, k27_18, k27_21, k27_24, k27_25, k27_26, k27_27, k27_28, k27_31, k27_32, k27_33, k27_34, k27_35, k27_38, k27_39_5, k27_39_17, k27_42, k27_43, k27_44, k27_45, k27_46, k27_47, k27_48_5, k27_48_17, k27_51, k27_52, k27_53, k27_54, k27_55, k27_56, k27_57, k27_58_5, k27_58_17, k27_61, k27_62, k27_63, k27_64, k27_65, k27_66, k27_69, k27_72, k27_75, k27_78, k27_79, k27_81, k27_83, k27_86, k27_87, k27_88_5, k27_88_17, k27_91, k27_92_5, k27_92_17, k27_95, k27_96, k27_97, k27_98, k27_102, k27_103, k27_106, k27_107, k27_108_5, k27_108_17, k27_111, k27_112, k27_113, k27_115, k27_116, k27_117, k27_118, k27_121, k27_122_5, k27_122_17, k27_125, k27_127, k27_128, k27_131, k27_132, k27_133, k27_134, k27_137, k27_140, k27_141_5, k27_141_17, k27_144, k27_145, k27_146_5, k27_146_17, k27_149, k27_150, k27_151, k27_152, k27_153, k27_154, k27_157, k27_160, Option.toList_some, Option.toList_none, List.cons_append, List.nil_append, nl_i, nl_r, nl_l, nl_n, nI_leI, Nat.reduceLeDiff, ↓reduceIte, nI_clamp, bnd, ly_25, ly_26, ly_27, Nat.reduceLT, Nat.reduceAdd, Nat.reduceMul, pk_mul, nI_add, true_and, and_true, va_up_s, up_ne, up_same, up_cm, id_eq, hA, hp0, hp1, hp2]
  have eH : va_up (va_up (va_up (va_up (J 27) 0 0) 1 (0 + A 0 * pl c h f S 0 12 + A 1 * pl c h f S 1 12 + A 2 * pl c h f S 2 12)) 2 (0 + A 3 * pl c h f S 0 12 + A 4 * pl c h f S 1 12 + A 5 * pl c h f S 2 12)) 3 (0 + A 6 * pl c h f S 0 12 + A 7 * pl c h f S 1 12 + A 8 * pl c h f S 2 12) = fll (hrd A (fun i => pl c h f S i 12)) (J 27) 4 := by
    rw [fll4]; rfl
  rw [eH]
  generalize hHe : hrd A (fun i => pl c h f S i 12) = Hh
  generalize hPe : fll (fun i => pl c h f S i 12) (J 26) 3 = Pp
  have key : ∀ a2 a3 a4 : Option Value, At 27 80 [some (.ref 17), some (.int (nI 0)), a2, a3, a4] [] I (va_up (va_up (va_up J 26 Pp) 27 (fll Hh (J 27) 4)) 28 (fll (wrt c h S Hh (J 17 11)) (J 28) 0)) (fun v' I1 J1 => v' = none ∧ I1 = I ∧ J1 = va_up (va_up (va_up J 26 Pp) 27 (fll Hh (J 27) 4)) 28 (fll (wrt c h S Hh (J 17 11)) (J 28) 12)) := by
    refine loop_dn (N := 12) (P := fun i => ∀ a2 a3 a4 : Option Value, At 27 80 [some (.ref 17), some (.int (nI i)), a2, a3, a4] [] I (va_up (va_up (va_up J 26 Pp) 27 (fll Hh (J 27) 4)) 28 (fll (wrt c h S Hh (J 17 11)) (J 28) i)) (fun v' I1 J1 => v' = none ∧ I1 = I ∧ J1 = va_up (va_up (va_up J 26 Pp) 27 (fll Hh (J 27) 4)) 28 (fll (wrt c h S Hh (J 17 11)) (J 28) 12))) ?_ ?_
    · intro a2 a3 a4
      rw [k27_80]
      simp (disch := omega) only [k27_81, k27_83, k27_160, nI_leI, Nat.le_refl, ↓reduceIte, and_self]
    · intro i hi ih a2 a3 a4
      have e0 : ¬ 12 ≤ i := by omega
      obtain ⟨h1, h2⟩ := hh i hi
      rw [k27_80]
      simp (disch := omega) only [k27_81, k27_83, k27_86, k27_87, k27_88_17, k27_91, k27_92_17, k27_95, k27_96, k27_97, k27_98, Option.toList_some, Option.toList_none, List.cons_append, List.nil_append, nl_i, nl_r, nl_l, nl_n, nI_leI, e0, ↓reduceIte, c29_17 hi, hc, up_ne]
      refine loop_dn (N := 4) (P := fun m => At 27 100 [some (.ref 17), some (.int (nI i)), some (.long (smW (h i) Hh (sumL c i * J 17 11) m)), none, some (.int (nI m))] [] I (va_up (va_up (va_up J 26 Pp) 27 (fll Hh (J 27) 4)) 28 (fll (wrt c h S Hh (J 17 11)) (J 28) i)) (fun v' I1 J1 => v' = none ∧ I1 = I ∧ J1 = va_up (va_up (va_up J 26 Pp) 27 (fll Hh (J 27) 4)) 28 (fll (wrt c h S Hh (J 17 11)) (J 28) 12))) ?_ ?_
      · have ih2 := ih (some (.long (smW (h i) Hh (sumL c i * J 17 11) 4))) none (some (.int (nI 4)))
        rw [← fll_s (wrt c h S Hh (J 17 11)) (J 28) i] at ih2
        rw [k27_100]
        simp (disch := omega) only [k27_102, k27_103, k27_140, k27_141_17, k27_144, k27_145, k27_146_17, k27_149, k27_150, k27_151, k27_152, k27_153, k27_154, k27_157, Option.toList_some, Option.toList_none, List.cons_append, List.nil_append, nl_i, nl_r, nl_l, nl_n, nI_leI, Nat.le_refl, ↓reduceIte, nI_clamp, bnd, ly_20, ly_28, Nat.reduceLT, true_and, and_true, va_up_s, up_ne, up_same, hS, nI_add]
        exact ih2
      · intro m hm ihm
        have e1 : ¬ 4 ≤ m := by omega
        rw [k27_100]
        simp (disch := omega) only [k27_102, k27_103, k27_106, k27_107, k27_108_17, k27_111, k27_112, k27_113, k27_115, k27_116, k27_117, k27_118, k27_121, k27_122_17, k27_125, k27_127, k27_128, k27_131, k27_132, k27_133, k27_134, k27_137, Option.toList_some, Option.toList_none, List.cons_append, List.nil_append, nl_i, nl_r, nl_l, nl_n, h1, nI_leI, e1, ↓reduceIte, shr1, nI_clamp, bnd, ly_19, ly_27, Nat.reduceLT, true_and, and_true, va_up_s, up_ne, fll_lt, nI_add]
        rw [smW] at ihm
        split
        · rename_i hq
          rw [if_pos hq] at ihm
          exact ihm
        · rename_i hq
          rw [if_neg hq] at ihm
          exact ihm
  rw [fll_0, show J 28 = (va_up (va_up J 26 Pp) 27 (fll Hh (J 27) 4)) 28 from rfl, up_id] at key
  exact key _ _ _
end WEIGH
