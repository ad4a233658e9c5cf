/-! CONTRACTS: layRows -/
def rw0 (f k : Nat) : Int64 := if k / 3 = k % 3 ∧ f.testBit (k / 3 + 1) = false then 1 else 0
def psh (h : Nat → Nat) (f : Nat) (S : Nat → Int64) (s j : Nat) : Int64 := if inF h f s j then S s else 0
def rst (h : Nat → Nat) (f : Nat) (S : Nat → Int64) (s i : Nat) (g : Nat → Int64) : Nat → Int64 := if inF h f s i = false then g else (fun k => if k / 3 = i then (if k = 3 * i + i then g k + 12 else g k) - psh h f S s (k % 3) else g k)
def rI (h : Nat → Nat) (f : Nat) (S : Nat → Int64) (s : Nat) (g : Nat → Int64) : Nat → Nat → Int64
  | 0 => g
  | i + 1 => rst h f S s i (rI h f S s g i)
def rS (h : Nat → Nat) (f : Nat) (S : Nat → Int64) : Nat → Nat → Int64
  | 0 => rw0 f
  | s + 1 => rI h f S s (rS h f S s) 3
theorem rst_0 {h : Nat → Nat} {f s : Nat} {S g : Nat → Int64} (q : ¬ inF h f s 0 = false) : rst h f S s 0 g = va_up (va_up (va_up g 0 (g 0 + 12 - psh h f S s 0)) 1 (g 1 - psh h f S s 1)) 2 (g 2 - psh h f S s 2) := by
  unfold rst
  rw [if_neg q]
  funext k
  unfold va_up
  by_cases h2 : k = 2
  · subst h2; rfl
  · by_cases h1 : k = 1
    · subst h1; rfl
    · by_cases h0 : k = 0
      · subst h0; rfl
      · have e : ¬ k / 3 = 0 := by omega
        simp only [if_neg h2, if_neg h1, if_neg h0, if_neg e]
theorem rst_1 {h : Nat → Nat} {f s : Nat} {S g : Nat → Int64} (q : ¬ inF h f s 1 = false) : rst h f S s 1 g = va_up (va_up (va_up g 3 (g 3 - psh h f S s 0)) 4 (g 4 + 12 - psh h f S s 1)) 5 (g 5 - psh h f S s 2) := by
  unfold rst
  rw [if_neg q]
  funext k
  unfold va_up
  by_cases h2 : k = 5
  · subst h2; rfl
  · by_cases h1 : k = 4
    · subst h1; rfl
    · by_cases h0 : k = 3
      · subst h0; rfl
      · have e : ¬ k / 3 = 1 := by omega
        simp only [if_neg h2, if_neg h1, if_neg h0, if_neg e]
theorem rst_2 {h : Nat → Nat} {f s : Nat} {S g : Nat → Int64} (q : ¬ inF h f s 2 = false) : rst h f S s 2 g = va_up (va_up (va_up g 6 (g 6 - psh h f S s 0)) 7 (g 7 - psh h f S s 1)) 8 (g 8 + 12 - psh h f S s 2) := by
  unfold rst
  rw [if_neg q]
  funext k
  unfold va_up
  by_cases h2 : k = 8
  · subst h2; rfl
  · by_cases h1 : k = 7
    · subst h1; rfl
    · by_cases h0 : k = 6
      · subst h0; rfl
      · have e : ¬ k / 3 = 2 := by omega
        simp only [if_neg h2, if_neg h1, if_neg h0, if_neg e]
theorem fll_upg {α : Type} {g f : Nat → α} {m N : Nat} {v : α} (hm : m < N) : va_up (fll g f N) m v = fll (va_up g m v) f N := by
  funext k
  unfold fll va_up
  by_cases h : k = m
  · have h2 : k < N := by omega
    simp only [if_pos h, if_pos h2]
  · simp only [if_neg h]
theorem psh_e {h : Nat → Nat} {f s j : Nat} {S : Nat → Int64} : (if inF h f s j then S s else 0) = psh h f S s j := rfl
section LAY
variable {I : ab_I} {J : ab_J} {Q : Option Value → ab_I → ab_J → Prop} {x x1 x2 : Int32} {u : Int64}
set_option maxRecDepth 100000 in
theorem c21_5 {h : Nat → Nat} {f : Nat} {S : Nat → Int64} (hf : I 5 12 = nI f) (hf2 : f < 16) (hh : ∀ s, s < 12 → I 7 s = nI (h s) ∧ h s < 16) (hS : J 8 = S) : Cal 21 [.ref 5] I J Q ↔ Q none I (va_up J 12 (fll (rS h f S 12) (J 12) 9)) := by
  refine Cal_iff ?_
  rw [en21]
  simp only [k21_0, k21_1, Option.toList_some, Option.toList_none, List.cons_append, List.nil_append, nl_i, nl_r, nl_l, nl_n]
  have key : ∀ a2 : Option Value, At 21 2 [some (.ref 5), some (.int (nI 0)), a2, none] [] I (va_up J 12 (fll (rw0 f) (J 12) (3 * 0))) (fun v' I1 J1 => v' = none ∧ I1 = I ∧ J1 = va_up J 12 (fll (rS h f S 12) (J 12) 9)) := by
    refine loop_dn (N := 3) (P := fun i => ∀ a2 : Option Value, At 21 2 [some (.ref 5), some (.int (nI i)), a2, none] [] I (va_up J 12 (fll (rw0 f) (J 12) (3 * i))) (fun v' I1 J1 => v' = none ∧ I1 = I ∧ J1 = va_up J 12 (fll (rS h f S 12) (J 12) 9))) ?_ ?_
    · intro a2
      rw [k21_2]
      simp (disch := omega) only [k21_3, k21_4, k21_56, k21_57, Option.toList_some, Option.toList_none, List.cons_append, List.nil_append, nl_i, nl_r, nl_l, nl_n, nI_leI, Nat.le_refl, ↓reduceIte]
      have key2 : ∀ a2 a3 : Option Value, At 21 58 [some (.ref 5), some (.int (nI 0)), a2, a3] [] I (va_up J 12 (fll (rS h f S 0) (J 12) 9)) (fun v' I1 J1 => v' = none ∧ I1 = I ∧ J1 = va_up J 12 (fll (rS h f S 12) (J 12) 9)) := by
        refine loop_dn (N := 12) (P := fun s => ∀ a2 a3 : Option Value, At 21 58 [some (.ref 5), some (.int (nI s)), a2, a3] [] I (va_up J 12 (fll (rS h f S s) (J 12) 9)) (fun v' I1 J1 => v' = none ∧ I1 = I ∧ J1 = va_up J 12 (fll (rS h f S 12) (J 12) 9))) ?_ ?_
        · intro a2 a3
          rw [k21_58]
          simp (disch := omega) only [k21_59, k21_61, k21_140, nI_leI, Nat.le_refl, ↓reduceIte, and_self]
        · intro s hs ih a2 a3
          have e0 : ¬ 12 ≤ s := by omega
          obtain ⟨h1, h2⟩ := hh s hs
          rw [k21_58]
          simp (disch := omega) only [k21_59, k21_61, k21_64, k21_65, Option.toList_some, Option.toList_none, List.cons_append, List.nil_append, nl_i, nl_r, nl_l, nl_n, nI_leI, e0, ↓reduceIte]
          have key3 : ∀ a3 : Option Value, At 21 66 [some (.ref 5), some (.int (nI s)), some (.int (nI 0)), a3] [] I (va_up J 12 (fll (rI h f S s (rS h f S s) 0) (J 12) 9)) (fun v' I1 J1 => v' = none ∧ I1 = I ∧ J1 = va_up J 12 (fll (rS h f S 12) (J 12) 9)) := by
            refine loop_dn (N := 3) (P := fun i => ∀ a3 : Option Value, At 21 66 [some (.ref 5), some (.int (nI s)), some (.int (nI i)), a3] [] I (va_up J 12 (fll (rI h f S s (rS h f S s) i) (J 12) 9)) (fun v' I1 J1 => v' = none ∧ I1 = I ∧ J1 = va_up J 12 (fll (rS h f S 12) (J 12) 9))) ?_ ?_
            · intro a3
              rw [k21_66]
              simp (disch := omega) only [k21_67, k21_68, k21_134, k21_137, Option.toList_some, Option.toList_none, List.cons_append, List.nil_append, nl_i, nl_r, nl_l, nl_n, nI_leI, Nat.le_refl, ↓reduceIte, nI_add]
              exact ih _ _
            · intro i hi ih2 a3
              rw [rI] at ih2
              generalize rI h f S s (rS h f S s) i = g at ih2 ⊢
              have hS3 : (va_up J 12 (fll g (J 12) 9)) 8 = S := hS
              obtain rfl | rfl | rfl : i = 0 ∨ i = 1 ∨ i = 2 := by omega
              · rw [k21_66]
                simp (disch := omega) only [k21_0, k21_1, k21_3, k21_4, k21_7, k21_8, k21_10, k21_11, k21_14, k21_15_5, k21_15_17, k21_18, k21_19, k21_20, k21_21, k21_22, k21_23, k21_24, k21_25, k21_28, k21_29, k21_30, k21_31, k21_32_5, k21_32_17, k21_35, k21_38, k21_39, k21_42, k21_43, k21_44, k21_47, k21_50, k21_53, k21_56, k21_57, k21_59, k21_61, k21_64, k21_65, k21_67, k21_68, k21_71, k21_72, k21_73, k21_74_5, k21_74_17, k21_77, k21_80, k21_81_5, k21_81_17, k21_84, k21_85, k21_86, k21_87, k21_88, k21_89, k21_90, k21_91, k21_94, k21_95, k21_96, k21_97, k21_98, k21_99, k21_100, k21_103, k21_104_5, k21_104_17, k21_107, k21_108, k21_109, k21_110, k21_111, k21_112, k21_113, k21_114, k21_115, k21_116, k21_117_5, k21_117_17, k21_120, k21_121, k21_122, k21_125, k21_128, k21_131, k21_134, k21_137, k21_140, Option.toList_some, Option.toList_none, List.cons_append, List.nil_append, nl_i, nl_r, nl_l, nl_n, nI_leI, Nat.reduceLeDiff, ↓reduceIte, c24_5 hf hs (show 0 < 3 by decide) h1 h2, c23_5 hf hs (show 0 < 3 by decide) h1 h2, c23_5 hf hs (show 1 < 3 by decide) h1 h2, c23_5 hf hs (show 2 < 3 by decide) h1 h2, bI_0, pk_mul, nI_add, nI_clamp, bnd, ly_12, Nat.reduceLT, Nat.reduceAdd, Nat.reduceMul, true_and, and_true, va_up_s, up_ne, up_same, up_comm, fll_upg, fll_lt, hS, psh_e]
                split
                · rename_i hq
                  rw [rst, if_pos hq] at ih2
                  exact ih2 _
                · rename_i hq
                  rw [rst_0 hq] at ih2
                  exact ih2 _
              · rw [k21_66]
                simp (disch := omega) only [k21_0, k21_1, k21_3, k21_4, k21_7, k21_8, k21_10, k21_11, k21_14, k21_15_5, k21_15_17, k21_18, k21_19, k21_20, k21_21, k21_22, k21_23, k21_24, k21_25, k21_28, k21_29, k21_30, k21_31, k21_32_5, k21_32_17, k21_35, k21_38, k21_39, k21_42, k21_43, k21_44, k21_47, k21_50, k21_53, k21_56, k21_57, k21_59, k21_61, k21_64, k21_65, k21_67, k21_68, k21_71, k21_72, k21_73, k21_74_5, k21_74_17, k21_77, k21_80, k21_81_5, k21_81_17, k21_84, k21_85, k21_86, k21_87, k21_88, k21_89, k21_90, k21_91, k21_94, k21_95, k21_96, k21_97, k21_98, k21_99, k21_100, k21_103, k21_104_5, k21_104_17, k21_107, k21_108, k21_109, k21_110, k21_111, k21_112, k21_113, k21_114, k21_115, k21_116, k21_117_5, k21_117_17, k21_120, k21_121, k21_122, k21_125, k21_128, k21_131, k21_134, k21_137, k21_140, Option.toList_some, Option.toList_none, List.cons_append, List.nil_append, nl_i, nl_r, nl_l, nl_n, nI_leI, Nat.reduceLeDiff, ↓reduceIte, c24_5 hf hs (show 1 < 3 by decide) h1 h2, c23_5 hf hs (show 0 < 3 by decide) h1 h2, c23_5 hf hs (show 1 < 3 by decide) h1 h2, c23_5 hf hs (show 2 < 3 by decide) h1 h2, bI_0, pk_mul, nI_add, nI_clamp, bnd, ly_12, Nat.reduceLT, Nat.reduceAdd, Nat.reduceMul, true_and, and_true, va_up_s, up_ne, up_same, up_comm, fll_upg, fll_lt, hS, psh_e]
                split
                · rename_i hq
                  rw [rst, if_pos hq] at ih2
                  exact ih2 _
                · rename_i hq
                  rw [rst_1 hq] at ih2
                  exact ih2 _
              · rw [k21_66]
                simp (disch := omega) only [k21_0, k21_1, k21_3, k21_4, k21_7, k21_8, k21_10, k21_11, k21_14, k21_15_5, k21_15_17, k21_18, k21_19, k21_20, k21_21, k21_22, k21_23, k21_24, k21_25, k21_28, k21_29, k21_30, k21_31, k21_32_5, k21_32_17, k21_35, k21_38, k21_39, k21_42, k21_43, k21_44, k21_47, k21_50, k21_53, k21_56, k21_57, k21_59, k21_61, k21_64, k21_65, k21_67, k21_68, k21_71, k21_72, k21_73, k21_74_5, k21_74_17, k21_77, k21_80, k21_81_5, k21_81_17, k21_84, k21_85, k21_86, k21_87, k21_88, k21_89, k21_90, k21_91, k21_94, k21_95, k21_96, k21_97, k21_98, k21_99, k21_100, k21_103, k21_104_5, k21_104_17, k21_107, k21_108, k21_109, k21_110, k21_111, k21_112, k21_113, k21_114, k21_115, k21_116, k21_117_5, k21_117_17, k21_120, k21_121, k21_122, k21_125, k21_128, k21_131, k21_134, k21_137, k21_140, Option.toList_some, Option.toList_none, List.cons_append, List.nil_append, nl_i, nl_r, nl_l, nl_n, nI_leI, Nat.reduceLeDiff, ↓reduceIte, c24_5 hf hs (show 2 < 3 by decide) h1 h2, c23_5 hf hs (show 0 < 3 by decide) h1 h2, c23_5 hf hs (show 1 < 3 by decide) h1 h2, c23_5 hf hs (show 2 < 3 by decide) h1 h2, bI_0, pk_mul, nI_add, nI_clamp, bnd, ly_12, Nat.reduceLT, Nat.reduceAdd, Nat.reduceMul, true_and, and_true, va_up_s, up_ne, up_same, up_comm, fll_upg, fll_lt, hS, psh_e]
                split
                · rename_i hq
                  rw [rst, if_pos hq] at ih2
                  exact ih2 _
                · rename_i hq
                  rw [rst_2 hq] at ih2
                  exact ih2 _
          exact key3 _
      exact key2 _ _
    · intro i hi ih a2
      have e0 : ¬ 3 ≤ i := by omega
      rw [k21_2]
      simp (disch := omega) only [k21_3, k21_4, k21_7, k21_8, Option.toList_some, Option.toList_none, List.cons_append, List.nil_append, nl_i, nl_r, nl_l, nl_n, nI_leI, e0, ↓reduceIte]
      refine loop_dn (N := 3) (P := fun j => At 21 9 [some (.ref 5), some (.int (nI i)), some (.int (nI j)), none] [] I (va_up J 12 (fll (rw0 f) (J 12) (3 * i + j))) (fun v' I1 J1 => v' = none ∧ I1 = I ∧ J1 = va_up J 12 (fll (rS h f S 12) (J 12) 9))) ?_ ?_
      · rw [k21_9]
        simp (disch := omega) only [k21_10, k21_11, k21_50, k21_53, Option.toList_some, Option.toList_none, List.cons_append, List.nil_append, nl_i, nl_r, nl_l, nl_n, nI_leI, Nat.le_refl, ↓reduceIte, nI_add]
        exact ih _
      · intro j hj ihj
        have e1 : ¬ 3 ≤ j := by omega
        have d1 : (3 * i + j) / 3 = i := by omega
        have d2 : (3 * i + j) % 3 = j := by omega
        rw [show 3 * i + (j + 1) = 3 * i + j + 1 from rfl, ← fll_s, rw0, d1, d2] at ihj
        rw [k21_9]
        simp (disch := omega) only [k21_0, k21_1, k21_3, k21_4, k21_7, k21_8, k21_10, k21_11, k21_14, k21_15_5, k21_15_17, k21_18, k21_19, k21_20, k21_21, k21_22, k21_23, k21_24, k21_25, k21_28, k21_29, k21_30, k21_31, k21_32_5, k21_32_17, k21_35, k21_38, k21_39, k21_42, k21_43, k21_44, k21_47, k21_50, k21_53, k21_56, k21_57, k21_59, k21_61, k21_64, k21_65, k21_67, k21_68, k21_71, k21_72, k21_73, k21_74_5, k21_74_17, k21_77, k21_80, k21_81_5, k21_81_17, k21_84, k21_85, k21_86, k21_87, k21_88, k21_89, k21_90, k21_91, k21_94, k21_95, k21_96, k21_97, k21_98, k21_99, k21_100, k21_103, k21_104_5, k21_104_17, k21_107, k21_108, k21_109, k21_110, k21_111, k21_112, k21_113, k21_114, k21_115, k21_116, k21_117_5, k21_117_17, k21_120, k21_121, k21_122, k21_125, k21_128, k21_131, k21_134, k21_137, k21_140, Option.toList_some, Option.toList_none, List.cons_append, List.nil_append, nl_i, nl_r, nl_l, nl_n, nI_leI, e1, ↓reduceIte, c22_5 hf hf2 (show i + 1 < 4 by omega), bI_0, pk_mul, nI_add, nI_clamp, bnd, ly_12, Nat.reduceLT, true_and, and_true, va_up_s, up_same, nIeq]
        split
        · rename_i hq
          rw [if_neg (fun z => hq z.1)] at ihj
          exact ihj
        · rename_i hq
          have hq := Classical.not_not.mp hq
          split
          · rename_i hq2
            rw [if_neg (fun z => hq2 z.2)] at ihj
            exact ihj
          · rename_i hq2
            rw [if_pos ⟨hq, Classical.not_not.mp hq2⟩] at ihj
            exact ihj
  have key := key none
  rw [show 3 * 0 = 0 from rfl, fll_0, up_id] at key
  exact key
set_option maxRecDepth 100000 in
theorem c21_17 {h : Nat → Nat} {f : Nat} {S : Nat → Int64} (hf : I 17 12 = nI f) (hf2 : f < 16) (hh : ∀ s, s < 12 → I 19 s = nI (h s) ∧ h s < 16) (hS : J 20 = S) : Cal 21 [.ref 17] I J Q ↔ Q none I (va_up J 24 (fll (rS h f S 12) (J 24) 9)) := by
  refine Cal_iff ?_
  rw [en21]
  simp only [k21_0, k21_1, Option.toList_some, Option.toList_none, List.cons_append, List.nil_append, nl_i, nl_r, nl_l, nl_n]
  have key : ∀ a2 : Option Value, At 21 2 [some (.ref 17), some (.int (nI 0)), a2, none] [] I (va_up J 24 (fll (rw0 f) (J 24) (3 * 0))) (fun v' I1 J1 => v' = none ∧ I1 = I ∧ J1 = va_up J 24 (fll (rS h f S 12) (J 24) 9)) := by
    refine loop_dn (N := 3) (P := fun i => ∀ a2 : Option Value, At 21 2 [some (.ref 17), some (.int (nI i)), a2, none] [] I (va_up J 24 (fll (rw0 f) (J 24) (3 * i))) (fun v' I1 J1 => v' = none ∧ I1 = I ∧ J1 = va_up J 24 (fll (rS h f S 12) (J 24) 9))) ?_ ?_
    · intro a2
      rw [k21_2]
      simp (disch := omega) only [k21_3, k21_4, k21_56, k21_57, Option.toList_some, Option.toList_none, List.cons_append, List.nil_append, nl_i, nl_r, nl_l, nl_n, nI_leI, Nat.le_refl, ↓reduceIte]
      have key2 : ∀ a2 a3 : Option Value, At 21 58 [some (.ref 17), some (.int (nI 0)), a2, a3] [] I (va_up J 24 (fll (rS h f S 0) (J 24) 9)) (fun v' I1 J1 => v' = none ∧ I1 = I ∧ J1 = va_up J 24 (fll (rS h f S 12) (J 24) 9)) := by
        refine loop_dn (N := 12) (P := fun s => ∀ a2 a3 : Option Value, At 21 58 [some (.ref 17), some (.int (nI s)), a2, a3] [] I (va_up J 24 (fll (rS h f S s) (J 24) 9)) (fun v' I1 J1 => v' = none ∧ I1 = I ∧ J1 = va_up J 24 (fll (rS h f S 12) (J 24) 9))) ?_ ?_
        · intro a2 a3
          rw [k21_58]
          simp (disch := omega) only [k21_59, k21_61, k21_140, nI_leI, Nat.le_refl, ↓reduceIte, and_self]
        · intro s hs ih a2 a3
          have e0 : ¬ 12 ≤ s := by omega
          obtain ⟨h1, h2⟩ := hh s hs
          rw [k21_58]
          simp (disch := omega) only [k21_59, k21_61, k21_64, k21_65, Option.toList_some, Option.toList_none, List.cons_append, List.nil_append, nl_i, nl_r, nl_l, nl_n, nI_leI, e0, ↓reduceIte]
          have key3 : ∀ a3 : Option Value, At 21 66 [some (.ref 17), some (.int (nI s)), some (.int (nI 0)), a3] [] I (va_up J 24 (fll (rI h f S s (rS h f S s) 0) (J 24) 9)) (fun v' I1 J1 => v' = none ∧ I1 = I ∧ J1 = va_up J 24 (fll (rS h f S 12) (J 24) 9)) := by
            refine loop_dn (N := 3) (P := fun i => ∀ a3 : Option Value, At 21 66 [some (.ref 17), some (.int (nI s)), some (.int (nI i)), a3] [] I (va_up J 24 (fll (rI h f S s (rS h f S s) i) (J 24) 9)) (fun v' I1 J1 => v' = none ∧ I1 = I ∧ J1 = va_up J 24 (fll (rS h f S 12) (J 24) 9))) ?_ ?_
            · intro a3
              rw [k21_66]
              simp (disch := omega) only [k21_67, k21_68, k21_134, k21_137, Option.toList_some, Option.toList_none, List.cons_append, List.nil_append, nl_i, nl_r, nl_l, nl_n, nI_leI, Nat.le_refl, ↓reduceIte, nI_add]
              exact ih _ _
            · intro i hi ih2 a3
              rw [rI] at ih2
              generalize rI h f S s (rS h f S s) i = g at ih2 ⊢
              have hS3 : (va_up J 24 (fll g (J 24) 9)) 20 = S := hS
              obtain rfl | rfl | rfl : i = 0 ∨ i = 1 ∨ i = 2 := by omega
              · rw [k21_66]
                simp (disch := omega) only [k21_0, k21_1, k21_3, k21_4, k21_7, k21_8, k21_10, k21_11, k21_14, k21_15_5, k21_15_17, k21_18, k21_19, k21_20, k21_21, k21_22, k21_23, k21_24, k21_25, k21_28, k21_29, k21_30, k21_31, k21_32_5, k21_32_17, k21_35, k21_38, k21_39, k21_42, k21_43, k21_44, k21_47, k21_50, k21_53, k21_56, k21_57, k21_59, k21_61, k21_64, k21_65, k21_67, k21_68, k21_71, k21_72, k21_73, k21_74_5, k21_74_17, k21_77, k21_80, k21_81_5, k21_81_17, k21_84, k21_85, k21_86, k21_87, k21_88, k21_89, k21_90, k21_91, k21_94, k21_95, k21_96, k21_97, k21_98, k21_99, k21_100, k21_103, k21_104_5, k21_104_17, k21_107, k21_108, k21_109, k21_110, k21_111, k21_112, k21_113, k21_114, k21_115, k21_116, k21_117_5, k21_117_17, k21_120, k21_121, k21_122, k21_125, k21_128, k21_131, k21_134, k21_137, k21_140, Option.toList_some, Option.toList_none, List.cons_append, List.nil_append, nl_i, nl_r, nl_l, nl_n, nI_leI, Nat.reduceLeDiff, ↓reduceIte, c24_17 hf hs (show 0 < 3 by decide) h1 h2, c23_17 hf hs (show 0 < 3 by decide) h1 h2, c23_17 hf hs (show 1 < 3 by decide) h1 h2, c23_17 hf hs (show 2 < 3 by decide) h1 h2, bI_0, pk_mul, nI_add, nI_clamp, bnd, ly_24, Nat.reduceLT, Nat.reduceAdd, Nat.reduceMul, true_and, and_true, va_up_s, up_ne, up_same, up_comm, fll_upg, fll_lt, hS, psh_e]
                split
                · rename_i hq
                  rw [rst, if_pos hq] at ih2
                  exact ih2 _
                · rename_i hq
                  rw [rst_0 hq] at ih2
                  exact ih2 _
              · rw [k21_66]
                simp (disch := omega) only [k21_0, k21_1, k21_3, k21_4, k21_7, k21_8, k21_10, k21_11, k21_14, k21_15_5, k21_15_17, k21_18, k21_19, k21_20, k21_21, k21_22, k21_23, k21_24, k21_25, k21_28, k21_29, k21_30, k21_31, k21_32_5, k21_32_17, k21_35, k21_38, k21_39, k21_42, k21_43, k21_44, k21_47, k21_50, k21_53, k21_56, k21_57, k21_59, k21_61, k21_64, k21_65, k21_67, k21_68, k21_71, k21_72, k21_73, k21_74_5, k21_74_17, k21_77, k21_80, k21_81_5, k21_81_17, k21_84, k21_85, k21_86, k21_87, k21_88, k21_89, k21_90, k21_91, k21_94, k21_95, k21_96, k21_97, k21_98, k21_99, k21_100, k21_103, k21_104_5, k21_104_17, k21_107, k21_108, k21_109, k21_110, k21_111, k21_112, k21_113, k21_114, k21_115, k21_116, k21_117_5, k21_117_17, k21_120, k21_121, k21_122, k21_125, k21_128, k21_131, k21_134, k21_137, k21_140, Option.toList_some, Option.toList_none, List.cons_append, List.nil_append, nl_i, nl_r, nl_l, nl_n, nI_leI, Nat.reduceLeDiff, ↓reduceIte, c24_17 hf hs (show 1 < 3 by decide) h1 h2, c23_17 hf hs (show 0 < 3 by decide) h1 h2, c23_17 hf hs (show 1 < 3 by decide) h1 h2, c23_17 hf hs (show 2 < 3 by decide) h1 h2, bI_0, pk_mul, nI_add, nI_clamp, bnd, ly_24, Nat.reduceLT, Nat.reduceAdd, Nat.reduceMul, true_and, and_true, va_up_s, up_ne, up_same, up_comm, fll_upg, fll_lt, hS, psh_e]
                split
                · rename_i hq
                  rw [rst, if_pos hq] at ih2
                  exact ih2 _
                · rename_i hq
                  rw [rst_1 hq] at ih2
                  exact ih2 _
              · rw [k21_66]
                simp (disch := omega) only [k21_0, k21_1, k21_3, k21_4, k21_7, k21_8, k21_10, k21_11, k21_14, k21_15_5, k21_15_17, k21_18, k21_19, k21_20, k21_21, k21_22, k21_23, k21_24, k21_25, k21_28, k21_29, k21_30, k21_31, k21_32_5, k21_32_17, k21_35, k21_38, k21_39, k21_42, k21_43, k21_44, k21_47, k21_50, k21_53, k21_56, k21_57, k21_59, k21_61, k21_64, k21_65, k21_67, k21_68, k21_71, k21_72, k21_73, k21_74_5, k21_74_17, k21_77, k21_80, k21_81_5, k21_81_17, k21_84, k21_85, k21_86, k21_87, k21_88, k21_89, k21_90, k21_91, k21_94, k21_95, k21_96, k21_97, k21_98, k21_99, k21_100, k21_103, k21_104_5, k21_104_17, k21_107, k21_108, k21_109, k21_110, k21_111, k21_112, k21_113, k21_114, k21_115, k21_116, k21_117_5, k21_117_17, k21_120, k21_121, k21_122, k21_125, k21_128, k21_131, k21_134, k21_137, k21_140, Option.toList_some, Option.toList_none, List.cons_append, List.nil_append, nl_i, nl_r, nl_l, nl_n, nI_leI, Nat.reduceLeDiff, ↓reduceIte, c24_17 hf hs (show 2 < 3 by decide) h1 h2, c23_17 hf hs (show 0 < 3 by decide) h1 h2, c23_17 hf hs (show 1 < 3 by decide) h1 h2, c23_17 hf hs (show 2 < 3 by decide) h1 h2, bI_0, pk_mul, nI_add, nI_clamp, bnd, ly_24, Nat.reduceLT, Nat.reduceAdd, Nat.reduceMul, true_and, and_true, va_up_s, up_ne, up_same, up_comm, fll_upg, fll_lt, hS, psh_e]
                split
                · rename_i hq
                  rw [rst, if_pos hq] at ih2
                  exact ih2 _
                · rename_i hq
                  rw [rst_2 hq] at ih2
                  exact ih2 _
          exact key3 _
      exact key2 _ _
    · intro i hi ih a2
      have e0 : ¬ 3 ≤ i := by omega
      rw [k21_2]
      simp (disch := omega) only [k21_3, k21_4, k21_7, k21_8, Option.toList_some, Option.toList_none, List.cons_append, List.nil_append, nl_i, nl_r, nl_l, nl_n, nI_leI, e0, ↓reduceIte]
      refine loop_dn (N := 3) (P := fun j => At 21 9 [some (.ref 17), some (.int (nI i)), some (.int (nI j)), none] [] I (va_up J 24 (fll (rw0 f) (J 24) (3 * i + j))) (fun v' I1 J1 => v' = none ∧ I1 = I ∧ J1 = va_up J 24 (fll (rS h f S 12) (J 24) 9))) ?_ ?_
      · rw [k21_9]
        simp (disch := omega) only [k21_10, k21_11, k21_50, k21_53, Option.toList_some, Option.toList_none, List.cons_append, List.nil_append, nl_i, nl_r, nl_l, nl_n, nI_leI, Nat.le_refl, ↓reduceIte, nI_add]
        exact ih _
      · intro j hj ihj
        have e1 : ¬ 3 ≤ j := by omega
        have d1 : (3 * i + j) / 3 = i := by omega
        have d2 : (3 * i + j) % 3 = j := by omega
        rw [show 3 * i + (j + 1) = 3 * i + j + 1 from rfl, ← fll_s, rw0, d1, d2] at ihj
        rw [k21_9]
        simp (disch := omega) only [k21_0, k21_1, k21_3, k21_4, k21_7, k21_8, k21_10, k21_11, k21_14, k21_15_5, k21_15_17, k21_18, k21_19, k21_20, k21_21, k21_22, k21_23, k21_24, k21_25, k21_28, k21_29, k21_30, k21_31, k21_32_5, k21_32_17, k21_35, k21_38, k21_39, k21_42, k21_43, k21_44, k21_47, k21_50, k21_53, k21_56, k21_57, k21_59, k21_61, k21_64, k21_65, k21_67, k21_68, k21_71, k21_72, k21_73, k21_74_5, k21_74_17, k21_77, k21_80, k21_81_5, k21_81_17, k21_84, k21_85, k21_86, k21_87, k21_88, k21_89, k21_90, k21_91, k21_94, k21_95, k21_96, k21_97, k21_98, k21_99, k21_100, k21_103, k21_104_5, k21_104_17, k21_107, k21_108, k21_109, k21_110, k21_111, k21_112, k21_113, k21_114, k21_115, k21_116, k21_117_5, k21_117_17, k21_120, k21_121, k21_122, k21_125, k21_128, k21_131, k21_134, k21_137, k21_140, Option.toList_some, Option.toList_none, List.cons_append, List.nil_append, nl_i, nl_r, nl_l, nl_n, nI_leI, e1, ↓reduceIte, c22_17 hf hf2 (show i + 1 < 4 by omega), bI_0, pk_mul, nI_add, nI_clamp, bnd, ly_24, Nat.reduceLT, true_and, and_true, va_up_s, up_same, nIeq]
        split
        · rename_i hq
          rw [if_neg (fun z => hq z.1)] at ihj
          exact ihj
        · rename_i hq
          have hq := Classical.not_not.mp hq
          split
          · rename_i hq2
            rw [if_neg (fun z => hq2 z.2)] at ihj
            exact ihj
          · rename_i hq2
            rw [if_pos ⟨hq, Classical.not_not.mp hq2⟩] at ihj
            exact ihj
  have key := key none
  rw [show 3 * 0 = 0 from rfl, fll_0, up_id] at key
  exact key
end LAY
