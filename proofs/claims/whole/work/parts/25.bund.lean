/-! CONTRACTS: findBundles, isFree, isIn, push -/
/-- the place of the least bit; 4 without one -/
def lbn (a : Nat) : Nat := if a.testBit 0 then 0 else if a.testBit 1 then 1 else if a.testBit 2 then 2 else if a.testBit 3 then 3 else 4
theorem lbn_le (a : Nat) : lbn a ≤ 4 := by unfold lbn; split <;> (try split) <;> (try split) <;> (try split) <;> omega
theorem lbit_eq (a : Nat) : lbit a = if lbn a = 4 then -1 else nI (lbn a) := by
  unfold lbit lbn
  cases a.testBit 0 <;> cases a.testBit 1 <;> cases a.testBit 2 <;> cases a.testBit 3 <;> rfl
theorem nI_m1 {n : Nat} (h : n < 2 ^ 31) : ¬ nI n = -1 := by
  rw [i_eq, nI_toInt h, tm1]
  omega
theorem lbit_m1 (a : Nat) : (lbit a = -1) = (lbn a = 4) := by
  rw [lbit_eq]
  have := lbn_le a
  split
  · rename_i q; simp [q]
  · rename_i q
    exact propext ⟨fun z => absurd z (nI_m1 (by omega)), fun z => absurd z q⟩
/-- the free markers, the first m looked at: marked, and not the least of their bundle -/
def fr (w : Nat → Nat) : Nat → Nat
  | 0 => 0
  | m + 1 => if lbn (w m) = 4 then fr w m else if lbn (w m) = m then fr w m else fr w m ||| 2 ^ m
theorem fr_lt (w : Nat → Nat) : ∀ m, m ≤ 4 → fr w m < 16
  | 0, _ => by show 0 < 16; decide
  | m + 1, hm => by
    have ih := fr_lt w m (by omega)
    unfold fr
    split
    · exact ih
    · split
      · exact ih
      · exact Nat.or_lt_two_pow (n := 4) ih (Nat.pow_lt_pow_right (by decide) (by omega))
def sbF (w h : Nat → Nat) (s : Nat) : Int32 := if lbn (h s) = 4 then -1 else lbit (w (lbn (h s)))
section BUND
variable {I : ab_I} {J : ab_J} {Q : Option Value → ab_I → ab_J → Prop} {x x1 x2 : Int32} {u : Int64}
theorem nIeq {a b : Nat} (ha : a < 2 ^ 31) (hb : b < 2 ^ 31) : (nI a = nI b) = (a = b) := propext (nI_eq ha hb)
set_option maxRecDepth 100000 in
theorem c20_5 {w h : Nat → Nat} (hr : ∀ m, m < 4 → I 9 m = nI (w m) ∧ w m < 16) (hh : ∀ s, s < 12 → I 7 s = nI (h s) ∧ h s < 16) : Cal 20 [.ref 5] I J Q ↔ Q none (va_up (va_up (va_up I 5 (va_up (I 5) 12 (nI (fr w 4)))) 10 (fll (fun m => lbit (w m)) (I 10) 4)) 11 (fll (sbF w h) (I 11) 12)) J := by
  refine Cal_iff ?_
  rw [en20]
  simp only [k20_0, k20_1, k20_2_5, k20_5, k20_6, Option.toList_some, Option.toList_none, List.cons_append, List.nil_append, nl_i, nl_r, nl_l, nl_n]
  have key : ∀ a2 : Option Value, At 20 7 [some (.ref 5), some (.int (nI 0)), a2] [] (va_up (va_up I 5 (va_up (I 5) 12 (nI (fr w 0)))) 10 (fll (fun m => lbit (w m)) (I 10) 0)) J (fun v' I1 J1 => v' = none ∧ I1 = va_up (va_up (va_up I 5 (va_up (I 5) 12 (nI (fr w 4)))) 10 (fll (fun m => lbit (w m)) (I 10) 4)) 11 (fll (sbF w h) (I 11) 12) ∧ J1 = J) := by
    refine loop_dn (N := 4) (P := fun i => ∀ a2 : Option Value, At 20 7 [some (.ref 5), some (.int (nI i)), a2] [] (va_up (va_up I 5 (va_up (I 5) 12 (nI (fr w i)))) 10 (fll (fun m => lbit (w m)) (I 10) i)) J (fun v' I1 J1 => v' = none ∧ I1 = va_up (va_up (va_up I 5 (va_up (I 5) 12 (nI (fr w 4)))) 10 (fll (fun m => lbit (w m)) (I 10) 4)) 11 (fll (sbF w h) (I 11) 12) ∧ J1 = J)) ?_ ?_
    · intro a2
      rw [k20_7]
      simp (disch := omega) only [k20_8, k20_9, k20_65, k20_66, Option.toList_some, Option.toList_none, List.cons_append, List.nil_append, nl_i, nl_r, nl_l, nl_n, nI_leI, Nat.le_refl, ↓reduceIte]
      have key2 : ∀ a2 : Option Value, At 20 67 [some (.ref 5), some (.int (nI 0)), a2] [] (va_up (va_up (va_up I 5 (va_up (I 5) 12 (nI (fr w 4)))) 10 (fll (fun m => lbit (w m)) (I 10) 4)) 11 (fll (sbF w h) (I 11) 0)) J (fun v' I1 J1 => v' = none ∧ I1 = va_up (va_up (va_up I 5 (va_up (I 5) 12 (nI (fr w 4)))) 10 (fll (fun m => lbit (w m)) (I 10) 4)) 11 (fll (sbF w h) (I 11) 12) ∧ J1 = J) := by
        refine loop_dn (N := 12) (P := fun i => ∀ a2 : Option Value, At 20 67 [some (.ref 5), some (.int (nI i)), a2] [] (va_up (va_up (va_up I 5 (va_up (I 5) 12 (nI (fr w 4)))) 10 (fll (fun m => lbit (w m)) (I 10) 4)) 11 (fll (sbF w h) (I 11) i)) J (fun v' I1 J1 => v' = none ∧ I1 = va_up (va_up (va_up I 5 (va_up (I 5) 12 (nI (fr w 4)))) 10 (fll (fun m => lbit (w m)) (I 10) 4)) 11 (fll (sbF w h) (I 11) 12) ∧ J1 = J)) ?_ ?_
        · intro a2
          rw [k20_67]
          simp (disch := omega) only [k20_68, k20_70, k20_110, nI_leI, Nat.le_refl, ↓reduceIte, and_self]
        · intro i hi ih a2
          have e0 : ¬ 12 ≤ i := by omega
          obtain ⟨h1, h2⟩ := hh i hi
          have ih2 := ih (some (.int (lbit (h i))))
          rw [← fll_s (sbF w h) (I 11) i] at ih2
          have hl := lbn_le (h i)
          rw [k20_67]
          simp (disch := omega) only [k20_68, k20_70, k20_73, k20_74_5, k20_77, k20_78, k20_79, k20_82, k20_83, k20_84_5, k20_87, k20_88, k20_89, k20_90, k20_93, k20_94, Option.toList_some, Option.toList_none, List.cons_append, List.nil_append, nl_i, nl_r, nl_l, nl_n, up_ne, va_up_s, h1, c124 h2, lbit_m1, nI_leI, e0, ↓reduceIte, nI_clamp, bnd, true_and, and_true, ly_7, Nat.reduceLT]
          split
          · rename_i hq
            have e2 : lbit (h i) = nI (lbn (h i)) := by rw [lbit_eq, if_neg hq]
            have e3 : sbF w h i = lbit (w (lbn (h i))) := if_neg hq
            rw [e2] at ih2 ⊢
            rw [e3] at ih2
            have hl4 : lbn (h i) < 4 := by omega
            simp (disch := omega) only [k20_97, k20_98_5, k20_101, k20_102, k20_103, k20_104, k20_107, Option.toList_some, Option.toList_none, List.cons_append, List.nil_append, nl_i, nl_r, nl_l, nl_n, up_ne, va_up_s, fll_lt, nI_clamp, bnd, true_and, and_true, ly_10, ly_11, Nat.reduceLT, up_same, nI_add]
            exact ih2
          · rename_i hq
            have hq' : lbn (h i) = 4 := Classical.not_not.mp hq
            have e3 : sbF w h i = -1 := if_pos hq'
            rw [e3] at ih2
            simp (disch := omega) only [k20_103, k20_104, k20_107, Option.toList_some, Option.toList_none, List.cons_append, List.nil_append, nl_i, nl_r, nl_l, nl_n, up_ne, va_up_s, nI_clamp, bnd, true_and, and_true, ly_11, Nat.reduceLT, up_same, nI_add]
            exact ih2
      have key2 := key2 a2
      rw [fll_0, show I 11 = (va_up (va_up I 5 (va_up (I 5) 12 (nI (fr w 4)))) 10 (fll (fun m => lbit (w m)) (I 10) 4)) 11 from rfl, up_id] at key2
      exact key2
    · intro i hi ih a2
      have e0 : ¬ 4 ≤ i := by omega
      obtain ⟨h1, h2⟩ := hr i hi
      have ih2 := ih a2
      have hl := lbn_le (w i)
      have hf := fr_lt w i (by omega)
      rw [k20_7]
      simp (disch := omega) only [k20_8, k20_9, k20_12, k20_13_5, k20_16, k20_17, k20_18_5, k20_21, k20_22, k20_23, k20_26, k20_27, k20_28_5, k20_31, k20_32, k20_33, k20_34, Option.toList_some, Option.toList_none, List.cons_append, List.nil_append, nl_i, nl_r, nl_l, nl_n, up_ne, va_up_s, h1, c124 h2, lbit_m1, nI_leI, e0, ↓reduceIte, nI_clamp, bnd, true_and, and_true, ly_9, ly_10, Nat.reduceLT, up_same, fll_s, fll_lt]
      rw [fr] at ih2
      split
      · rename_i hq
        rw [if_pos hq] at ih2
        simp (disch := omega) only [k20_59, k20_62, Option.toList_some, Option.toList_none, List.cons_append, List.nil_append, nl_i, nl_r, nl_l, nl_n, nI_add]
        exact ih2
      · rename_i hq
        rw [if_neg hq] at ih2
        have e2 : lbit (w i) = nI (lbn (w i)) := by rw [lbit_eq, if_neg hq]
        simp (disch := omega) only [k20_37, k20_38_5, k20_41, k20_42, k20_43, k20_44, Option.toList_some, Option.toList_none, List.cons_append, List.nil_append, nl_i, nl_r, nl_l, nl_n, up_ne, va_up_s, nI_clamp, bnd, true_and, and_true, ly_10, Nat.reduceLT, fll_lt, e2, nIeq]
        split
        · rename_i hq2
          rw [if_pos hq2] at ih2
          simp (disch := omega) only [k20_59, k20_62, Option.toList_some, Option.toList_none, List.cons_append, List.nil_append, nl_i, nl_r, nl_l, nl_n, nI_add]
          exact ih2
        · rename_i hq2
          rw [if_neg hq2] at ih2
          simp (disch := omega) only [k20_47, k20_48, k20_49_5, k20_52, k20_53, k20_54, k20_55, k20_56_5, k20_59, k20_62, Option.toList_some, Option.toList_none, List.cons_append, List.nil_append, nl_i, nl_r, nl_l, nl_n, nI_add, shl1, or_nI, up_ne, va_up_s, up_same, up_comm]
          exact ih2
  have key := key none
  rw [fll_0, show I 10 = (va_up I 5 (va_up (I 5) 12 (nI (fr w 0)))) 10 from rfl, up_id] at key
  exact key
set_option maxRecDepth 100000 in
theorem c20_17 {w h : Nat → Nat} (hr : ∀ m, m < 4 → I 21 m = nI (w m) ∧ w m < 16) (hh : ∀ s, s < 12 → I 19 s = nI (h s) ∧ h s < 16) : Cal 20 [.ref 17] I J Q ↔ Q none (va_up (va_up (va_up I 17 (va_up (I 17) 12 (nI (fr w 4)))) 22 (fll (fun m => lbit (w m)) (I 22) 4)) 23 (fll (sbF w h) (I 23) 12)) J := by
  refine Cal_iff ?_
  rw [en20]
  simp only [k20_0, k20_1, k20_2_17, k20_5, k20_6, Option.toList_some, Option.toList_none, List.cons_append, List.nil_append, nl_i, nl_r, nl_l, nl_n]
  have key : ∀ a2 : Option Value, At 20 7 [some (.ref 17), some (.int (nI 0)), a2] [] (va_up (va_up I 17 (va_up (I 17) 12 (nI (fr w 0)))) 22 (fll (fun m => lbit (w m)) (I 22) 0)) J (fun v' I1 J1 => v' = none ∧ I1 = va_up (va_up (va_up I 17 (va_up (I 17) 12 (nI (fr w 4)))) 22 (fll (fun m => lbit (w m)) (I 22) 4)) 23 (fll (sbF w h) (I 23) 12) ∧ J1 = J) := by
    refine loop_dn (N := 4) (P := fun i => ∀ a2 : Option Value, At 20 7 [some (.ref 17), some (.int (nI i)), a2] [] (va_up (va_up I 17 (va_up (I 17) 12 (nI (fr w i)))) 22 (fll (fun m => lbit (w m)) (I 22) i)) J (fun v' I1 J1 => v' = none ∧ I1 = va_up (va_up (va_up I 17 (va_up (I 17) 12 (nI (fr w 4)))) 22 (fll (fun m => lbit (w m)) (I 22) 4)) 23 (fll (sbF w h) (I 23) 12) ∧ J1 = J)) ?_ ?_
    · intro a2
      rw [k20_7]
      simp (disch := omega) only [k20_8, k20_9, k20_65, k20_66, Option.toList_some, Option.toList_none, List.cons_append, List.nil_append, nl_i, nl_r, nl_l, nl_n, nI_leI, Nat.le_refl, ↓reduceIte]
      have key2 : ∀ a2 : Option Value, At 20 67 [some (.ref 17), some (.int (nI 0)), a2] [] (va_up (va_up (va_up I 17 (va_up (I 17) 12 (nI (fr w 4)))) 22 (fll (fun m => lbit (w m)) (I 22) 4)) 23 (fll (sbF w h) (I 23) 0)) J (fun v' I1 J1 => v' = none ∧ I1 = va_up (va_up (va_up I 17 (va_up (I 17) 12 (nI (fr w 4)))) 22 (fll (fun m => lbit (w m)) (I 22) 4)) 23 (fll (sbF w h) (I 23) 12) ∧ J1 = J) := by
        refine loop_dn (N := 12) (P := fun i => ∀ a2 : Option Value, At 20 67 [some (.ref 17), some (.int (nI i)), a2] [] (va_up (va_up (va_up I 17 (va_up (I 17) 12 (nI (fr w 4)))) 22 (fll (fun m => lbit (w m)) (I 22) 4)) 23 (fll (sbF w h) (I 23) i)) J (fun v' I1 J1 => v' = none ∧ I1 = va_up (va_up (va_up I 17 (va_up (I 17) 12 (nI (fr w 4)))) 22 (fll (fun m => lbit (w m)) (I 22) 4)) 23 (fll (sbF w h) (I 23) 12) ∧ J1 = J)) ?_ ?_
        · intro a2
          rw [k20_67]
          simp (disch := omega) only [k20_68, k20_70, k20_110, nI_leI, Nat.le_refl, ↓reduceIte, and_self]
        · intro i hi ih a2
          have e0 : ¬ 12 ≤ i := by omega
          obtain ⟨h1, h2⟩ := hh i hi
          have ih2 := ih (some (.int (lbit (h i))))
          rw [← fll_s (sbF w h) (I 23) i] at ih2
          have hl := lbn_le (h i)
          rw [k20_67]
          simp (disch := omega) only [k20_68, k20_70, k20_73, k20_74_17, k20_77, k20_78, k20_79, k20_82, k20_83, k20_84_17, k20_87, k20_88, k20_89, k20_90, k20_93, k20_94, Option.toList_some, Option.toList_none, List.cons_append, List.nil_append, nl_i, nl_r, nl_l, nl_n, up_ne, va_up_s, h1, c124 h2, lbit_m1, nI_leI, e0, ↓reduceIte, nI_clamp, bnd, true_and, and_true, ly_19, Nat.reduceLT]
          split
          · rename_i hq
            have e2 : lbit (h i) = nI (lbn (h i)) := by rw [lbit_eq, if_neg hq]
            have e3 : sbF w h i = lbit (w (lbn (h i))) := if_neg hq
            rw [e2] at ih2 ⊢
            rw [e3] at ih2
            have hl4 : lbn (h i) < 4 := by omega
            simp (disch := omega) only [k20_97, k20_98_17, k20_101, k20_102, k20_103, k20_104, k20_107, Option.toList_some, Option.toList_none, List.cons_append, List.nil_append, nl_i, nl_r, nl_l, nl_n, up_ne, va_up_s, fll_lt, nI_clamp, bnd, true_and, and_true, ly_22, ly_23, Nat.reduceLT, up_same, nI_add]
            exact ih2
          · rename_i hq
            have hq' : lbn (h i) = 4 := Classical.not_not.mp hq
            have e3 : sbF w h i = -1 := if_pos hq'
            rw [e3] at ih2
            simp (disch := omega) only [k20_103, k20_104, k20_107, Option.toList_some, Option.toList_none, List.cons_append, List.nil_append, nl_i, nl_r, nl_l, nl_n, up_ne, va_up_s, nI_clamp, bnd, true_and, and_true, ly_23, Nat.reduceLT, up_same, nI_add]
            exact ih2
      have key2 := key2 a2
      rw [fll_0, show I 23 = (va_up (va_up I 17 (va_up (I 17) 12 (nI (fr w 4)))) 22 (fll (fun m => lbit (w m)) (I 22) 4)) 23 from rfl, up_id] at key2
      exact key2
    · intro i hi ih a2
      have e0 : ¬ 4 ≤ i := by omega
      obtain ⟨h1, h2⟩ := hr i hi
      have ih2 := ih a2
      have hl := lbn_le (w i)
      have hf := fr_lt w i (by omega)
      rw [k20_7]
      simp (disch := omega) only [k20_8, k20_9, k20_12, k20_13_17, k20_16, k20_17, k20_18_17, k20_21, k20_22, k20_23, k20_26, k20_27, k20_28_17, k20_31, k20_32, k20_33, k20_34, Option.toList_some, Option.toList_none, List.cons_append, List.nil_append, nl_i, nl_r, nl_l, nl_n, up_ne, va_up_s, h1, c124 h2, lbit_m1, nI_leI, e0, ↓reduceIte, nI_clamp, bnd, true_and, and_true, ly_21, ly_22, Nat.reduceLT, up_same, fll_s, fll_lt]
      rw [fr] at ih2
      split
      · rename_i hq
        rw [if_pos hq] at ih2
        simp (disch := omega) only [k20_59, k20_62, Option.toList_some, Option.toList_none, List.cons_append, List.nil_append, nl_i, nl_r, nl_l, nl_n, nI_add]
        exact ih2
      · rename_i hq
        rw [if_neg hq] at ih2
        have e2 : lbit (w i) = nI (lbn (w i)) := by rw [lbit_eq, if_neg hq]
        simp (disch := omega) only [k20_37, k20_38_17, k20_41, k20_42, k20_43, k20_44, Option.toList_some, Option.toList_none, List.cons_append, List.nil_append, nl_i, nl_r, nl_l, nl_n, up_ne, va_up_s, nI_clamp, bnd, true_and, and_true, ly_22, Nat.reduceLT, fll_lt, e2, nIeq]
        split
        · rename_i hq2
          rw [if_pos hq2] at ih2
          simp (disch := omega) only [k20_59, k20_62, Option.toList_some, Option.toList_none, List.cons_append, List.nil_append, nl_i, nl_r, nl_l, nl_n, nI_add]
          exact ih2
        · rename_i hq2
          rw [if_neg hq2] at ih2
          simp (disch := omega) only [k20_47, k20_48, k20_49_17, k20_52, k20_53, k20_54, k20_55, k20_56_17, k20_59, k20_62, Option.toList_some, Option.toList_none, List.cons_append, List.nil_append, nl_i, nl_r, nl_l, nl_n, nI_add, shl1, or_nI, up_ne, va_up_s, up_same, up_comm]
          exact ih2
  have key := key none
  rw [fll_0, show I 22 = (va_up I 17 (va_up (I 17) 12 (nI (fr w 0)))) 22 from rfl, up_id] at key
  exact key
end BUND
