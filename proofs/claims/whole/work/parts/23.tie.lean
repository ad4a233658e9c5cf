/-! CONTRACTS: who marked what (findHands, findReach, findBundles) -/
theorem or_nI (a b : Nat) : nI a ||| nI b = nI (a ||| b) := by
  apply Int32.toBitVec_inj.1
  show BitVec.ofNat 32 a ||| BitVec.ofNat 32 b = BitVec.ofNat 32 (a ||| b)
  apply BitVec.eq_of_getLsbD_eq
  intro i hi
  simp [hi]
theorem and_nI (a b : Nat) : nI a &&& nI b = nI (a &&& b) := by
  apply Int32.toBitVec_inj.1
  show BitVec.ofNat 32 a &&& BitVec.ofNat 32 b = BitVec.ofNat 32 (a &&& b)
  apply BitVec.eq_of_getLsbD_eq
  intro i hi
  simp [hi]
theorem shr1 {a m : Nat} (ha : a < 16) (hm : m < 4) : (((nI a >>> (nI m &&& 31)) &&& nI 1) = 0) = (a.testBit m = false) := by
  have h : ∀ a, a < 16 → ∀ m, m < 4 → ((((nI a >>> (nI m &&& 31)) &&& nI 1) = 0) ↔ (a.testBit m = false)) := by decide +kernel
  exact propext (h a ha m hm)
theorem shl1 {m : Nat} (hm : m < 4) : nI 1 <<< (nI m &&& 31) = nI (2 ^ m) := by
  have h : ∀ m, m < 4 → nI 1 <<< (nI m &&& 31) = nI (2 ^ m) := by decide +kernel
  exact h m hm
theorem shl2 {m : Nat} (hm : m < 3) : nI 2 <<< (nI m &&& 31) = nI (2 ^ (m + 1)) := by
  have h : ∀ m, m < 3 → nI 2 <<< (nI m &&& 31) = nI (2 ^ (m + 1)) := by decide +kernel
  exact h m hm
def pop (a : Nat) : Nat := a % 2 + a / 2 % 2 + a / 4 % 2 + a / 8 % 2
def lbit (a : Nat) : Int32 := if a.testBit 0 then nI 0 else if a.testBit 1 then nI 1 else if a.testBit 2 then nI 2 else if a.testBit 3 then nI 3 else -1
/-- the markers of a script, the first m looked at -/
def hb (c : Nat → Int32) (s : Nat) : Nat → Nat
  | 0 => 0
  | m + 1 => if c (4 * s + m) = -1 then hb c s m else hb c s m ||| 2 ^ m
def hnd (c : Nat → Int32) (s : Nat) : Nat := hb c s 4
theorem hb_lt (c : Nat → Int32) (s : Nat) : ∀ m, m ≤ 4 → hb c s m < 2 ^ m
  | 0, _ => by show 0 < 1; decide
  | m + 1, hm => by
    have ih := hb_lt c s m (by omega)
    unfold hb
    split
    · exact Nat.lt_of_lt_of_le ih (Nat.pow_le_pow_right (by decide) (by omega))
    · exact Nat.or_lt_two_pow (Nat.lt_of_lt_of_le ih (Nat.pow_le_pow_right (by decide) (by omega))) (Nat.pow_lt_pow_right (by decide) (by omega))
theorem hnd_lt (c : Nat → Int32) (s : Nat) : hnd c s < 16 := hb_lt c s 4 (Nat.le_refl 4)
/-- the first i places hold g -/
def fll {α : Type} (g f : Nat → α) (i : Nat) : Nat → α := fun k => if k < i then g k else f k
theorem fll_0 {α : Type} (g f : Nat → α) : fll g f 0 = f := by funext k; unfold fll; rw [if_neg (Nat.not_lt_zero k)]
theorem fll_s {α : Type} (g f : Nat → α) (i : Nat) : va_up (fll g f i) i (g i) = fll g f (i + 1) := by
  funext k
  unfold fll va_up
  by_cases h : k = i
  · rw [if_pos h, if_pos (by omega), h]
  · rw [if_neg h]
    by_cases h2 : k < i
    · have h3 : k < i + 1 := by omega
      simp only [if_pos h2, if_pos h3]
    · have h3 : ¬ k < i + 1 := by omega
      simp only [if_neg h2, if_neg h3]
theorem fll_lt {α : Type} {g f : Nat → α} {i k : Nat} (h : k < i) : fll g f i k = g k := if_pos h
/-- twelve by the number of a script's marks -/
def shr (a : Nat) : Nat := if pop a = 0 then 0 else 12 / pop a
section TIE
variable {I : ab_I} {J : ab_J} {Q : Option Value → ab_I → ab_J → Prop} {x x1 x2 : Int32} {u : Int64}
set_option maxRecDepth 100000 in
theorem c202 {a : Nat} (ha : a < 16) : Cal 202 [.int (nI a)] I J Q ↔ Q (some (.int (nI (pop a)))) I J := by
  rw [en202]
  simp only [k202_0, k202_1, k202_2, k202_3, k202_4, k202_7, k202_8, k202_9, k202_10, k202_11, k202_14, k202_15, k202_16, k202_17, k202_18, k202_21, k202_22, k202_23, k202_24, k202_25, k202_26, k202_27, k202_28, k202_29, k202_32, k202_33, k202_34, k202_35, k202_36, k202_38, k202_39, k202_40, k202_41, k202_42, k202_43, k202_45, k202_46, k202_47, k202_48, k202_49, k202_51, k202_52, Option.toList_some, Option.toList_none, List.cons_append, List.nil_append, nl_i, nl_r, nl_l, nl_n]
  obtain rfl | rfl | rfl | rfl | rfl | rfl | rfl | rfl | rfl | rfl | rfl | rfl | rfl | rfl | rfl | rfl : a = 0 ∨ a = 1 ∨ a = 2 ∨ a = 3 ∨ a = 4 ∨ a = 5 ∨ a = 6 ∨ a = 7 ∨ a = 8 ∨ a = 9 ∨ a = 10 ∨ a = 11 ∨ a = 12 ∨ a = 13 ∨ a = 14 ∨ a = 15 := by omega
  all_goals exact Iff.of_eq (congrArg (fun z => Q (some (Value.int z)) I J) (by decide +kernel))
set_option maxRecDepth 100000 in
theorem c124 {a : Nat} (ha : a < 16) : Cal 124 [.int (nI a)] I J Q ↔ Q (some (.int (lbit a))) I J := by
  rw [en124]
  simp (disch := omega) only [k124_0, k124_1, k124_2, k124_3, k124_4, k124_7, k124_8, k124_9, k124_10, k124_11, k124_12, k124_15, k124_16, k124_17, k124_20, k124_23, k124_24, Option.toList_some, Option.toList_none, List.cons_append, List.nil_append, nl_i, nl_r, nl_l, nl_n, shr1, nI_leI, nI_add, Nat.reduceAdd, Nat.reduceLeDiff, ↓reduceIte]
  unfold lbit
  cases a.testBit 0 <;> cases a.testBit 1 <;> cases a.testBit 2 <;> cases a.testBit 3 <;> simp
theorem idiv12 {p : Nat} (h : 0 < p) (hp : p ≤ 12) : (nI 12 / nI p).toInt64 = lN (12 / p) := by
  rw [pk_div (by decide) h (by omega), nI_l (by have := Nat.div_le_self 12 p; omega)]
theorem le0 {n : Nat} (h : n < 2 ^ 31) : (nI n ≤ 0) = (n = 0) := by
  rw [i_le, nI_toInt h, t0]
  exact propext ⟨fun q => by omega, fun q => by omega⟩
theorem eq0 {n : Nat} (h : n < 2 ^ 31) : (nI n = 0) = (n = 0) := by
  rw [i_eq, nI_toInt h, t0]
  exact propext ⟨fun q => by omega, fun q => by omega⟩
theorem pop_le (a : Nat) : pop a ≤ 4 := by unfold pop; omega
set_option maxRecDepth 100000 in
theorem c18_5 {c : Nat → Int32} (hc : I 6 = c) : Cal 18 [.ref 5] I J Q ↔ Q none (va_up I 7 (fll (fun s => nI (hnd c s)) (I 7) 12)) (va_up J 8 (fll (fun s => lN (shr (hnd c s))) (J 8) 12)) := by
  refine Cal_iff ?_
  rw [en18]
  simp only [k18_0, k18_1, Option.toList_some, Option.toList_none, List.cons_append, List.nil_append, nl_i, nl_r, nl_l, nl_n]
  have key : ∀ a2 a3 : Option Value, At 18 2 [some (.ref 5), some (.int (nI 0)), a2, a3] [] (va_up I 7 (fll (fun s => nI (hnd c s)) (I 7) 0)) (va_up J 8 (fll (fun s => lN (shr (hnd c s))) (J 8) 0)) (fun v' I1 J1 => v' = none ∧ I1 = va_up I 7 (fll (fun s => nI (hnd c s)) (I 7) 12) ∧ J1 = va_up J 8 (fll (fun s => lN (shr (hnd c s))) (J 8) 12)) := by
    refine loop_dn (N := 12) (P := fun i => ∀ a2 a3 : Option Value, At 18 2 [some (.ref 5), some (.int (nI i)), a2, a3] [] (va_up I 7 (fll (fun s => nI (hnd c s)) (I 7) i)) (va_up J 8 (fll (fun s => lN (shr (hnd c s))) (J 8) i)) (fun v' I1 J1 => v' = none ∧ I1 = va_up I 7 (fll (fun s => nI (hnd c s)) (I 7) 12) ∧ J1 = va_up J 8 (fll (fun s => lN (shr (hnd c s))) (J 8) 12))) ?_ ?_
    · intro a2 a3
      rw [k18_2]
      simp (disch := omega) only [k18_3, k18_5, k18_80, nI_leI, Nat.reduceLeDiff, ↓reduceIte, and_self]
    · intro i hi ih a2 a3
      have e0 : ¬ 12 ≤ i := by omega
      rw [k18_2]
      simp (disch := omega) only [k18_3, k18_5, k18_8, k18_9, k18_10, k18_11, Option.toList_some, Option.toList_none, List.cons_append, List.nil_append, nl_i, nl_r, nl_l, nl_n, nI_leI, e0, ↓reduceIte]
      refine loop_dn (N := 4) (P := fun m => At 18 12 [some (.ref 5), some (.int (nI i)), some (.int (nI (hb c i m))), some (.int (nI m))] [] (va_up I 7 (fll (fun s => nI (hnd c s)) (I 7) i)) (va_up J 8 (fll (fun s => lN (shr (hnd c s))) (J 8) i)) (fun v' I1 J1 => v' = none ∧ I1 = va_up I 7 (fll (fun s => nI (hnd c s)) (I 7) 12) ∧ J1 = va_up J 8 (fll (fun s => lN (shr (hnd c s))) (J 8) 12))) ?_ ?_
      · have hp := pop_le (hnd c i)
        have hh : hb c i 4 = hnd c i := rfl
        have ih2 := ih (some (.int (nI (hnd c i)))) (some (.int (nI (pop (hnd c i)))))
        rw [k18_12]
        simp (disch := omega) only [k18_0, k18_1, k18_3, k18_5, k18_8, k18_9, k18_10, k18_11, k18_13, k18_14, k18_17, k18_18_5, k18_18_17, k18_21, k18_22, k18_23, k18_24, k18_25, k18_26, k18_27, k18_28, k18_31, k18_32, k18_33, k18_34, k18_35, k18_36, k18_37, k18_40, k18_43, k18_44_5, k18_44_17, k18_47, k18_48, k18_49, k18_50, k18_51, k18_54, k18_55, k18_56_5, k18_56_17, k18_59, k18_60, k18_61, k18_64, k18_66, k18_67, k18_68, k18_69, k18_72, k18_73, k18_74, k18_77, k18_80, Option.toList_some, Option.toList_none, List.cons_append, List.nil_append, nl_i, nl_r, nl_l, nl_n, hh, nI_leI, Nat.le_refl, ↓reduceIte, nI_clamp, bnd, true_and, and_true, ly_7, ly_8, Nat.reduceLT, va_up_s, up_same, fll_s, c202 (hnd_lt c i), le0, eq0, nI_add]
        split
        · rename_i hq
          have e2 : lN (shr (hnd c i)) = 0 := by unfold shr; rw [if_pos hq]; rfl
          rw [← fll_s, ← fll_s, e2] at ih2
          simp only [fll_s] at ih2
          exact ih2
        · rename_i hq
          refine ⟨hq, ?_⟩
          have e2 : lN (shr (hnd c i)) = (nI 12 / nI (pop (hnd c i))).toInt64 := by unfold shr; rw [if_neg hq, idiv12 (by omega) (by omega)]
          rw [← fll_s (fun s => lN (shr (hnd c s))), e2] at ih2
          exact ih2
      · intro m hm ihm
        have e1 : ¬ 4 ≤ m := by omega
        have hbl := hb_lt c i m (by omega)
        rw [k18_12]
        simp (disch := omega) only [k18_0, k18_1, k18_3, k18_5, k18_8, k18_9, k18_10, k18_11, k18_13, k18_14, k18_17, k18_18_5, k18_18_17, k18_21, k18_22, k18_23, k18_24, k18_25, k18_26, k18_27, k18_28, k18_31, k18_32, k18_33, k18_34, k18_35, k18_36, k18_37, k18_40, k18_43, k18_44_5, k18_44_17, k18_47, k18_48, k18_49, k18_50, k18_51, k18_54, k18_55, k18_56_5, k18_56_17, k18_59, k18_60, k18_61, k18_64, k18_66, k18_67, k18_68, k18_69, k18_72, k18_73, k18_74, k18_77, k18_80, Option.toList_some, Option.toList_none, List.cons_append, List.nil_append, nl_i, nl_r, nl_l, nl_n, up_ne, hc, nI_leI, e1, ↓reduceIte, nI_clamp, bnd, true_and, and_true, ly_6, Nat.reduceLT, pk_mul, nI_add, shl1, or_nI]
        split
        · rename_i hq
          rw [hb, if_pos hq] at ihm
          exact ihm
        · rename_i hq
          rw [hb, if_neg hq] at ihm
          exact ihm
  have key := key none none
  rw [fll_0, fll_0, up_id, up_id] at key
  exact key
set_option maxRecDepth 100000 in
theorem c18_17 {c : Nat → Int32} (hc : I 18 = c) : Cal 18 [.ref 17] I J Q ↔ Q none (va_up I 19 (fll (fun s => nI (hnd c s)) (I 19) 12)) (va_up J 20 (fll (fun s => lN (shr (hnd c s))) (J 20) 12)) := by
  refine Cal_iff ?_
  rw [en18]
  simp only [k18_0, k18_1, Option.toList_some, Option.toList_none, List.cons_append, List.nil_append, nl_i, nl_r, nl_l, nl_n]
  have key : ∀ a2 a3 : Option Value, At 18 2 [some (.ref 17), some (.int (nI 0)), a2, a3] [] (va_up I 19 (fll (fun s => nI (hnd c s)) (I 19) 0)) (va_up J 20 (fll (fun s => lN (shr (hnd c s))) (J 20) 0)) (fun v' I1 J1 => v' = none ∧ I1 = va_up I 19 (fll (fun s => nI (hnd c s)) (I 19) 12) ∧ J1 = va_up J 20 (fll (fun s => lN (shr (hnd c s))) (J 20) 12)) := by
    refine loop_dn (N := 12) (P := fun i => ∀ a2 a3 : Option Value, At 18 2 [some (.ref 17), some (.int (nI i)), a2, a3] [] (va_up I 19 (fll (fun s => nI (hnd c s)) (I 19) i)) (va_up J 20 (fll (fun s => lN (shr (hnd c s))) (J 20) i)) (fun v' I1 J1 => v' = none ∧ I1 = va_up I 19 (fll (fun s => nI (hnd c s)) (I 19) 12) ∧ J1 = va_up J 20 (fll (fun s => lN (shr (hnd c s))) (J 20) 12))) ?_ ?_
    · intro a2 a3
      rw [k18_2]
      simp (disch := omega) only [k18_3, k18_5, k18_80, nI_leI, Nat.reduceLeDiff, ↓reduceIte, and_self]
    · intro i hi ih a2 a3
      have e0 : ¬ 12 ≤ i := by omega
      rw [k18_2]
      simp (disch := omega) only [k18_3, k18_5, k18_8, k18_9, k18_10, k18_11, Option.toList_some, Option.toList_none, List.cons_append, List.nil_append, nl_i, nl_r, nl_l, nl_n, nI_leI, e0, ↓reduceIte]
      refine loop_dn (N := 4) (P := fun m => At 18 12 [some (.ref 17), some (.int (nI i)), some (.int (nI (hb c i m))), some (.int (nI m))] [] (va_up I 19 (fll (fun s => nI (hnd c s)) (I 19) i)) (va_up J 20 (fll (fun s => lN (shr (hnd c s))) (J 20) i)) (fun v' I1 J1 => v' = none ∧ I1 = va_up I 19 (fll (fun s => nI (hnd c s)) (I 19) 12) ∧ J1 = va_up J 20 (fll (fun s => lN (shr (hnd c s))) (J 20) 12))) ?_ ?_
      · have hp := pop_le (hnd c i)
        have hh : hb c i 4 = hnd c i := rfl
        have ih2 := ih (some (.int (nI (hnd c i)))) (some (.int (nI (pop (hnd c i)))))
        rw [k18_12]
        simp (disch := omega) only [k18_0, k18_1, k18_3, k18_5, k18_8, k18_9, k18_10, k18_11, k18_13, k18_14, k18_17, k18_18_5, k18_18_17, k18_21, k18_22, k18_23, k18_24, k18_25, k18_26, k18_27, k18_28, k18_31, k18_32, k18_33, k18_34, k18_35, k18_36, k18_37, k18_40, k18_43, k18_44_5, k18_44_17, k18_47, k18_48, k18_49, k18_50, k18_51, k18_54, k18_55, k18_56_5, k18_56_17, k18_59, k18_60, k18_61, k18_64, k18_66, k18_67, k18_68, k18_69, k18_72, k18_73, k18_74, k18_77, k18_80, Option.toList_some, Option.toList_none, List.cons_append, List.nil_append, nl_i, nl_r, nl_l, nl_n, hh, nI_leI, Nat.le_refl, ↓reduceIte, nI_clamp, bnd, true_and, and_true, ly_19, ly_20, Nat.reduceLT, va_up_s, up_same, fll_s, c202 (hnd_lt c i), le0, eq0, nI_add]
        split
        · rename_i hq
          have e2 : lN (shr (hnd c i)) = 0 := by unfold shr; rw [if_pos hq]; rfl
          rw [← fll_s, ← fll_s, e2] at ih2
          simp only [fll_s] at ih2
          exact ih2
        · rename_i hq
          refine ⟨hq, ?_⟩
          have e2 : lN (shr (hnd c i)) = (nI 12 / nI (pop (hnd c i))).toInt64 := by unfold shr; rw [if_neg hq, idiv12 (by omega) (by omega)]
          rw [← fll_s (fun s => lN (shr (hnd c s))), e2] at ih2
          exact ih2
      · intro m hm ihm
        have e1 : ¬ 4 ≤ m := by omega
        have hbl := hb_lt c i m (by omega)
        rw [k18_12]
        simp (disch := omega) only [k18_0, k18_1, k18_3, k18_5, k18_8, k18_9, k18_10, k18_11, k18_13, k18_14, k18_17, k18_18_5, k18_18_17, k18_21, k18_22, k18_23, k18_24, k18_25, k18_26, k18_27, k18_28, k18_31, k18_32, k18_33, k18_34, k18_35, k18_36, k18_37, k18_40, k18_43, k18_44_5, k18_44_17, k18_47, k18_48, k18_49, k18_50, k18_51, k18_54, k18_55, k18_56_5, k18_56_17, k18_59, k18_60, k18_61, k18_64, k18_66, k18_67, k18_68, k18_69, k18_72, k18_73, k18_74, k18_77, k18_80, Option.toList_some, Option.toList_none, List.cons_append, List.nil_append, nl_i, nl_r, nl_l, nl_n, up_ne, hc, nI_leI, e1, ↓reduceIte, nI_clamp, bnd, true_and, and_true, ly_18, Nat.reduceLT, pk_mul, nI_add, shl1, or_nI]
        split
        · rename_i hq
          rw [hb, if_pos hq] at ihm
          exact ihm
        · rename_i hq
          rw [hb, if_neg hq] at ihm
          exact ihm
  have key := key none none
  rw [fll_0, fll_0, up_id, up_id] at key
  exact key
end TIE
