/-! CONTRACTS: the sheets (cell 43: items 44, types 45, sizes 46) -/
def nrw (t v : Int32) : Int32 := if t = 0 then v.toInt8.toInt32 else if t = nI 1 then v.toInt16.toInt32 else v
/-- the items of the sheet s are 0, the first i of them -/
def zit (f : Nat → Int32) (s i : Nat) : Nat → Int32 := fun k => if 48 * s ≤ k ∧ k < 48 * s + i then nI 0 else f k
theorem zit_0 (f : Nat → Int32) (s : Nat) : zit f s 0 = f := by funext k; unfold zit; rw [if_neg (by omega)]
theorem zit_s (f : Nat → Int32) (s i : Nat) : va_up (zit f s i) (48 * s + i) (nI 0) = zit f s (i + 1) := by
  funext k
  unfold zit va_up
  by_cases h : k = 48 * s + i
  · rw [if_pos h, if_pos (by omega)]
  · rw [if_neg h]
    by_cases h2 : 48 * s ≤ k ∧ k < 48 * s + i
    · have h3 : 48 * s ≤ k ∧ k < 48 * s + (i + 1) := by omega
      simp only [if_pos h2, if_pos h3]
    · have h3 : ¬ (48 * s ≤ k ∧ k < 48 * s + (i + 1)) := by omega
      simp only [if_neg h2, if_neg h3]
theorem bnd2 {n N : Nat} (h : n < N) : (0 ≤ ((n : Nat) : Int) ∧ ((n : Nat) : Int) < ((N : Nat) : Int)) = True := eq_true (by omega)
section SHEET
variable {I : ab_I} {J : ab_J} {Q : Option Value → ab_I → ab_J → Prop} {x x1 x2 : Int32} {u : Int64}
theorem c53 {s : Nat} (hs : s < 4) : Cal 53 [.ref 43, .int (nI s)] I J Q ↔ Q (some (.int (bI (decide (I 45 s = -1))))) I J := by
  rw [en53]
  simp (disch := omega) only [k53_0, k53_1, k53_4, k53_5, k53_6, k53_7, k53_10, k53_11, k53_14, k53_15, Option.toList_some, Option.toList_none, List.cons_append, List.nil_append, nl_i, nl_r, nl_l, nl_n, nI_clamp, bnd, ly_45, Nat.reduceLT, z10, z00, true_and, and_true]
  split
  · rename_i h; rw [decide_eq_false h, bI_f]
  · rename_i h; rw [decide_eq_true (Classical.not_not.mp h), bI_t]
theorem c55 {s : Nat} (hs : s < 4) : Cal 55 [.ref 43, .int (nI s)] I J Q ↔ Q none (va_up (va_up I 45 (va_up (I 45) s (-1))) 46 (va_up (I 46) s (nI 0))) J := by
  rw [en55]
  simp (disch := omega) only [k55_0, k55_1, k55_4, k55_5, k55_6, k55_7, k55_8, k55_11, k55_12, k55_13, k55_14, Option.toList_some, Option.toList_none, List.cons_append, List.nil_append, nl_i, nl_r, nl_l, nl_n, nI_clamp, bnd, ly_45, ly_46, Nat.reduceLT, up_ne, true_and, and_true]
theorem c58 {s i : Nat} (hs : s < 4) (hi : i < 48) : Cal 58 [.ref 43, .int (nI s), .int (nI i)] I J Q ↔ Q (some (.int (I 44 (48 * s + i)))) I J := by
  rw [en58]
  simp (disch := omega) only [k58_0, k58_1, k58_4, k58_6, k58_7, k58_8, k58_9, k58_10, k58_11, Option.toList_some, Option.toList_none, List.cons_append, List.nil_append, nl_i, nl_r, nl_l, nl_n, nI_clamp, bnd, ly_44, Nat.reduceLT, pk_mul, nI_add, true_and, and_true]
theorem c60 : Cal 60 [.int x, .int x1] I J Q ↔ Q (some (.int (nrw x x1))) I J := by
  rw [en60]
  simp only [k60_0, k60_1, k60_4, k60_5, k60_6, k60_7, k60_8, k60_9, k60_12, k60_13, k60_14, k60_17, k60_18, Option.toList_some, Option.toList_none, List.cons_append, List.nil_append, nl_i, nl_r, nl_l, nl_n]
  unfold nrw
  by_cases h0 : x = 0
  · rw [if_neg (fun q => q h0), if_pos h0]
  · rw [if_pos h0, if_neg h0]
    by_cases h1 : x = nI 1
    · rw [if_neg (fun q => q h1), if_pos h1]
    · rw [if_pos h1, if_neg h1]
theorem c59 {s i : Nat} (hs : s < 4) (hi : i < 48) : Cal 59 [.ref 43, .int (nI s), .int (nI i), .int x] I J Q ↔ Q none (va_up I 44 (va_up (I 44) (48 * s + i) (nrw (I 45 s) x))) J := by
  rw [en59]
  simp (disch := omega) only [k59_0, k59_1, k59_4, k59_6, k59_7, k59_8, k59_9, k59_10, k59_11, k59_14, k59_15, k59_16, k59_17, k59_20, k59_21, Option.toList_some, Option.toList_none, List.cons_append, List.nil_append, nl_i, nl_r, nl_l, nl_n, nI_clamp, bnd, ly_44, ly_45, Nat.reduceLT, pk_mul, nI_add, c60, true_and, and_true]
theorem c57 {s z : Nat} (hs : s < 4) (hz : I 46 s = nI z) (hz2 : z ≤ 48) : Cal 57 [.ref 43, .int (nI s), .int x, .int x1] I J Q ↔ Q (some (.int (bI (decide (0 ≤ x.toInt ∧ 0 ≤ x1.toInt ∧ x.toInt + x1.toInt ≤ z))))) I J := by
  rw [en57]
  simp (disch := omega) only [k57_0, k57_1, k57_4, k57_5, k57_8, k57_9, k57_10, k57_13, k57_14, k57_15, k57_18, k57_19, k57_20, k57_23, k57_24, k57_25, k57_26, k57_27, k57_30, k57_31, k57_34, k57_35, Option.toList_some, Option.toList_none, List.cons_append, List.nil_append, nl_i, nl_r, nl_l, nl_n, nI_clamp, bnd, ly_46, Nat.reduceLT, hz, i_lt, t0, nI_toInt, bnd2, z10, z00, true_and, and_true]
  split
  · rw [decide_eq_false (by omega), bI_f]
  · split
    · rw [decide_eq_false (by omega), bI_f]
    · split
      · rw [decide_eq_false (by omega), bI_f]
      · have e : (nI z - x1).toInt = z - x1.toInt := by
          obtain ⟨k, hk, rfl⟩ := inr_nI (x := x1) (n := 49) (inr_t.mpr (by omega))
          rw [nI_toInt (by omega)] at *
          rw [pk_sub_toInt (by omega) (by omega)]
        rw [e]
        split
        · rw [decide_eq_false (by omega), bI_f]
        · rw [decide_eq_true (by omega), bI_t]
set_option maxRecDepth 100000 in
theorem c54 {s : Nat} (hs : s < 4) : Cal 54 [.ref 43, .int (nI s), .int x, .int x1] I J Q ↔ Q none (va_up (va_up (va_up I 44 (zit (I 44) s 48)) 45 (va_up (I 45) s x)) 46 (va_up (I 46) s x1)) J := by
  refine Cal_iff ?_
  rw [en54]
  simp (disch := omega) only [k54_0, k54_1, k54_4, k54_5, k54_6, k54_7, k54_8, k54_11, k54_12, k54_13, k54_14, k54_15, Option.toList_some, Option.toList_none, List.cons_append, List.nil_append, nl_i, nl_r, nl_l, nl_n, nI_clamp, bnd, ly_45, ly_46, Nat.reduceLT, up_ne, true_and, and_true]
  have key : At 54 17 [some (.ref 43), some (.int (nI s)), some (.int x), some (.int x1), some (.int (nI 0))] [] (va_up (va_up (va_up I 44 (zit (I 44) s 0)) 45 (va_up (I 45) s x)) 46 (va_up (I 46) s x1)) J (fun v' I1 J1 => v' = none ∧ I1 = va_up (va_up (va_up I 44 (zit (I 44) s 48)) 45 (va_up (I 45) s x)) 46 (va_up (I 46) s x1) ∧ J1 = J) := by
    refine loop_dn (N := 48) (P := fun i => At 54 17 [some (.ref 43), some (.int (nI s)), some (.int x), some (.int x1), some (.int (nI i))] [] (va_up (va_up (va_up I 44 (zit (I 44) s i)) 45 (va_up (I 45) s x)) 46 (va_up (I 46) s x1)) J (fun v' I1 J1 => v' = none ∧ I1 = va_up (va_up (va_up I 44 (zit (I 44) s 48)) 45 (va_up (I 45) s x)) 46 (va_up (I 46) s x1) ∧ J1 = J)) ?_ ?_
    · rw [k54_17]
      simp (disch := omega) only [k54_19, k54_21, k54_43, nI_leI, Nat.le_refl, ↓reduceIte, and_self]
    · intro i hi ih
      have e0 : ¬ 48 ≤ i := by omega
      rw [k54_17]
      simp (disch := omega) only [k54_19, k54_21, k54_24, k54_25, k54_28, k54_30, k54_31, k54_32, k54_34, k54_35, k54_36, k54_37, k54_40, Option.toList_some, Option.toList_none, List.cons_append, List.nil_append, nl_i, nl_r, nl_l, nl_n, nI_leI, e0, ↓reduceIte, nI_clamp, bnd, ly_44, Nat.reduceLT, pk_mul, nI_add, true_and, and_true, up_ne, va_up_s, up_same, up_cm, id_eq, zit_s]
      exact ih
  rw [zit_0, up_id] at key
  exact key
theorem c56 {s z : Nat} (hs : s < 4) (hz : I 46 s = nI z) (hz2 : z ≤ 48) : Cal 56 [.ref 43, .int (nI s), .int x, .int x1] I J Q ↔ Q (some (.int (if I 45 s = -1 then nI 1 else if ¬ I 45 s = x then nI 3 else if 0 ≤ x1.toInt ∧ x1.toInt < z then nI 0 else nI 2))) I J := by
  rw [en56]
  simp (disch := omega) only [k56_0, k56_1, k56_2, k56_5, k56_8, k56_9, k56_10, k56_11, k56_14, k56_15, k56_16, k56_17, k56_20, k56_21, k56_22, k56_23, k56_24, k56_25, k56_26, k56_29, k56_32, k56_33, k56_36, k56_37, Option.toList_some, Option.toList_none, List.cons_append, List.nil_append, nl_i, nl_r, nl_l, nl_n, c53 hs, c57 hs hz hz2, bI_0, nI_clamp, bnd, ly_45, Nat.reduceLT, true_and, and_true, nI_toInt, bnd2, decide_eq_false_iff_not]
  by_cases h0 : I 45 s = -1
  · rw [if_neg (fun q => q h0), if_pos h0]
  · rw [if_pos h0, if_neg h0]
    by_cases h1 : I 45 s = x
    · rw [if_pos h1, if_neg (show ¬ ¬ I 45 s = x from fun q => q h1)]
      by_cases h2 : 0 ≤ x1.toInt ∧ x1.toInt < z
      · have h3 : 0 ≤ x1.toInt ∧ (0 : Int) ≤ ((1 : Nat) : Int) ∧ x1.toInt + ((1 : Nat) : Int) ≤ z := by omega
        rw [if_neg (show ¬ ¬ (0 ≤ x1.toInt ∧ (0 : Int) ≤ ((1 : Nat) : Int) ∧ x1.toInt + ((1 : Nat) : Int) ≤ z) from fun q => q h3), if_pos h2]
      · have h3 : ¬ (0 ≤ x1.toInt ∧ (0 : Int) ≤ ((1 : Nat) : Int) ∧ x1.toInt + ((1 : Nat) : Int) ≤ z) := by omega
        rw [if_pos h3, if_neg h2]
    · rw [if_neg h1, if_pos h1]
end SHEET
