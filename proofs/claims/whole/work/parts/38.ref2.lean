/-! CONTRACTS: the reference's tellings -/
section REFB
variable {I : ab_I} {J : ab_J} {Q : Option Value → ab_I → ab_J → Prop} {x x1 x2 : Int32} {u : Int64}
theorem c133 {n : Nat} (h : I 49 0 = nI n) (hn : n ≤ 100) : Cal 133 [.ref 49] I J Q ↔ Q (some (.int (if n = 0 then nI 0 else I 53 (n - 1)))) I J := by
  rw [en133]
  by_cases h0 : n = 0
  · subst h0
    simp (disch := omega) only [k133_0, k133_1, k133_4, k133_7, k133_8, k133_11, k133_12, k133_15, k133_16, k133_19, k133_20, k133_21, k133_22, Option.toList_some, Option.toList_none, List.cons_append, List.nil_append, nl_i, nl_r, nl_l, nl_n, h, eq0, not_true_eq_false, ↓reduceIte]
  · simp (disch := omega) only [k133_0, k133_1, k133_4, k133_7, k133_8, k133_11, k133_12, k133_15, k133_16, k133_19, k133_20, k133_21, k133_22, Option.toList_some, Option.toList_none, List.cons_append, List.nil_append, nl_i, nl_r, nl_l, nl_n, h, eq0, h0, not_false_eq_true, ↓reduceIte, pk_sub, nI_clamp, bnd, ly_53, Nat.reduceLT, true_and, and_true]
theorem c148 {s m : Nat} (hs : s < 12) (hm : m < 4) : Cal 148 [.ref 49, .int (nI s), .int (nI m)] I J Q ↔ Q (some (.long ((I 55 (4 * s + m)).toInt64 * J 49 17 - J 63 s + J 62 m))) I J := by
  rw [en148]
  simp (disch := omega) only [k148_0, k148_1, k148_2, k148_3, k148_6, k148_7, k148_8, k148_11, k148_12, k148_13, k148_16, k148_17, k148_18, k148_19, k148_20, k148_23, k148_24, k148_25, k148_26, Option.toList_some, Option.toList_none, List.cons_append, List.nil_append, nl_i, nl_r, nl_l, nl_n, c140 hs hm, nI_clamp, bnd, ly_62, ly_63, Nat.reduceLT, true_and, and_true]
end REFB
