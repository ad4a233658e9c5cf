/-! CONTRACTS: the balance's leaves; B is the cell of the balance (5: now, 17: trial), its arrays behind it -/
theorem bnd {n N : Nat} (h : n < N) (hN : N < 2 ^ 31) : (0 ≤ (nI n).toInt ∧ (nI n).toInt < (N : Int)) = True := by
  rw [nI_toInt (by omega)]
  exact eq_true (by omega)
theorem up_n {α : Type} (f : Nat → α) (k j : Nat) (v : α) (h : (j == k) = false) : va_up f k v j = f j := va_up_n f v (by simpa using h)
/-- what is at least 0 -/
def mx0 (x : Int32) : Int32 := if nI 0 < x then x else nI 0
def sumL (c : Nat → Int32) (s : Nat) : Int64 := 0 + (mx0 (c (4 * s + 0))).toInt64 + (mx0 (c (4 * s + 1))).toInt64 + (mx0 (c (4 * s + 2))).toInt64 + (mx0 (c (4 * s + 3))).toInt64
section BAL
variable {I : ab_I} {J : ab_J} {Q : Option Value → ab_I → ab_J → Prop} {x x1 x2 : Int32} {u : Int64}
set_option maxRecDepth 100000 in
theorem c29_5 {s : Nat} (hs : s < 12) : Cal 29 [.ref 5, .int (nI s)] I J Q ↔ Q (some (.long (sumL (I 6) s))) I J := by
  rw [en29]
  simp (disch := omega) only [k29_0, k29_1, k29_2, k29_3, k29_5, k29_7, k29_8, k29_11, k29_12, k29_13, k29_14_5, k29_14_17, k29_17, k29_18, k29_19, k29_20, k29_22, k29_23, k29_24, k29_27, k29_28, k29_29, k29_30, k29_33, k29_36, k29_37, Option.toList_some, Option.toList_none, List.cons_append, List.nil_append, nl_i, nl_r, nl_l, nl_n, nI_add, pk_mul, nI_clamp, bnd, nI_leI, Nat.reduceAdd, Nat.reduceMul, Nat.reduceLT, Nat.reduceLeDiff, ↓reduceIte, true_and, and_true, ly_6, ly_18]
  rfl
theorem c15_5 : Cal 15 [.ref 5] I J Q ↔ Q (some (.long (12 * J 5 11))) I J := by
  rw [en15]
  simp only [k15_0, k15_3, k15_4_5, k15_4_17, k15_7, k15_8, Option.toList_some, Option.toList_none, List.cons_append, List.nil_append, nl_i, nl_r, nl_l, nl_n]
theorem c15_17 : Cal 15 [.ref 17] I J Q ↔ Q (some (.long (12 * J 17 11))) I J := by
  rw [en15]
  simp only [k15_0, k15_3, k15_4_5, k15_4_17, k15_7, k15_8, Option.toList_some, Option.toList_none, List.cons_append, List.nil_append, nl_i, nl_r, nl_l, nl_n]
end BAL
