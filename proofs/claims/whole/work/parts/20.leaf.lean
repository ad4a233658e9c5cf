/-! CONTRACTS: leaves -/
section LEAF
variable {I : ab_I} {J : ab_J} {Q : Option Value → ab_I → ab_J → Prop}
theorem z10 : (nI 1 = 0 ∨ nI 1 = 1) = True := by decide
theorem z00 : (nI 0 = 0 ∨ nI 0 = 1) = True := by decide
/-- in a range -/
def inr (x : Int32) (n : Nat) : Bool := decide (0 ≤ x.toInt) && decide (x.toInt < n)
theorem i_le {a b : Int32} : a ≤ b ↔ a.toInt ≤ b.toInt := Int32.le_iff_toInt_le
theorem i_lt {a b : Int32} : a < b ↔ a.toInt < b.toInt := Int32.lt_iff_toInt_lt
theorem t0 : (0 : Int32).toInt = 0 := by decide
theorem c116 {x : Int32} : Cal 116 [.int x] I J Q ↔ Q (some (.int (if inr x 12 then nI 1 else nI 0))) I J := by
  rw [en116]
  simp (disch := omega) only [k116_0, k116_1, k116_4, k116_5, k116_7, k116_10, k116_11, k116_14, k116_15, Option.toList_some, Option.toList_none, List.cons_append, List.nil_append, nl_i, nl_r, nl_l, nl_n, z10, z00, true_and, i_le, i_lt, t0, nI_toInt, inr, Bool.and_eq_true, decide_eq_true_eq]
  split
  · rw [if_neg (by omega)]
  · split
    · rw [if_neg (by omega)]
    · rw [if_pos (by omega)]
end LEAF
