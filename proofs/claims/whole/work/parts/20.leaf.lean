/-! CONTRACTS: leaves -/
/-- in a range; a boolean as an int -/
def inr (x : Int32) (n : Nat) : Bool := decide (0 ≤ x.toInt) && decide (x.toInt < n)
def bI (b : Bool) : Int32 := if b then nI 1 else nI 0
theorem bI_t : bI true = nI 1 := rfl
theorem bI_f : bI false = nI 0 := rfl
theorem bI_z (b : Bool) : (bI b = 0 ∨ bI b = 1) = True := by cases b <;> decide
theorem bI_0 (b : Bool) : (bI b = 0) = (b = false) := by cases b <;> decide
theorem z10 : (nI 1 = 0 ∨ nI 1 = 1) = True := by decide
theorem z00 : (nI 0 = 0 ∨ nI 0 = 1) = True := by decide
theorem i_le {a b : Int32} : a ≤ b ↔ a.toInt ≤ b.toInt := Int32.le_iff_toInt_le
theorem i_lt {a b : Int32} : a < b ↔ a.toInt < b.toInt := Int32.lt_iff_toInt_lt
theorem i_eq {a b : Int32} : a = b ↔ a.toInt = b.toInt := Int32.toInt_inj.symm
theorem t0 : (0 : Int32).toInt = 0 := by decide
theorem tm1 : (-1 : Int32).toInt = -1 := by decide
theorem inr_t {x : Int32} {n : Nat} : inr x n = true ↔ 0 ≤ x.toInt ∧ x.toInt < n := by simp [inr]
theorem inr_f {x : Int32} {n : Nat} : inr x n = false ↔ ¬ (0 ≤ x.toInt ∧ x.toInt < n) := by rw [← inr_t]; simp
/-- a number in a range is a plain one -/
theorem inr_nI {x : Int32} {n : Nat} (h : inr x n = true) : ∃ k, k < n ∧ x = nI k := by
  rw [inr_t] at h
  refine ⟨x.toInt.toNat, by omega, ?_⟩
  rw [i_eq, nI_toInt (by have := x.toInt_lt; omega)]
  omega
section LEAF
variable {I : ab_I} {J : ab_J} {Q : Option Value → ab_I → ab_J → Prop} {x x1 x2 : Int32} {u : Int64}
theorem c116 : Cal 116 [.int x] I J Q ↔ Q (some (.int (bI (inr x 12)))) I J := by
  rw [en116]
  simp (disch := omega) only [k116_0, k116_1, k116_4, k116_5, k116_7, k116_10, k116_11, k116_14, k116_15, Option.toList_some, Option.toList_none, List.cons_append, List.nil_append, nl_i, nl_r, nl_l, nl_n, z10, z00, true_and, i_le, i_lt, t0, nI_toInt]
  split
  · rw [inr_f.mpr (by omega), bI_f]
  · split
    · rw [inr_f.mpr (by omega), bI_f]
    · rw [inr_t.mpr (by omega), bI_t]
theorem c117 : Cal 117 [.int x] I J Q ↔ Q (some (.int (bI (inr x 4)))) I J := by
  rw [en117]
  simp (disch := omega) only [k117_0, k117_1, k117_4, k117_5, k117_6, k117_9, k117_10, k117_13, k117_14, Option.toList_some, Option.toList_none, List.cons_append, List.nil_append, nl_i, nl_r, nl_l, nl_n, z10, z00, true_and, i_le, i_lt, t0, nI_toInt]
  split
  · rw [inr_f.mpr (by omega), bI_f]
  · split
    · rw [inr_f.mpr (by omega), bI_f]
    · rw [inr_t.mpr (by omega), bI_t]
theorem c118 : Cal 118 [.int x] I J Q ↔ Q (some (.int (bI (inr x 4)))) I J := by
  rw [en118]
  simp (disch := omega) only [k118_0, k118_1, k118_4, k118_5, k118_6, k118_9, k118_10, k118_13, k118_14, Option.toList_some, Option.toList_none, List.cons_append, List.nil_append, nl_i, nl_r, nl_l, nl_n, z10, z00, true_and, i_le, i_lt, t0, nI_toInt]
  split
  · rw [inr_f.mpr (by omega), bI_f]
  · split
    · rw [inr_f.mpr (by omega), bI_f]
    · rw [inr_t.mpr (by omega), bI_t]
theorem c119 : Cal 119 [.int x] I J Q ↔ Q (some (.int (bI (inr x 3)))) I J := by
  rw [en119]
  simp (disch := omega) only [k119_0, k119_1, k119_4, k119_5, k119_6, k119_9, k119_10, k119_13, k119_14, Option.toList_some, Option.toList_none, List.cons_append, List.nil_append, nl_i, nl_r, nl_l, nl_n, z10, z00, true_and, i_le, i_lt, t0, nI_toInt]
  split
  · rw [inr_f.mpr (by omega), bI_f]
  · split
    · rw [inr_f.mpr (by omega), bI_f]
    · rw [inr_t.mpr (by omega), bI_t]
theorem c120 : Cal 120 [.int x] I J Q ↔ Q (some (.int (bI (inr x 2)))) I J := by
  rw [en120]
  simp (disch := omega) only [k120_0, k120_1, k120_4, k120_5, k120_6, k120_9, k120_10, k120_13, k120_14, Option.toList_some, Option.toList_none, List.cons_append, List.nil_append, nl_i, nl_r, nl_l, nl_n, z10, z00, true_and, i_eq (a := x), t0, nI_toInt]
  split
  · rw [inr_t.mpr (by omega), bI_t]
  · split
    · rw [inr_f.mpr (by omega), bI_f]
    · rw [inr_t.mpr (by omega), bI_t]
theorem c121 : Cal 121 [.int x] I J Q ↔ Q (some (.long (-9223372036854775808 - x.toInt64))) I J := by
  rw [en121]
  simp only [k121_0, k121_3, k121_4, k121_5, k121_6, Option.toList_some, Option.toList_none, List.cons_append, List.nil_append, nl_i, nl_r, nl_l, nl_n]
theorem c126 : Cal 126 [.int x, .int x1, .int x2] I J Q ↔ Q (some (.int (bI (decide (x1.toInt ≤ x.toInt) && decide (x.toInt ≤ x2.toInt))))) I J := by
  rw [en126]
  simp (disch := omega) only [k126_0, k126_1, k126_2, k126_5, k126_6, k126_7, k126_10, k126_11, k126_14, k126_15, Option.toList_some, Option.toList_none, List.cons_append, List.nil_append, nl_i, nl_r, nl_l, nl_n, z10, z00, true_and, i_le, i_lt]
  split
  · rw [show (decide (x1.toInt ≤ x.toInt) && decide (x.toInt ≤ x2.toInt)) = false by simp; omega, bI_f]
  · split
    · rw [show (decide (x1.toInt ≤ x.toInt) && decide (x.toInt ≤ x2.toInt)) = false by simp; omega, bI_f]
    · rw [show (decide (x1.toInt ≤ x.toInt) && decide (x.toInt ≤ x2.toInt)) = true by simp; omega, bI_t]
theorem in_inr {n : Nat} (h : n + 1 < 2 ^ 31) : (decide ((nI 0).toInt ≤ x.toInt) && decide (x.toInt ≤ (nI n).toInt)) = inr x (n + 1) := by
  rw [nI_toInt (by omega), nI_toInt (by omega)]
  unfold inr
  congr 1
  rw [decide_eq_decide]
  omega
theorem c131 : Cal 131 [.int x] I J Q ↔ Q (some (.int (bI (inr x 12)))) I J := by
  rw [en131]
  simp only [k131_0, k131_1, k131_2, k131_4, k131_7, Option.toList_some, Option.toList_none, List.cons_append, List.nil_append, nl_i, nl_r, nl_l, nl_n, c126, bI_z, true_and, in_inr (n := 11) (by decide)]
theorem c132 : Cal 132 [.int x] I J Q ↔ Q (some (.int (bI (inr x 4)))) I J := by
  rw [en132]
  simp only [k132_0, k132_1, k132_2, k132_3, k132_6, Option.toList_some, Option.toList_none, List.cons_append, List.nil_append, nl_i, nl_r, nl_l, nl_n, c126, bI_z, true_and, in_inr (n := 3) (by decide)]
theorem c189 : Cal 189 [.int x] I J Q ↔ Q (some (.int (bI (inr x 4)))) I J := by
  rw [en189]
  simp only [k189_0, k189_1, k189_2, k189_3, k189_6, Option.toList_some, Option.toList_none, List.cons_append, List.nil_append, nl_i, nl_r, nl_l, nl_n, c126, bI_z, true_and, in_inr (n := 3) (by decide)]
theorem c127 : Cal 127 [.int x] I J Q ↔ Q (some (.long (-9223372036854775808 - x.toInt64))) I J := by
  rw [en127]
  simp only [k127_0, k127_3, k127_4, k127_5, k127_6, Option.toList_some, Option.toList_none, List.cons_append, List.nil_append, nl_i, nl_r, nl_l, nl_n]
theorem c128 : Cal 128 [.long u] I J Q ↔ Q (some (.long (if u < 0 then -u else u))) I J := by
  rw [en128]
  simp only [k128_0, k128_1, k128_2, k128_3, k128_6, k128_7, k128_8, k128_11, k128_12, Option.toList_some, Option.toList_none, List.cons_append, List.nil_append, nl_i, nl_r, nl_l, nl_n, lg_cmp_ge]
  by_cases h : 0 ≤ u
  · rw [if_pos h, if_neg (by rw [Int64.lt_iff_toInt_lt]; rw [Int64.le_iff_toInt_le] at h; omega)]
  · rw [if_neg h, if_pos (by rw [Int64.lt_iff_toInt_lt]; rw [Int64.le_iff_toInt_le] at h; omega)]
theorem c111 : Cal 111 [.ref 0, .int x] I J Q ↔ Q (some (.int (-10 - x))) (va_up I 0 (va_up (I 0) 11 x)) J := by
  rw [en111]
  simp only [k111_0, k111_1, k111_2, k111_5, k111_7, k111_8, k111_9, Option.toList_some, Option.toList_none, List.cons_append, List.nil_append, nl_i, nl_r, nl_l, nl_n]
theorem c188 : Cal 188 [.ref 49, .int x] I J Q ↔ Q (some (.int (-10 - x))) (va_up I 49 (va_up (I 49) 40 x)) J := by
  rw [en188]
  simp only [k188_0, k188_1, k188_2, k188_5, k188_7, k188_8, k188_9, Option.toList_some, Option.toList_none, List.cons_append, List.nil_append, nl_i, nl_r, nl_l, nl_n]
end LEAF
