/-! CONTRACTS: bridges -/
def brN (c : Nat → Int32) (g : Nat → Bool) : Nat → Nat
  | 0 => 0
  | k + 1 => if c k = -1 then brN c g k else if g k = false then brN c g k else brN c g k + 1
theorem brN_le (c : Nat → Int32) (g : Nat → Bool) : ∀ k, brN c g k ≤ k
  | 0 => Nat.le_refl _
  | k + 1 => by have := brN_le c g k; unfold brN; split <;> (try split) <;> omega
section BRID
variable {I : ab_I} {J : ab_J} {Q : Option Value → ab_I → ab_J → Prop} {x x1 x2 : Int32} {u : Int64}
set_option maxRecDepth 100000 in
theorem c36_5 {c : Nat → Int32} {h : Nat → Nat} (hc : I 6 = c) (hh : ∀ s, s < 12 → I 7 s = nI (h s) ∧ h s < 16) : Cal 36 [.ref 5] I J Q ↔ Q (some (.int (nI (brN c (fun k => decide ((brR h (k / 4) (cut (h (k / 4)) (k % 4)) 4).testBit (k % 4) = false)) 48)))) I J := by
  refine Cal_iff ?_
  generalize hg : (fun k => decide ((brR h (k / 4) (cut (h (k / 4)) (k % 4)) 4).testBit (k % 4) = false)) = g
  rw [en36]
  simp only [k36_0, k36_1, k36_2, k36_3, Option.toList_some, Option.toList_none, List.cons_append, List.nil_append, nl_i, nl_r, nl_l, nl_n]
  refine loop_dn (N := 48) (P := fun k => At 36 4 [some (.ref 5), some (.int (nI (brN c g k))), some (.int (nI k))] [] I J (fun v' I1 J1 => v' = some (.int (nI (brN c g 48))) ∧ I1 = I ∧ J1 = J)) ?_ ?_
  · rw [k36_4]
    simp (disch := omega) only [k36_5, k36_7, k36_42, k36_43, nI_leI, Nat.le_refl, ↓reduceIte, and_self]
  · intro k hk ih
    have e0 : ¬ 48 ≤ k := by omega
    have eg2 : decide ((brR h (k / 4) (cut (h (k / 4)) (k % 4)) 4).testBit (k % 4) = false) = g k := by rw [← hg]
    rw [brN] at ih
    rw [k36_4]
    simp (disch := omega) only [k36_0, k36_1, k36_2, k36_3, k36_5, k36_7, k36_10, k36_11_5, k36_11_17, k36_14, k36_15, k36_16, k36_17, k36_20, k36_21, k36_22, k36_23, k36_24, k36_25, k36_26, k36_27_5, k36_27_17, k36_30, k36_33, k36_36, k36_39, k36_42, k36_43, Option.toList_some, Option.toList_none, List.cons_append, List.nil_append, nl_i, nl_r, nl_l, nl_n, nI_leI, e0, ↓reduceIte, hc, nI_clamp, bnd, ly_6, Nat.reduceLT, true_and, and_true, eq0, rem4, rem4b, div4, Nat.reduceEqDiff, not_false_eq_true, c35_5 hh (show k / 4 < 12 by omega) (show k % 4 < 4 by omega), bI_0, eg2, nI_add]
    split
    · rename_i hq
      rw [if_pos hq] at ih
      exact ih
    · rename_i hq
      rw [if_neg hq] at ih
      split
      · rename_i hq2
        rw [if_pos hq2] at ih
        exact ih
      · rename_i hq2
        rw [if_neg hq2] at ih
        exact ih
end BRID
