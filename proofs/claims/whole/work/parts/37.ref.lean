/-! CONTRACTS: the reference's leaves (cell 49; now 55, when 56, bundleOf 57) -/
def msF (c : Nat → Int32) (s : Nat) : Nat → Nat
  | 0 => 0
  | m + 1 => msF c s m + (if c (4 * s + m) = -1 then 0 else 1)
theorem msF_le (c : Nat → Int32) (s : Nat) : ∀ m, msF c s m ≤ m
  | 0 => Nat.le_refl _
  | m + 1 => by have := msF_le c s m; unfold msF; split <;> omega
def suF (c : Nat → Int32) (s : Nat) : Nat → Int32
  | 0 => nI 0
  | m + 1 => suF c s m + (if c (4 * s + m) = -1 then nI 0 else c (4 * s + m))
section REF
variable {I : ab_I} {J : ab_J} {Q : Option Value → ab_I → ab_J → Prop} {x x1 x2 : Int32} {u : Int64}
theorem c140 {s m : Nat} (hs : s < 12) (hm : m < 4) : Cal 140 [.ref 49, .int (nI s), .int (nI m)] I J Q ↔ Q (some (.int (I 55 (4 * s + m)))) I J := by
  rw [en140]
  simp (disch := omega) only [k140_0, k140_1, k140_4, k140_5, k140_6, k140_7, k140_8, k140_9, k140_10, Option.toList_some, Option.toList_none, List.cons_append, List.nil_append, nl_i, nl_r, nl_l, nl_n, nI_clamp, bnd, ly_55, Nat.reduceLT, pk_mul, nI_add, true_and, and_true]
set_option maxRecDepth 100000 in
theorem c143 {s : Nat} (hs : s < 12) : Cal 143 [.ref 49, .int (nI s)] I J Q ↔ Q (some (.int (nI (msF (I 55) s 4)))) I J := by
  refine Cal_iff ?_
  rw [en143]
  simp only [k143_0, k143_1, k143_2, k143_3, Option.toList_some, Option.toList_none, List.cons_append, List.nil_append, nl_i, nl_r, nl_l, nl_n]
  refine loop_dn (N := 4) (P := fun m => At 143 4 [some (.ref 49), some (.int (nI s)), some (.int (nI (msF (I 55) s m))), some (.int (nI m))] [] I J (fun v' I1 J1 => v' = some (.int (nI (msF (I 55) s 4))) ∧ I1 = I ∧ J1 = J)) ?_ ?_
  · rw [k143_4]
    simp (disch := omega) only [k143_0, k143_1, k143_2, k143_3, k143_5, k143_6, k143_9, k143_10, k143_11, k143_12, k143_13, k143_16, k143_17, k143_20, k143_21, k143_24, k143_25, k143_26, k143_27, k143_30, k143_33, k143_34, nI_leI, Nat.le_refl, ↓reduceIte, and_self]
  · intro m hm ih
    have e0 : ¬ 4 ≤ m := by omega
    rw [msF] at ih
    rw [k143_4]
    simp (disch := omega) only [k143_0, k143_1, k143_2, k143_3, k143_5, k143_6, k143_9, k143_10, k143_11, k143_12, k143_13, k143_16, k143_17, k143_20, k143_21, k143_24, k143_25, k143_26, k143_27, k143_30, k143_33, k143_34, Option.toList_some, Option.toList_none, List.cons_append, List.nil_append, nl_i, nl_r, nl_l, nl_n, nI_leI, e0, ↓reduceIte, c140 hs hm, nI_add]
    split
    · rename_i hq
      first | (rw [if_pos hq] at ih; exact ih) | (rw [if_neg hq] at ih; exact ih)
    · rename_i hq
      first | (rw [if_neg hq] at ih; exact ih) | (rw [if_pos (Classical.not_not.mp hq)] at ih; exact ih)
set_option maxRecDepth 100000 in
theorem c147 {s : Nat} (hs : s < 12) : Cal 147 [.ref 49, .int (nI s)] I J Q ↔ Q (some (.int (suF (I 55) s 4))) I J := by
  refine Cal_iff ?_
  rw [en147]
  simp only [k147_0, k147_1, k147_2, k147_3, Option.toList_some, Option.toList_none, List.cons_append, List.nil_append, nl_i, nl_r, nl_l, nl_n]
  refine loop_dn (N := 4) (P := fun m => At 147 4 [some (.ref 49), some (.int (nI s)), some (.int (suF (I 55) s m)), some (.int (nI m))] [] I J (fun v' I1 J1 => v' = some (.int (suF (I 55) s 4)) ∧ I1 = I ∧ J1 = J)) ?_ ?_
  · rw [k147_4]
    simp (disch := omega) only [k147_0, k147_1, k147_2, k147_3, k147_5, k147_6, k147_9, k147_10, k147_11, k147_12, k147_13, k147_16, k147_17, k147_20, k147_21, k147_24, k147_25, k147_26, k147_27, k147_30, k147_31, k147_32, k147_35, k147_38, k147_39, nI_leI, Nat.le_refl, ↓reduceIte, and_self]
  · intro m hm ih
    have e0 : ¬ 4 ≤ m := by omega
    rw [suF] at ih
    rw [k147_4]
    simp (disch := omega) only [k147_0, k147_1, k147_2, k147_3, k147_5, k147_6, k147_9, k147_10, k147_11, k147_12, k147_13, k147_16, k147_17, k147_20, k147_21, k147_24, k147_25, k147_26, k147_27, k147_30, k147_31, k147_32, k147_35, k147_38, k147_39, Option.toList_some, Option.toList_none, List.cons_append, List.nil_append, nl_i, nl_r, nl_l, nl_n, nI_leI, e0, ↓reduceIte, c140 hs hm, nI_add]
    split
    · rename_i hq
      first | (rw [if_pos hq] at ih; exact ih) | (rw [if_neg hq] at ih; exact ih)
    · rename_i hq
      first | (rw [if_neg hq] at ih; exact ih) | (rw [if_pos (Classical.not_not.mp hq)] at ih; exact ih)
end REF
