/-! CONTRACTS: tellings -/
theorem loop_dn {P : Nat → Prop} {N : Nat} (hN : P N) (hs : ∀ i, i < N → P (i + 1) → P i) : P 0 := by
  have key : ∀ d, d ≤ N → P (N - d) := by
    intro d
    induction d with
    | zero => intro _; exact hN
    | succ d ih =>
      intro hd
      refine hs _ (by omega) ?_
      rw [show N - (d + 1) + 1 = N - d by omega]
      exact ih (by omega)
  have := key N (Nat.le_refl N)
  rwa [Nat.sub_self] at this
theorem up_id {α : Type} (f : Nat → α) (k : Nat) : va_up f k (f k) = f := by
  funext j
  unfold va_up
  split
  · rename_i h; rw [h]
  · rfl
theorem up_same {α : Type} (f : Nat → α) (k : Nat) (v w : α) : va_up (va_up f k v) k w = va_up f k w := by
  funext j
  unfold va_up
  split <;> rfl
theorem up_comm {α : Type} (f : Nat → α) {a b : Nat} (v w : α) (h : a < b) : va_up (va_up f b w) a v = va_up (va_up f a v) b w := by
  funext j
  unfold va_up
  by_cases h1 : j = a
  · have h2 : ¬ j = b := by omega
    simp only [if_pos h1, if_neg h2]
  · simp only [if_neg h1]
theorem up_ne {α : Type} (f : Nat → α) {k j : Nat} (v : α) (h : j < k ∨ k < j) : va_up f k v j = f j := va_up_n f v (by omega)
/-- the first i places are v -/
def fil {α : Type} (v : α) (f : Nat → α) (i : Nat) : Nat → α := fun k => if k < i then v else f k
theorem fil_0 {α : Type} (v : α) (f : Nat → α) : fil v f 0 = f := by funext k; unfold fil; rw [if_neg (Nat.not_lt_zero k)]
theorem fil_s {α : Type} (v : α) (f : Nat → α) (i : Nat) : va_up (fil v f i) i v = fil v f (i + 1) := by
  funext k
  unfold fil va_up
  by_cases h : k = i
  · rw [if_pos h, if_pos (by omega)]
  · rw [if_neg h]
    by_cases h2 : k < i
    · have h3 : k < i + 1 := by omega
      simp only [if_pos h2, if_pos h3]
    · have h3 : ¬ k < i + 1 := by omega
      simp only [if_neg h2, if_neg h3]
/-- the marks and their order, as of un: tellings tc (place), tv (mark), tt (time) -/
def lyF (c0 o0 : Nat → Int32) (tc : Nat → Nat) (tv tt : Nat → Int32) (un : Int32) : Nat → (Nat → Int32) × (Nat → Int32)
  | 0 => (fil (-1) c0 48, fil (-1) o0 48)
  | i + 1 => if un < tt i then lyF c0 o0 tc tv tt un i else (va_up (lyF c0 o0 tc tv tt un i).1 (tc i) (tv i), va_up (lyF c0 o0 tc tv tt un i).2 (tc i) (nI i))
section TELL
variable {I : ab_I} {J : ab_J} {Q : Option Value → ab_I → ab_J → Prop} {x x1 x2 : Int32} {u : Int64}
theorem c67 : Cal 67 [.ref 1, .int x] I J Q ↔ Q (some (.int (bI (decide ((I 1 4).toInt ≤ x.toInt) && decide (x.toInt ≤ 999))))) I J := by
  rw [en67]
  simp (disch := omega) only [k67_0, k67_1, k67_2, k67_5, k67_8, k67_9, k67_12, k67_15, k67_16, k67_19, k67_20, Option.toList_some, Option.toList_none, List.cons_append, List.nil_append, nl_i, nl_r, nl_l, nl_n, z10, z00, true_and, i_lt, nI_toInt]
  split
  · rw [show (decide ((I 1 4).toInt ≤ x.toInt) && decide (x.toInt ≤ 999)) = false by simp; omega, bI_f]
  · split
    · rw [show (decide ((I 1 4).toInt ≤ x.toInt) && decide (x.toInt ≤ 999)) = false by simp; omega, bI_f]
    · rw [show (decide ((I 1 4).toInt ≤ x.toInt) && decide (x.toInt ≤ 999)) = true by simp; omega, bI_t]
theorem c68 {n : Nat} (h : I 1 3 = nI n) (hn : n ≤ 100) : Cal 68 [.ref 1] I J Q ↔ Q (some (.int (bI (decide (100 ≤ n))))) I J := by
  rw [en68]
  simp (disch := omega) only [k68_0, k68_1, k68_4, k68_6, k68_9, k68_10, k68_13, k68_14, Option.toList_some, Option.toList_none, List.cons_append, List.nil_append, nl_i, nl_r, nl_l, nl_n, z10, z00, true_and, h, nI_ltI]
  split
  · rw [show decide (100 ≤ n) = false by simp; omega, bI_f]
  · rw [show decide (100 ≤ n) = true by simp; omega, bI_t]
theorem c69 {n : Nat} (h : I 1 3 = nI n) (hn : n < 100) : Cal 69 [.ref 1, .int x, .int x1, .int x2] I J Q ↔ Q none (va_up (va_up (va_up (va_up I 1 (va_up (va_up (I 1) 3 (nI (n + 1))) 4 x2)) 2 (va_up (I 2) n x)) 3 (va_up (I 3) n x1)) 4 (va_up (I 4) n x2)) J := by
  rw [en69]
  simp (disch := omega) only [k69_0, k69_1, k69_4, k69_7, k69_8, k69_9, k69_12, k69_13, k69_16, k69_17, k69_18, k69_19, k69_22, k69_23, k69_26, k69_27, k69_28, k69_29, k69_32, k69_33, k69_36, k69_37, k69_38, k69_39, k69_40, k69_43, k69_44, k69_45, k69_48, k69_49, k69_50, k69_53, Option.toList_some, Option.toList_none, List.cons_append, List.nil_append, nl_i, nl_r, nl_l, nl_n, c68 h (by omega), bI_0, decide_eq_false_iff_not, h, nI_clamp, bnd, nI_add, true_and, and_true, ly_2, ly_3, ly_4, Nat.reduceLT, up_comm, up_same, va_up_s, up_ne]
  rw [if_pos (by omega)]
set_option maxRecDepth 100000 in
theorem c70 {n : Nat} {tc : Nat → Nat} (h : I 1 3 = nI n) (hn : n ≤ 100) (hc : ∀ i, i < n → tc i < 48 ∧ I 2 i = nI (tc i)) : Cal 70 [.ref 1, .ref 6, .ref 47] I J Q ↔ Q none (va_up (va_up I 6 (lyF (I 6) (I 47) tc (I 3) (I 4) (I 1 5) n).1) 47 (lyF (I 6) (I 47) tc (I 3) (I 4) (I 1 5) n).2) J := by
  refine Cal_iff ?_
  rw [en70]
  simp only [k70_0, k70_1, Option.toList_some, Option.toList_none, List.cons_append, List.nil_append, nl_i, nl_r, nl_l, nl_n]
  have key : At 70 2 [some (.ref 1), some (.ref 6), some (.ref 47), some (.int (nI 0))] [] (va_up (va_up I 6 (fil (-1) (I 6) 0)) 47 (fil (-1) (I 47) 0)) J (fun v' I1 J1 => v' = none ∧ I1 = va_up (va_up I 6 (lyF (I 6) (I 47) tc (I 3) (I 4) (I 1 5) n).1) 47 (lyF (I 6) (I 47) tc (I 3) (I 4) (I 1 5) n).2 ∧ J1 = J) := by
    refine loop_dn (N := 48) (P := fun i => At 70 2 [some (.ref 1), some (.ref 6), some (.ref 47), some (.int (nI i))] [] (va_up (va_up I 6 (fil (-1) (I 6) i)) 47 (fil (-1) (I 47) i)) J (fun v' I1 J1 => v' = none ∧ I1 = va_up (va_up I 6 (lyF (I 6) (I 47) tc (I 3) (I 4) (I 1 5) n).1) 47 (lyF (I 6) (I 47) tc (I 3) (I 4) (I 1 5) n).2 ∧ J1 = J)) ?_ ?_
    · rw [k70_2]
      simp (disch := omega) only [k70_3, k70_5, nI_leI, Nat.reduceLeDiff, ↓reduceIte, k70_22, k70_23, Option.toList_some, Option.toList_none, List.cons_append, List.nil_append, nl_i, nl_r, nl_l, nl_n]
      refine loop_dn (N := n) (P := fun i => At 70 24 [some (.ref 1), some (.ref 6), some (.ref 47), some (.int (nI i))] [] (va_up (va_up I 6 (lyF (I 6) (I 47) tc (I 3) (I 4) (I 1 5) i).1) 47 (lyF (I 6) (I 47) tc (I 3) (I 4) (I 1 5) i).2) J (fun v' I1 J1 => v' = none ∧ I1 = va_up (va_up I 6 (lyF (I 6) (I 47) tc (I 3) (I 4) (I 1 5) n).1) 47 (lyF (I 6) (I 47) tc (I 3) (I 4) (I 1 5) n).2 ∧ J1 = J)) ?_ ?_
      · rw [k70_24]
        simp (disch := omega) only [k70_0, k70_1, k70_3, k70_5, k70_8, k70_9, k70_10, k70_11, k70_12, k70_13, k70_14, k70_15, k70_16, k70_19, k70_22, k70_23, k70_25, k70_26, k70_29, k70_32, k70_33, k70_36, k70_37, k70_38, k70_39, k70_42, k70_45, k70_46, k70_47, k70_50, k70_51, k70_52, k70_53, k70_56, k70_57, k70_58, k70_59, k70_60, k70_61, k70_64, k70_65, k70_66, k70_67, k70_68, k70_71, k70_74, Option.toList_some, Option.toList_none, List.cons_append, List.nil_append, nl_i, nl_r, nl_l, nl_n, up_ne, h, nI_leI, Nat.le_refl, ↓reduceIte, and_self]
      · intro i hi ih
        obtain ⟨h1, h2⟩ := hc i hi
        have e0 : ¬ n ≤ i := by omega
        rw [k70_24]
        simp (disch := omega) only [k70_0, k70_1, k70_3, k70_5, k70_8, k70_9, k70_10, k70_11, k70_12, k70_13, k70_14, k70_15, k70_16, k70_19, k70_22, k70_23, k70_25, k70_26, k70_29, k70_32, k70_33, k70_36, k70_37, k70_38, k70_39, k70_42, k70_45, k70_46, k70_47, k70_50, k70_51, k70_52, k70_53, k70_56, k70_57, k70_58, k70_59, k70_60, k70_61, k70_64, k70_65, k70_66, k70_67, k70_68, k70_71, k70_74, Option.toList_some, Option.toList_none, List.cons_append, List.nil_append, nl_i, nl_r, nl_l, nl_n, up_ne, va_up_s, h, nI_leI, e0, ↓reduceIte, nI_clamp, bnd, true_and, and_true, ly_2, ly_3, ly_4, ly_6, ly_47, Nat.reduceLT, h2, up_comm, up_same, nI_add]
        split
        · rename_i hq
          rw [lyF, if_pos hq] at ih
          exact ih
        · rename_i hq
          rw [lyF, if_neg hq] at ih
          exact ih
    · intro i hi ih
      have e0 : ¬ 48 ≤ i := by omega
      rw [k70_2]
      simp (disch := omega) only [k70_3, k70_5, k70_8, k70_9, k70_10, k70_11, k70_12, k70_13, k70_14, k70_15, k70_16, k70_19, Option.toList_some, Option.toList_none, List.cons_append, List.nil_append, nl_i, nl_r, nl_l, nl_n, nI_leI, e0, ↓reduceIte, nI_clamp, bnd, true_and, and_true, ly_6, ly_47, Nat.reduceLT, va_up_s, up_ne, up_comm, up_same, nI_add, fil_s]
      exact ih
  rw [fil_0, fil_0, up_id, up_id] at key
  exact key
end TELL
