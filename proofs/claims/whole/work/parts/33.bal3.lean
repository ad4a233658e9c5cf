/-! CONTRACTS: counts, bridges -/
def bdN (b : Nat → Int32) : Nat → Nat
  | 0 => 0
  | m + 1 => if ¬ b m = nI m then bdN b m else bdN b m + 1
theorem bdN_le (b : Nat → Int32) : ∀ m, bdN b m ≤ m
  | 0 => Nat.le_refl _
  | m + 1 => by have := bdN_le b m; unfold bdN; split <;> omega
def mkN (h : Nat → Nat) (m : Nat) : Nat → Nat
  | 0 => 0
  | s + 1 => mkN h m s + (if (h s).testBit m then 1 else 0)
theorem mkN_le (h : Nat → Nat) (m : Nat) : ∀ s, mkN h m s ≤ s
  | 0 => Nat.le_refl _
  | s + 1 => by have := mkN_le h m s; unfold mkN; split <;> omega
def mkA (h : Nat → Nat) : Nat → Nat
  | 0 => 0
  | s + 1 => mkA h s + pop (h s)
theorem mkA_le (h : Nat → Nat) : ∀ s, mkA h s ≤ 4 * s
  | 0 => Nat.le_refl _
  | s + 1 => by have := mkA_le h s; have := pop_le (h s); unfold mkA; omega
def mkS (h : Nat → Nat) : Nat → Nat
  | 0 => 0
  | s + 1 => if h s = 0 then mkS h s else mkS h s ||| 2 ^ s
theorem shr1v {a m : Nat} (ha : a < 16) (hm : m < 4) : ((nI a >>> (nI m &&& 31)) &&& nI 1) = nI (if a.testBit m then 1 else 0) := by
  have h : ∀ a, a < 16 → ∀ m, m < 4 → ((nI a >>> (nI m &&& 31)) &&& nI 1) = nI (if a.testBit m then 1 else 0) := by decide +kernel
  exact h a ha m hm
theorem shl1s {m : Nat} (hm : m < 12) : nI 1 <<< (nI m &&& 31) = nI (2 ^ m) := by
  have h : ∀ m, m < 12 → nI 1 <<< (nI m &&& 31) = nI (2 ^ m) := by decide +kernel
  exact h m hm
/-- what a script's other markers reach without it: one script, one round -/
def brS (h : Nat → Nat) (s r : Nat) : Nat → Nat
  | 0 => r
  | k + 1 => if k = s then brS h s r k else if h k &&& brS h s r k = 0 then brS h s r k else brS h s r k ||| h k
def brR (h : Nat → Nat) (s r : Nat) : Nat → Nat
  | 0 => r
  | i + 1 => brS h s (brR h s r i) 12
theorem brS_lt {h : Nat → Nat} (hh : ∀ s, s < 12 → h s < 16) {s r : Nat} (hr : r < 16) : ∀ k, k ≤ 12 → brS h s r k < 16
  | 0, _ => hr
  | k + 1, hk => by
    have ih := brS_lt hh (s := s) hr k (by omega)
    unfold brS
    split
    · exact ih
    · split
      · exact ih
      · exact Nat.or_lt_two_pow (n := 4) ih (hh k (by omega))
theorem brR_lt {h : Nat → Nat} (hh : ∀ s, s < 12 → h s < 16) {s r : Nat} (hr : r < 16) : ∀ i, brR h s r i < 16
  | 0 => hr
  | i + 1 => brS_lt hh (brR_lt hh hr i) 12 (Nat.le_refl _)
/-- without one bit -/
def cut (a m : Nat) : Nat := if a.testBit m then a - 2 ^ m else a
theorem cut_lt {a m : Nat} (h : a < 16) : cut a m < 16 := by
  unfold cut
  split
  · exact Nat.lt_of_le_of_lt (Nat.sub_le _ _) h
  · exact h
theorem cut_e {a m : Nat} (ha : a < 16) (hm : m < 4) : nI a &&& (nI (2 ^ m) ^^^ (-1)) = nI (cut a m) := by
  have h : ∀ a, a < 16 → ∀ m, m < 4 → nI a &&& (nI (2 ^ m) ^^^ (-1)) = nI (cut a m) := by decide +kernel
  exact h a ha m hm
section BALC
variable {I : ab_I} {J : ab_J} {Q : Option Value → ab_I → ab_J → Prop} {x x1 x2 : Int32} {u : Int64}
theorem c37_5 : Cal 37 [.ref 5] I J Q ↔ Q (some (.int (nI (bdN (I 10) 4)))) I J := by
  refine Cal_iff ?_
  rw [en37]
  simp only [k37_0, k37_1, k37_2, k37_3, Option.toList_some, Option.toList_none, List.cons_append, List.nil_append, nl_i, nl_r, nl_l, nl_n]
  refine loop_dn (N := 4) (P := fun m => At 37 4 [some (.ref 5), some (.int (nI (bdN (I 10) m))), some (.int (nI m))] [] I J (fun v' I1 J1 => v' = some (.int (nI (bdN (I 10) 4))) ∧ I1 = I ∧ J1 = J)) ?_ ?_
  · rw [k37_4]
    simp (disch := omega) only [k37_5, k37_6, k37_28, k37_29, nI_leI, Nat.le_refl, ↓reduceIte, and_self]
  · intro m hm ih
    have e0 : ¬ 4 ≤ m := by omega
    rw [bdN] at ih
    rw [k37_4]
    simp (disch := omega) only [k37_0, k37_1, k37_2, k37_3, k37_5, k37_6, k37_9, k37_10_5, k37_10_17, k37_13, k37_14, k37_15, k37_16, k37_19, k37_22, k37_25, k37_28, k37_29, Option.toList_some, Option.toList_none, List.cons_append, List.nil_append, nl_i, nl_r, nl_l, nl_n, nI_leI, e0, ↓reduceIte, nI_clamp, bnd, ly_10, Nat.reduceLT, true_and, and_true, nI_add]
    split
    · rename_i hq
      rw [if_pos hq] at ih
      exact ih
    · rename_i hq
      rw [if_neg hq] at ih
      exact ih
theorem c38_5 {h : Nat → Nat} {m : Nat} (hh : ∀ s, s < 12 → I 7 s = nI (h s) ∧ h s < 16) (hm : m < 4) : Cal 38 [.ref 5, .int (nI m)] I J Q ↔ Q (some (.int (nI (mkN h m 12)))) I J := by
  refine Cal_iff ?_
  rw [en38]
  simp only [k38_0, k38_1, k38_2, k38_3, Option.toList_some, Option.toList_none, List.cons_append, List.nil_append, nl_i, nl_r, nl_l, nl_n]
  refine loop_dn (N := 12) (P := fun s => At 38 4 [some (.ref 5), some (.int (nI m)), some (.int (nI (mkN h m s))), some (.int (nI s))] [] I J (fun v' I1 J1 => v' = some (.int (nI (mkN h m 12))) ∧ I1 = I ∧ J1 = J)) ?_ ?_
  · rw [k38_4]
    simp (disch := omega) only [k38_5, k38_7, k38_29, k38_30, nI_leI, Nat.le_refl, ↓reduceIte, and_self]
  · intro s hs ih
    have e0 : ¬ 12 ≤ s := by omega
    obtain ⟨h1, h2⟩ := hh s hs
    rw [k38_4]
    simp (disch := omega) only [k38_0, k38_1, k38_2, k38_3, k38_5, k38_7, k38_10, k38_11, k38_12_5, k38_12_17, k38_15, k38_16, k38_17, k38_18, k38_19, k38_20, k38_21, k38_22, k38_23, k38_26, k38_29, k38_30, Option.toList_some, Option.toList_none, List.cons_append, List.nil_append, nl_i, nl_r, nl_l, nl_n, nI_leI, e0, ↓reduceIte, h1, nI_clamp, bnd, ly_7, Nat.reduceLT, true_and, and_true, shr1v, nI_add]
    exact ih
theorem c39_5 {h : Nat → Nat} (hh : ∀ s, s < 12 → I 7 s = nI (h s) ∧ h s < 16) : Cal 39 [.ref 5] I J Q ↔ Q (some (.int (nI (mkA h 12)))) I J := by
  refine Cal_iff ?_
  rw [en39]
  simp only [k39_0, k39_1, k39_2, k39_3, Option.toList_some, Option.toList_none, List.cons_append, List.nil_append, nl_i, nl_r, nl_l, nl_n]
  refine loop_dn (N := 12) (P := fun s => At 39 4 [some (.ref 5), some (.int (nI (mkA h s))), some (.int (nI s))] [] I J (fun v' I1 J1 => v' = some (.int (nI (mkA h 12))) ∧ I1 = I ∧ J1 = J)) ?_ ?_
  · rw [k39_4]
    simp (disch := omega) only [k39_5, k39_7, k39_28, k39_29, nI_leI, Nat.le_refl, ↓reduceIte, and_self]
  · intro s hs ih
    have e0 : ¬ 12 ≤ s := by omega
    obtain ⟨h1, h2⟩ := hh s hs
    rw [k39_4]
    simp (disch := omega) only [k39_0, k39_1, k39_2, k39_3, k39_5, k39_7, k39_10, k39_11, k39_12_5, k39_12_17, k39_15, k39_16, k39_17, k39_20, k39_21, k39_22, k39_25, k39_28, k39_29, Option.toList_some, Option.toList_none, List.cons_append, List.nil_append, nl_i, nl_r, nl_l, nl_n, nI_leI, e0, ↓reduceIte, h1, nI_clamp, bnd, ly_7, Nat.reduceLT, true_and, and_true, c202 h2, nI_add]
    exact ih
theorem c40_5 {h : Nat → Nat} (hh : ∀ s, s < 12 → I 7 s = nI (h s) ∧ h s < 16) : Cal 40 [.ref 5] I J Q ↔ Q (some (.int (nI (mkS h 12)))) I J := by
  refine Cal_iff ?_
  rw [en40]
  simp only [k40_0, k40_1, k40_2, k40_3, Option.toList_some, Option.toList_none, List.cons_append, List.nil_append, nl_i, nl_r, nl_l, nl_n]
  refine loop_dn (N := 12) (P := fun s => At 40 4 [some (.ref 5), some (.int (nI (mkS h s))), some (.int (nI s))] [] I J (fun v' I1 J1 => v' = some (.int (nI (mkS h 12))) ∧ I1 = I ∧ J1 = J)) ?_ ?_
  · rw [k40_4]
    simp (disch := omega) only [k40_5, k40_7, k40_31, k40_32, nI_leI, Nat.le_refl, ↓reduceIte, and_self]
  · intro s hs ih
    have e0 : ¬ 12 ≤ s := by omega
    obtain ⟨h1, h2⟩ := hh s hs
    rw [mkS] at ih
    rw [k40_4]
    simp (disch := omega) only [k40_0, k40_1, k40_2, k40_3, k40_5, k40_7, k40_10, k40_11_5, k40_11_17, k40_14, k40_15, k40_16, k40_19, k40_20, k40_21, k40_22, k40_23, k40_24, k40_25, k40_28, k40_31, k40_32, Option.toList_some, Option.toList_none, List.cons_append, List.nil_append, nl_i, nl_r, nl_l, nl_n, nI_leI, e0, ↓reduceIte, h1, nI_clamp, bnd, ly_7, Nat.reduceLT, true_and, and_true, eq0, shl1s, or_nI, nI_add]
    split
    · rename_i hq
      rw [if_pos hq] at ih
      exact ih
    · rename_i hq
      rw [if_neg hq] at ih
      exact ih
theorem c35_5 {h : Nat → Nat} {s m : Nat} (hh : ∀ s, s < 12 → I 7 s = nI (h s) ∧ h s < 16) (hs : s < 12) (hm : m < 4) : Cal 35 [.ref 5, .int (nI s), .int (nI m)] I J Q ↔ Q (some (.int (bI (decide ((brR h s (cut (h s) m) 4).testBit m = false))))) I J := by
  refine Cal_iff ?_
  obtain ⟨g1, g2⟩ := hh s hs
  have hl := fun i => brR_lt (fun s hs => (hh s hs).2) (s := s) (cut_lt (m := m) g2) i
  rw [en35]
  simp (disch := omega) only [k35_0, k35_1_5, k35_4, k35_5, k35_6, k35_7, k35_8, k35_9, k35_10, k35_11, k35_12, k35_13, k35_14, Option.toList_some, Option.toList_none, List.cons_append, List.nil_append, nl_i, nl_r, nl_l, nl_n, g1, nI_clamp, bnd, ly_7, Nat.reduceLT, true_and, and_true, shl1, cut_e g2 hm]
  have key : ∀ a5 : Option Value, At 35 16 [some (.ref 5), some (.int (nI s)), some (.int (nI m)), some (.int (nI (brR h s (cut (h s) m) 0))), some (.int (nI 0)), a5] [] I J (fun v' I1 J1 => v' = some (.int (bI (decide ((brR h s (cut (h s) m) 4).testBit m = false)))) ∧ I1 = I ∧ J1 = J) := by
    refine loop_dn (N := 4) (P := fun i => ∀ a5 : Option Value, At 35 16 [some (.ref 5), some (.int (nI s)), some (.int (nI m)), some (.int (nI (brR h s (cut (h s) m) i))), some (.int (nI i)), a5] [] I J (fun v' I1 J1 => v' = some (.int (bI (decide ((brR h s (cut (h s) m) 4).testBit m = false)))) ∧ I1 = I ∧ J1 = J)) ?_ ?_
    · intro a5
      have h4 := hl 4
      rw [k35_16]
      simp (disch := omega) only [k35_18, k35_19, k35_72, k35_73, k35_74, k35_75, k35_76, k35_77, k35_80, k35_81, k35_84, k35_85, Option.toList_some, Option.toList_none, List.cons_append, List.nil_append, nl_i, nl_r, nl_l, nl_n, nI_leI, Nat.le_refl, ↓reduceIte, shr1, z10, z00, true_and]
      by_cases hq : (brR h s (cut (h s) m) 4).testBit m = false
      · rw [if_neg (show ¬ ¬ _ = false from fun q => q hq), decide_eq_true hq, bI_t]
        first | trivial | exact ⟨rfl, rfl, rfl⟩
      · rw [if_pos hq, decide_eq_false hq, bI_f]
        first | trivial | exact ⟨rfl, rfl, rfl⟩
    · intro i hi ih a5
      have e0 : ¬ 4 ≤ i := by omega
      have hli := hl i
      rw [k35_16]
      simp (disch := omega) only [k35_18, k35_19, k35_22, k35_23, Option.toList_some, Option.toList_none, List.cons_append, List.nil_append, nl_i, nl_r, nl_l, nl_n, nI_leI, e0, ↓reduceIte]
      refine loop_dn (N := 12) (P := fun k => At 35 25 [some (.ref 5), some (.int (nI s)), some (.int (nI m)), some (.int (nI (brS h s (brR h s (cut (h s) m) i) k))), some (.int (nI i)), some (.int (nI k))] [] I J (fun v' I1 J1 => v' = some (.int (bI (decide ((brR h s (cut (h s) m) 4).testBit m = false)))) ∧ I1 = I ∧ J1 = J)) ?_ ?_
      · rw [k35_25]
        simp (disch := omega) only [k35_27, k35_29, k35_66, k35_69, Option.toList_some, Option.toList_none, List.cons_append, List.nil_append, nl_i, nl_r, nl_l, nl_n, nI_leI, Nat.le_refl, ↓reduceIte, nI_add]
        exact ih _
      · intro k hk ihk
        have e1 : ¬ 12 ≤ k := by omega
        obtain ⟨h1, h2⟩ := hh k hk
        have hbl := brS_lt (fun s hs => (hh s hs).2) (s := s) hli k (by omega)
        have hand : h k &&& brS h s (brR h s (cut (h s) m) i) k < 2 ^ 31 := by
          have := Nat.and_le_left (n := h k) (m := brS h s (brR h s (cut (h s) m) i) k)
          omega
        rw [brS] at ihk
        rw [k35_25]
        simp (disch := omega) only [k35_27, k35_29, k35_32, k35_34, k35_35, k35_38, k35_39_5, k35_42, k35_44, k35_45, k35_46, k35_47, k35_50, k35_51, k35_52_5, k35_55, k35_57, k35_58, k35_59, k35_60, k35_63, Option.toList_some, Option.toList_none, List.cons_append, List.nil_append, nl_i, nl_r, nl_l, nl_n, nI_leI, e1, ↓reduceIte, nIeq, h1, nI_clamp, bnd, ly_7, Nat.reduceLT, true_and, and_true, and_nI, eq0 hand, or_nI, nI_add]
        split
        · rename_i hq
          rw [if_pos hq] at ihk
          exact ihk
        · rename_i hq
          rw [if_neg hq] at ihk
          split
          · rename_i hq2
            rw [if_pos hq2] at ihk
            exact ihk
          · rename_i hq2
            rw [if_neg hq2] at ihk
            exact ihk
  exact key _
end BALC
