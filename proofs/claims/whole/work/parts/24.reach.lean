/-! CONTRACTS: findReach -/
def rb (h : Nat → Nat) (m : Nat) : Nat → Nat
  | 0 => 0
  | s + 1 => if (h s).testBit m = false then rb h m s else rb h m s ||| h s
theorem rb_lt {h : Nat → Nat} (hh : ∀ s, s < 12 → h s < 16) (m : Nat) : ∀ n, n ≤ 12 → rb h m n < 16
  | 0, _ => by show 0 < 16; decide
  | s + 1, hs => by
    have ih := rb_lt hh m s (by omega)
    unfold rb
    split
    · exact ih
    · exact Nat.or_lt_two_pow (n := 4) ih (hh s (by omega))
def wst (b m : Nat) (r : Nat → Nat) : Nat → Nat := if (r m).testBit b = false then r else va_up r m (r m ||| r b)
def w2 (b : Nat) (r : Nat → Nat) : Nat → Nat → Nat
  | 0 => r
  | m + 1 => wst b m (w2 b r m)
def w1 (r : Nat → Nat) : Nat → Nat → Nat
  | 0 => r
  | b + 1 => w2 b (w1 r b) 4
theorem wst_lt {b m : Nat} {r : Nat → Nat} (hm : m < 4) (hb : b < 4) (h : ∀ k, k < 4 → r k < 16) : ∀ k, k < 4 → wst b m r k < 16 := by
  intro k hk
  unfold wst
  split
  · exact h k hk
  · unfold va_up
    split
    · exact Nat.or_lt_two_pow (n := 4) (h m hm) (h b hb)
    · exact h k hk
theorem w2_lt {b : Nat} {r : Nat → Nat} (hb : b < 4) (h : ∀ k, k < 4 → r k < 16) : ∀ m, m ≤ 4 → ∀ k, k < 4 → w2 b r m k < 16
  | 0, _ => h
  | m + 1, hm => wst_lt (by omega) hb (w2_lt hb h m (by omega))
theorem w1_lt {r : Nat → Nat} (h : ∀ k, k < 4 → r k < 16) : ∀ b, b ≤ 4 → ∀ k, k < 4 → w1 r b k < 16
  | 0, _ => h
  | b + 1, hb => w2_lt (by omega) (w1_lt h b (by omega)) 4 (Nat.le_refl 4)
theorem fll_up {r f0 : Nat → Nat} {f : Nat → Int32} {m v N : Nat} (hm : m < N) : va_up (fll (fun k => nI (r k)) f N) m (nI v) = fll (fun k => nI (va_up r m v k)) f N := by
  funext k
  unfold fll va_up
  by_cases h : k = m
  · have h2 : k < N := by omega
    simp only [if_pos h, if_pos h2]
  · simp only [if_neg h]
section REACH
variable {I : ab_I} {J : ab_J} {Q : Option Value → ab_I → ab_J → Prop} {x x1 x2 : Int32} {u : Int64}
set_option maxRecDepth 100000 in
theorem c19_5 {h : Nat → Nat} (hh : ∀ s, s < 12 → I 7 s = nI (h s) ∧ h s < 16) : Cal 19 [.ref 5] I J Q ↔ Q none (va_up I 9 (fll (fun m => nI (w1 (fun m => rb h m 12) 4 m)) (I 9) 4)) J := by
  refine Cal_iff ?_
  rw [en19]
  have hr : ∀ m n, n ≤ 12 → rb h m n < 16 := fun m => rb_lt (fun s hs => (hh s hs).2) m
  simp only [k19_0, k19_1, Option.toList_some, Option.toList_none, List.cons_append, List.nil_append, nl_i, nl_r, nl_l, nl_n]
  have key : ∀ a2 a3 : Option Value, At 19 2 [some (.ref 5), some (.int (nI 0)), a2, a3] [] (va_up I 9 (fll (fun m => nI (rb h m 12)) (I 9) 0)) J (fun v' I1 J1 => v' = none ∧ I1 = va_up I 9 (fll (fun m => nI (w1 (fun m => rb h m 12) 4 m)) (I 9) 4) ∧ J1 = J) := by
    refine loop_dn (N := 4) (P := fun i => ∀ a2 a3 : Option Value, At 19 2 [some (.ref 5), some (.int (nI i)), a2, a3] [] (va_up I 9 (fll (fun m => nI (rb h m 12)) (I 9) i)) J (fun v' I1 J1 => v' = none ∧ I1 = va_up I 9 (fll (fun m => nI (w1 (fun m => rb h m 12) 4 m)) (I 9) 4) ∧ J1 = J)) ?_ ?_
    · intro a2 a3
      rw [k19_2]
      simp (disch := omega) only [k19_3, k19_4, k19_58, k19_59, Option.toList_some, Option.toList_none, List.cons_append, List.nil_append, nl_i, nl_r, nl_l, nl_n, nI_leI, Nat.le_refl, ↓reduceIte]
      have key2 : ∀ a2 : Option Value, At 19 60 [some (.ref 5), some (.int (nI 0)), a2, a3] [] (va_up I 9 (fll (fun m => nI (w1 (fun m => rb h m 12) 0 m)) (I 9) 4)) J (fun v' I1 J1 => v' = none ∧ I1 = va_up I 9 (fll (fun m => nI (w1 (fun m => rb h m 12) 4 m)) (I 9) 4) ∧ J1 = J) := by
        refine loop_dn (N := 4) (P := fun b => ∀ a2 : Option Value, At 19 60 [some (.ref 5), some (.int (nI b)), a2, a3] [] (va_up I 9 (fll (fun m => nI (w1 (fun m => rb h m 12) b m)) (I 9) 4)) J (fun v' I1 J1 => v' = none ∧ I1 = va_up I 9 (fll (fun m => nI (w1 (fun m => rb h m 12) 4 m)) (I 9) 4) ∧ J1 = J)) ?_ ?_
        · intro a2
          rw [k19_60]
          simp (disch := omega) only [k19_61, k19_62, k19_112, nI_leI, Nat.le_refl, ↓reduceIte, and_self]
        · intro b hb ih a2
          have e0 : ¬ 4 ≤ b := by omega
          have hw := w1_lt (r := fun m => rb h m 12) (fun m _ => hr m 12 (Nat.le_refl _)) b (by omega)
          rw [k19_60]
          simp (disch := omega) only [k19_61, k19_62, k19_65, k19_66, Option.toList_some, Option.toList_none, List.cons_append, List.nil_append, nl_i, nl_r, nl_l, nl_n, nI_leI, e0, ↓reduceIte]
          refine loop_dn (N := 4) (P := fun m => At 19 67 [some (.ref 5), some (.int (nI b)), some (.int (nI m)), a3] [] (va_up I 9 (fll (fun k => nI (w2 b (w1 (fun m => rb h m 12) b) m k)) (I 9) 4)) J (fun v' I1 J1 => v' = none ∧ I1 = va_up I 9 (fll (fun m => nI (w1 (fun m => rb h m 12) 4 m)) (I 9) 4) ∧ J1 = J)) ?_ ?_
          · rw [k19_67]
            simp (disch := omega) only [k19_68, k19_69, k19_106, k19_109, Option.toList_some, Option.toList_none, List.cons_append, List.nil_append, nl_i, nl_r, nl_l, nl_n, nI_leI, Nat.le_refl, ↓reduceIte, nI_add]
            exact ih _
          · intro m hm ihm
            have e1 : ¬ 4 ≤ m := by omega
            have hw2 := w2_lt (b := b) hb hw m (by omega)
            have l1 := hw2 m hm
            have l2 := hw2 b hb
            rw [k19_67]
            simp (disch := omega) only [k19_68, k19_69, k19_72, k19_73_5, k19_76, k19_77, k19_78, k19_79, k19_80, k19_81, k19_82, k19_85, k19_86_5, k19_89, k19_90, k19_91, k19_92, k19_93_5, k19_96, k19_97, k19_98, k19_99, k19_100, k19_103, Option.toList_some, Option.toList_none, List.cons_append, List.nil_append, nl_i, nl_r, nl_l, nl_n, nI_leI, e1, ↓reduceIte, nI_clamp, bnd, true_and, and_true, ly_9, Nat.reduceLT, va_up_s, up_same, fll_lt, shr1, or_nI, nI_add]
            rw [w2, wst] at ihm
            split
            · rename_i hq
              rw [if_pos hq] at ihm
              exact ihm
            · rename_i hq
              rw [if_neg hq] at ihm
              rw [fll_up (f0 := fun _ => 0) hm]
              exact ihm
      exact key2 _
    · intro i hi ih a2 a3
      have e0 : ¬ 4 ≤ i := by omega
      rw [k19_2]
      simp (disch := omega) only [k19_3, k19_4, k19_7, k19_8, k19_9, k19_10, Option.toList_some, Option.toList_none, List.cons_append, List.nil_append, nl_i, nl_r, nl_l, nl_n, nI_leI, e0, ↓reduceIte]
      refine loop_dn (N := 12) (P := fun s => At 19 11 [some (.ref 5), some (.int (nI i)), some (.int (nI (rb h i s))), some (.int (nI s))] [] (va_up I 9 (fll (fun m => nI (rb h m 12)) (I 9) i)) J (fun v' I1 J1 => v' = none ∧ I1 = va_up I 9 (fll (fun m => nI (w1 (fun m => rb h m 12) 4 m)) (I 9) 4) ∧ J1 = J)) ?_ ?_
      · have ih2 := ih (some (.int (nI (rb h i 12)))) (some (.int (nI 12)))
        rw [k19_11]
        simp (disch := omega) only [k19_12, k19_14, k19_45, k19_46_5, k19_49, k19_50, k19_51, k19_52, k19_55, Option.toList_some, Option.toList_none, List.cons_append, List.nil_append, nl_i, nl_r, nl_l, nl_n, nI_leI, Nat.le_refl, ↓reduceIte, nI_clamp, bnd, true_and, and_true, ly_9, Nat.reduceLT, va_up_s, up_same, fll_s, nI_add]
        exact ih2
      · intro s hs ihs
        have e1 : ¬ 12 ≤ s := by omega
        obtain ⟨h1, h2⟩ := hh s hs
        rw [k19_11]
        simp (disch := omega) only [k19_12, k19_14, k19_17, k19_18_5, k19_21, k19_22, k19_23, k19_24, k19_25, k19_26, k19_27, k19_30, k19_31, k19_32_5, k19_35, k19_36, k19_37, k19_38, k19_39, k19_42, Option.toList_some, Option.toList_none, List.cons_append, List.nil_append, nl_i, nl_r, nl_l, nl_n, up_ne, h1, nI_leI, e1, ↓reduceIte, nI_clamp, bnd, true_and, and_true, ly_7, Nat.reduceLT, shr1, or_nI, nI_add]
        rw [rb] at ihs
        split
        · rename_i hq
          rw [if_pos hq] at ihs
          exact ihs
        · rename_i hq
          rw [if_neg hq] at ihs
          exact ihs
  have key := key none none
  rw [fll_0, up_id] at key
  exact key
set_option maxRecDepth 100000 in
theorem c19_17 {h : Nat → Nat} (hh : ∀ s, s < 12 → I 19 s = nI (h s) ∧ h s < 16) : Cal 19 [.ref 17] I J Q ↔ Q none (va_up I 21 (fll (fun m => nI (w1 (fun m => rb h m 12) 4 m)) (I 21) 4)) J := by
  refine Cal_iff ?_
  rw [en19]
  have hr : ∀ m n, n ≤ 12 → rb h m n < 16 := fun m => rb_lt (fun s hs => (hh s hs).2) m
  simp only [k19_0, k19_1, Option.toList_some, Option.toList_none, List.cons_append, List.nil_append, nl_i, nl_r, nl_l, nl_n]
  have key : ∀ a2 a3 : Option Value, At 19 2 [some (.ref 17), some (.int (nI 0)), a2, a3] [] (va_up I 21 (fll (fun m => nI (rb h m 12)) (I 21) 0)) J (fun v' I1 J1 => v' = none ∧ I1 = va_up I 21 (fll (fun m => nI (w1 (fun m => rb h m 12) 4 m)) (I 21) 4) ∧ J1 = J) := by
    refine loop_dn (N := 4) (P := fun i => ∀ a2 a3 : Option Value, At 19 2 [some (.ref 17), some (.int (nI i)), a2, a3] [] (va_up I 21 (fll (fun m => nI (rb h m 12)) (I 21) i)) J (fun v' I1 J1 => v' = none ∧ I1 = va_up I 21 (fll (fun m => nI (w1 (fun m => rb h m 12) 4 m)) (I 21) 4) ∧ J1 = J)) ?_ ?_
    · intro a2 a3
      rw [k19_2]
      simp (disch := omega) only [k19_3, k19_4, k19_58, k19_59, Option.toList_some, Option.toList_none, List.cons_append, List.nil_append, nl_i, nl_r, nl_l, nl_n, nI_leI, Nat.le_refl, ↓reduceIte]
      have key2 : ∀ a2 : Option Value, At 19 60 [some (.ref 17), some (.int (nI 0)), a2, a3] [] (va_up I 21 (fll (fun m => nI (w1 (fun m => rb h m 12) 0 m)) (I 21) 4)) J (fun v' I1 J1 => v' = none ∧ I1 = va_up I 21 (fll (fun m => nI (w1 (fun m => rb h m 12) 4 m)) (I 21) 4) ∧ J1 = J) := by
        refine loop_dn (N := 4) (P := fun b => ∀ a2 : Option Value, At 19 60 [some (.ref 17), some (.int (nI b)), a2, a3] [] (va_up I 21 (fll (fun m => nI (w1 (fun m => rb h m 12) b m)) (I 21) 4)) J (fun v' I1 J1 => v' = none ∧ I1 = va_up I 21 (fll (fun m => nI (w1 (fun m => rb h m 12) 4 m)) (I 21) 4) ∧ J1 = J)) ?_ ?_
        · intro a2
          rw [k19_60]
          simp (disch := omega) only [k19_61, k19_62, k19_112, nI_leI, Nat.le_refl, ↓reduceIte, and_self]
        · intro b hb ih a2
          have e0 : ¬ 4 ≤ b := by omega
          have hw := w1_lt (r := fun m => rb h m 12) (fun m _ => hr m 12 (Nat.le_refl _)) b (by omega)
          rw [k19_60]
          simp (disch := omega) only [k19_61, k19_62, k19_65, k19_66, Option.toList_some, Option.toList_none, List.cons_append, List.nil_append, nl_i, nl_r, nl_l, nl_n, nI_leI, e0, ↓reduceIte]
          refine loop_dn (N := 4) (P := fun m => At 19 67 [some (.ref 17), some (.int (nI b)), some (.int (nI m)), a3] [] (va_up I 21 (fll (fun k => nI (w2 b (w1 (fun m => rb h m 12) b) m k)) (I 21) 4)) J (fun v' I1 J1 => v' = none ∧ I1 = va_up I 21 (fll (fun m => nI (w1 (fun m => rb h m 12) 4 m)) (I 21) 4) ∧ J1 = J)) ?_ ?_
          · rw [k19_67]
            simp (disch := omega) only [k19_68, k19_69, k19_106, k19_109, Option.toList_some, Option.toList_none, List.cons_append, List.nil_append, nl_i, nl_r, nl_l, nl_n, nI_leI, Nat.le_refl, ↓reduceIte, nI_add]
            exact ih _
          · intro m hm ihm
            have e1 : ¬ 4 ≤ m := by omega
            have hw2 := w2_lt (b := b) hb hw m (by omega)
            have l1 := hw2 m hm
            have l2 := hw2 b hb
            rw [k19_67]
            simp (disch := omega) only [k19_68, k19_69, k19_72, k19_73_17, k19_76, k19_77, k19_78, k19_79, k19_80, k19_81, k19_82, k19_85, k19_86_17, k19_89, k19_90, k19_91, k19_92, k19_93_17, k19_96, k19_97, k19_98, k19_99, k19_100, k19_103, Option.toList_some, Option.toList_none, List.cons_append, List.nil_append, nl_i, nl_r, nl_l, nl_n, nI_leI, e1, ↓reduceIte, nI_clamp, bnd, true_and, and_true, ly_21, Nat.reduceLT, va_up_s, up_same, fll_lt, shr1, or_nI, nI_add]
            rw [w2, wst] at ihm
            split
            · rename_i hq
              rw [if_pos hq] at ihm
              exact ihm
            · rename_i hq
              rw [if_neg hq] at ihm
              rw [fll_up (f0 := fun _ => 0) hm]
              exact ihm
      exact key2 _
    · intro i hi ih a2 a3
      have e0 : ¬ 4 ≤ i := by omega
      rw [k19_2]
      simp (disch := omega) only [k19_3, k19_4, k19_7, k19_8, k19_9, k19_10, Option.toList_some, Option.toList_none, List.cons_append, List.nil_append, nl_i, nl_r, nl_l, nl_n, nI_leI, e0, ↓reduceIte]
      refine loop_dn (N := 12) (P := fun s => At 19 11 [some (.ref 17), some (.int (nI i)), some (.int (nI (rb h i s))), some (.int (nI s))] [] (va_up I 21 (fll (fun m => nI (rb h m 12)) (I 21) i)) J (fun v' I1 J1 => v' = none ∧ I1 = va_up I 21 (fll (fun m => nI (w1 (fun m => rb h m 12) 4 m)) (I 21) 4) ∧ J1 = J)) ?_ ?_
      · have ih2 := ih (some (.int (nI (rb h i 12)))) (some (.int (nI 12)))
        rw [k19_11]
        simp (disch := omega) only [k19_12, k19_14, k19_45, k19_46_17, k19_49, k19_50, k19_51, k19_52, k19_55, Option.toList_some, Option.toList_none, List.cons_append, List.nil_append, nl_i, nl_r, nl_l, nl_n, nI_leI, Nat.le_refl, ↓reduceIte, nI_clamp, bnd, true_and, and_true, ly_21, Nat.reduceLT, va_up_s, up_same, fll_s, nI_add]
        exact ih2
      · intro s hs ihs
        have e1 : ¬ 12 ≤ s := by omega
        obtain ⟨h1, h2⟩ := hh s hs
        rw [k19_11]
        simp (disch := omega) only [k19_12, k19_14, k19_17, k19_18_17, k19_21, k19_22, k19_23, k19_24, k19_25, k19_26, k19_27, k19_30, k19_31, k19_32_17, k19_35, k19_36, k19_37, k19_38, k19_39, k19_42, Option.toList_some, Option.toList_none, List.cons_append, List.nil_append, nl_i, nl_r, nl_l, nl_n, up_ne, h1, nI_leI, e1, ↓reduceIte, nI_clamp, bnd, true_and, and_true, ly_19, Nat.reduceLT, shr1, or_nI, nI_add]
        rw [rb] at ihs
        split
        · rename_i hq
          rw [if_pos hq] at ihs
          exact ihs
        · rename_i hq
          rw [if_neg hq] at ihs
          exact ihs
  have key := key none none
  rw [fll_0, up_id] at key
  exact key
end REACH
