/-! CALLS: write; odd, drift -/
def wrI (c : Nat → Int32) (m s : Nat) (t : Int32) (f : Nat → Int32) : Nat → Nat → Int32
  | 0 => f
  | i + 1 => va_up (wrI c m s t f i) (48 * s + i) (nrw t (c (4 * i + m)))
theorem wrI_v {c : Nat → Int32} {m s : Nat} {t : Int32} {f g : Nat → Int32} {k : Nat} (h : f k = g k) : ∀ n, wrI c m s t f n k = wrI c m s t g n k
  | 0 => h
  | n + 1 => up_v (wrI_v h n)
def aWrite (σ : PS) (x x1 : Int32) : Int32 := if inr x 4 = true ∧ inr x1 4 = true then (if ty σ (tN x1) = -1 then -10 - nI 1 else nI (min (sz σ (tN x1)) 12)) else -2
def sWrite (σ : PS) (x x1 : Int32) : PS := if inr x 4 = true ∧ inr x1 4 = true then (if ty σ (tN x1) = -1 then setF σ (nI 1) else setS σ (ty σ, sz σ, wrI (cc σ.1) (tN x) (tN x1) (ty σ (tN x1)) (it σ) (min (sz σ (tN x1)) 12))) else σ
section WRITE
variable {I : ab_I} {J : ab_J} {Q : Option Value → ab_I → ab_J → Prop} {σ : PS} {x x1 x2 x3 x4 : Int32}
theorem mn12 {a : Nat} (h : a < 2 ^ 31) : (if nI 12 < nI a then nI 12 else nI a) = nI (min a 12) := by
  by_cases q : 12 < a
  · rw [if_pos (nI_lt q h), Nat.min_eq_right (by omega)]
  · rw [if_neg (nI_nlt (by omega) (by decide)), Nat.min_eq_left (by omega)]
set_option maxRecDepth 100000 in
theorem q107 (hR : RC σ I J) : ∃ I' J', (RC (sWrite σ x x1) I' J' ∧ Hi I J I' J') ∧ ∀ Q : Option Value → ab_I → ab_J → Prop, Cal 107 [.ref 0, .int x, .int x1] I J Q ↔ Q (some (.int (aWrite σ x x1))) I' J' := by
  by_cases hb : inr x 4 = true ∧ inr x1 4 = true
  · obtain ⟨m, hm, rfl⟩ := inr_nI hb.1
    obtain ⟨s, hs, rfl⟩ := inr_nI hb.2
    obtain ⟨z1, z2, z3⟩ := SC_s hR hs
    rw [show aWrite σ (nI m) (nI s) = _ from if_pos hb, show sWrite σ (nI m) (nI s) = _ from if_pos hb, tN_nI (show s < 2 ^ 31 by omega), tN_nI (show m < 2 ^ 31 by omega)]
    by_cases q : ty σ s = -1
    · rw [if_pos q, if_pos q]
      refine ⟨_, J, ⟨RC_find hR, Hi_find⟩, fun Q => ?_⟩
      rw [en107]
      simp (disch := omega) only [k107_0, k107_1, k107_4, k107_7, k107_8, k107_11, k107_14, k107_16, k107_17, k107_18, k107_21, k107_22, k107_25, k107_28, k107_29, k107_30, k107_33, k107_34, k107_35, k107_38, k107_39, k107_42, k107_45, k107_46, k107_47, k107_49, k107_52, k107_53, k107_54, k107_58, k107_59, k107_62, k107_63, k107_66, k107_67, k107_69, k107_70, k107_73_5, k107_73_17, k107_76, k107_77, k107_79, k107_80, k107_81, k107_82, k107_83, k107_86, k107_89, k107_92, k107_93, Option.toList_some, Option.toList_none, List.cons_append, List.nil_append, nl_i, nl_r, nl_l, nl_n, c117, c118, hb.1, hb.2, bI_0, Bool.true_eq_false, not_false_eq_true, ↓reduceIte, c53 hs, z2, q, decide_true, c111]
    · rw [if_neg q, if_neg q]
      obtain ⟨I1, J1, ⟨h1, hS, h3⟩, hcal⟩ := st110 hR
      obtain ⟨y1, y2, y3⟩ := SC_s h1 hs
      have e6 : I1 6 = cc σ.1 := hS.2.1.1
      refine ⟨_, J1, ⟨RC_sheet (I' := va_up I1 44 (wrI (cc σ.1) m s (ty σ s) (I1 44) (min (sz σ s) 12))) h1 (fun k hk => by simp (disch := omega) only [up_ne]) ⟨fun s' hs' => ?_, fun k hk => ?_⟩, Hi_trans (Hi_cf h3) (fun k hk => ⟨by simp (disch := omega) only [up_ne], rfl⟩)⟩, fun Q => Cal_of (fun Q hQ => ?_)⟩
      · simp (disch := omega) only [up_ne]; exact SC_s h1 hs'
      · rw [va_up_s]
        exact wrI_v (SC_i h1 hk) _
      · rw [en107]
        simp (disch := omega) only [k107_0, k107_1, k107_4, k107_7, k107_8, k107_11, k107_17, k107_18, k107_21, k107_22, k107_25, k107_34, k107_35, k107_38, k107_39, k107_42, k107_45, k107_46, k107_47, k107_49, k107_52, k107_53, k107_54, Option.toList_some, Option.toList_none, List.cons_append, List.nil_append, nl_i, nl_r, nl_l, nl_n, c117, c118, hb.1, hb.2, bI_0, Bool.true_eq_false, not_false_eq_true, ↓reduceIte, c53 hs, z2, q, decide_false, hcal, nI_clamp, bnd, ly_46, Nat.reduceLT, true_and, and_true, y3, mn12]
        have hn : min (sz σ s) 12 ≤ 12 := Nat.min_le_right _ _
        have key : At 107 56 [some (.ref 0), some (.int (nI m)), some (.int (nI s)), some (.int (nI (min (sz σ s) 12))), some (.int (nI 0))] [] (va_up I1 44 (wrI (cc σ.1) m s (ty σ s) (I1 44) 0)) J1 Q := by
          refine loop_dn (N := min (sz σ s) 12) (P := fun i => At 107 56 [some (.ref 0), some (.int (nI m)), some (.int (nI s)), some (.int (nI (min (sz σ s) 12))), some (.int (nI i))] [] (va_up I1 44 (wrI (cc σ.1) m s (ty σ s) (I1 44) i)) J1 Q) ?_ ?_
          · rw [k107_56]
            simp (disch := omega) only [k107_58, k107_59, k107_92, k107_93, nI_leI, Nat.le_refl, ↓reduceIte]
            exact hQ
          · intro i hi ih
            have e0 : ¬ min (sz σ s) 12 ≤ i := by omega
            unfold wrI at ih
            rw [k107_56]
            simp (disch := omega) only [k107_58, k107_59, k107_62, k107_63, k107_66, k107_67, k107_69, k107_70, k107_73_5, k107_76, k107_77, k107_79, k107_80, k107_81, k107_82, k107_83, k107_86, k107_89, Option.toList_some, Option.toList_none, List.cons_append, List.nil_append, nl_i, nl_r, nl_l, nl_n, nI_leI, e0, ↓reduceIte, pk_mul, nI_add, nI_clamp, bnd, ly_6, Nat.reduceLT, true_and, and_true, up_ne, e6, c59 hs (show i < 48 by omega), va_up_s, up_same, y2]
            exact ih
        have e2 : va_up I1 44 (wrI (cc σ.1) m s (ty σ s) (I1 44) 0) = I1 := up_id I1 44
        rw [e2] at key
        exact key
  · refine ⟨I, J, ⟨?_, Hi_refl⟩, fun Q => ?_⟩
    · rw [show sWrite σ x x1 = σ from if_neg hb]; exact hR
    · rw [en107, show aWrite σ x x1 = _ from if_neg hb]
      cases q1 : inr x 4
      · simp only [k107_0, k107_1, k107_4, k107_7, k107_8, k107_11, k107_14, k107_16, k107_17, k107_18, k107_21, k107_22, k107_25, k107_28, k107_29, k107_30, k107_33, k107_34, k107_35, k107_38, k107_39, k107_42, k107_45, k107_46, k107_47, k107_49, k107_52, k107_53, k107_54, k107_58, k107_59, k107_62, k107_63, k107_66, k107_67, k107_69, k107_70, k107_73_5, k107_73_17, k107_76, k107_77, k107_79, k107_80, k107_81, k107_82, k107_83, k107_86, k107_89, k107_92, k107_93, Option.toList_some, Option.toList_none, List.cons_append, List.nil_append, nl_i, nl_r, nl_l, nl_n, c117, q1, bI_0, ↓reduceIte]
      · cases q2 : inr x1 4
        · simp only [k107_0, k107_1, k107_4, k107_7, k107_8, k107_11, k107_14, k107_16, k107_17, k107_18, k107_21, k107_22, k107_25, k107_28, k107_29, k107_30, k107_33, k107_34, k107_35, k107_38, k107_39, k107_42, k107_45, k107_46, k107_47, k107_49, k107_52, k107_53, k107_54, k107_58, k107_59, k107_62, k107_63, k107_66, k107_67, k107_69, k107_70, k107_73_5, k107_73_17, k107_76, k107_77, k107_79, k107_80, k107_81, k107_82, k107_83, k107_86, k107_89, k107_92, k107_93, Option.toList_some, Option.toList_none, List.cons_append, List.nil_append, nl_i, nl_r, nl_l, nl_n, c117, c118, q1, q2, bI_0, Bool.true_eq_false, not_true_eq_false, ↓reduceIte]
        · exact absurd ⟨q1, q2⟩ hb
set_option maxRecDepth 100000 in
theorem r197 (hR : RR σ I) : ∃ I' J', (RR (sWrite σ x x1) I' ∧ Lo I J I' J') ∧ ∀ Q : Option Value → ab_I → ab_J → Prop, Cal 197 [.ref 49, .int x, .int x1] I J Q ↔ Q (some (.int (aWrite σ x x1))) I' J' := by
  by_cases hb : inr x 4 = true ∧ inr x1 4 = true
  · obtain ⟨m, hm, rfl⟩ := inr_nI hb.1
    obtain ⟨s, hs, rfl⟩ := inr_nI hb.2
    obtain ⟨z1, z2, z3⟩ := SR_s hR hs
    rw [show aWrite σ (nI m) (nI s) = _ from if_pos hb, show sWrite σ (nI m) (nI s) = _ from if_pos hb, tN_nI (show s < 2 ^ 31 by omega), tN_nI (show m < 2 ^ 31 by omega)]
    by_cases q : ty σ s = -1
    · rw [decide_eq_false (fun w => w q)] at z2
      rw [if_pos q, if_pos q]
      refine ⟨_, J, ⟨RR_find hR, Lo_find⟩, fun Q => ?_⟩
      rw [en197]
      simp (disch := omega) only [k197_0, k197_1, k197_4, k197_7, k197_8, k197_11, k197_14, k197_16, k197_17, k197_18, k197_21, k197_22, k197_23, k197_26, k197_27, k197_28, k197_31, k197_32, k197_33, k197_36, k197_37, k197_39, k197_41, k197_44, k197_45, k197_46, k197_49, k197_50, k197_51, k197_54, k197_55, k197_56, k197_57, k197_58, k197_59, k197_60, k197_63, k197_66, k197_69, k197_72, k197_73, Option.toList_some, Option.toList_none, List.cons_append, List.nil_append, nl_i, nl_r, nl_l, nl_n, c132, c189, hb.1, hb.2, bI_0, Bool.true_eq_false, not_false_eq_true, not_true_eq_false, ↓reduceIte, nI_clamp, bnd, ly_70, Nat.reduceLT, true_and, and_true, z2, c188]
    · rw [decide_eq_true q] at z2
      rw [if_neg q, if_neg q]
      obtain ⟨I1, ⟨h1, h3⟩, hcal⟩ := st138 (J := J) hR
      obtain ⟨y1, y2, y3⟩ := SR_s (RL_RR h1) hs
      obtain ⟨w1, w2⟩ := y3 q
      have e55 : I1 55 = cc σ.1 := h1.2.1
      refine ⟨_, J, ⟨RR_sheet (I' := va_up I1 73 (wrI (cc σ.1) m s (ty σ s) (I1 73) (min (sz σ s) 12))) (RL_RR h1) (fun k hk => by simp (disch := omega) only [up_ne]) ⟨fun s' hs' => ?_, fun k hk => ?_⟩, Lo_trans (Lo_qf h3) (fun k hk => ⟨by simp (disch := omega) only [up_ne], rfl⟩)⟩, fun Q => Cal_of (fun Q hQ => ?_)⟩
      · simp (disch := omega) only [up_ne]; exact SR_s (RL_RR h1) hs'
      · rw [va_up_s]
        exact wrI_v (SR_i (RL_RR h1) hk) _
      · rw [en197]
        simp (disch := omega) only [k197_0, k197_1, k197_4, k197_7, k197_8, k197_11, k197_17, k197_18, k197_21, k197_22, k197_23, k197_32, k197_33, k197_36, k197_37, Option.toList_some, Option.toList_none, List.cons_append, List.nil_append, nl_i, nl_r, nl_l, nl_n, c132, c189, hb.1, hb.2, bI_0, Bool.true_eq_false, not_false_eq_true, ↓reduceIte, nI_clamp, bnd, ly_70, Nat.reduceLT, true_and, and_true, z2, hcal]
        have hn : min (sz σ s) 12 ≤ 12 := Nat.min_le_right _ _
        have hn2 : min (sz σ s) 12 ≤ sz σ s := Nat.min_le_left _ _
        have key : At 197 38 [some (.ref 49), some (.int (nI m)), some (.int (nI s)), some (.int (nI 0))] [] (va_up I1 73 (wrI (cc σ.1) m s (ty σ s) (I1 73) 0)) J Q := by
          refine loop_dn (N := min (sz σ s) 12) (P := fun i => At 197 38 [some (.ref 49), some (.int (nI m)), some (.int (nI s)), some (.int (nI i))] [] (va_up I1 73 (wrI (cc σ.1) m s (ty σ s) (I1 73) i)) J Q) ?_ ?_
          · rw [k197_38]
            by_cases q2 : 12 ≤ min (sz σ s) 12
            · simp (disch := omega) only [k197_39, k197_41, k197_72, k197_73, nI_leI, q2, ↓reduceIte]
              exact hQ
            · have q3 : sz σ s ≤ min (sz σ s) 12 := by omega
              simp (disch := omega) only [k197_39, k197_41, k197_44, k197_45, k197_46, k197_49, k197_50, k197_51, k197_72, k197_73, nI_leI, q2, q3, ↓reduceIte, nI_clamp, bnd, ly_72, Nat.reduceLT, true_and, and_true, up_ne, w2]
              exact hQ
          · intro i hi ih
            have e0 : ¬ 12 ≤ i := by omega
            have e1 : ¬ sz σ s ≤ i := by omega
            unfold wrI at ih
            rw [k197_38]
            simp (disch := omega) only [k197_39, k197_41, k197_44, k197_45, k197_46, k197_49, k197_50, k197_51, k197_54, k197_55, k197_56, k197_57, k197_58, k197_59, k197_60, k197_63, k197_66, k197_69, Option.toList_some, Option.toList_none, List.cons_append, List.nil_append, nl_i, nl_r, nl_l, nl_n, nI_leI, e0, e1, ↓reduceIte, nI_clamp, bnd, ly_72, Nat.reduceLT, true_and, and_true, up_ne, w2, c140 (show i < 12 by omega) hm, e55, r193 hs (show i < 48 by omega), va_up_s, up_same, w1, nI_add]
            exact ih
        have e2 : va_up I1 73 (wrI (cc σ.1) m s (ty σ s) (I1 73) 0) = I1 := up_id I1 73
        rw [e2] at key
        exact key
  · refine ⟨I, J, ⟨?_, Lo_refl⟩, fun Q => ?_⟩
    · rw [show sWrite σ x x1 = σ from if_neg hb]; exact hR
    · rw [en197, show aWrite σ x x1 = _ from if_neg hb]
      cases q1 : inr x 4
      · simp only [k197_0, k197_1, k197_4, k197_7, k197_8, k197_11, k197_14, k197_16, k197_17, k197_18, k197_21, k197_22, k197_23, k197_26, k197_27, k197_28, k197_31, k197_32, k197_33, k197_36, k197_37, k197_39, k197_41, k197_44, k197_45, k197_46, k197_49, k197_50, k197_51, k197_54, k197_55, k197_56, k197_57, k197_58, k197_59, k197_60, k197_63, k197_66, k197_69, k197_72, k197_73, Option.toList_some, Option.toList_none, List.cons_append, List.nil_append, nl_i, nl_r, nl_l, nl_n, c132, q1, bI_0, ↓reduceIte]
      · cases q2 : inr x1 4
        · simp only [k197_0, k197_1, k197_4, k197_7, k197_8, k197_11, k197_14, k197_16, k197_17, k197_18, k197_21, k197_22, k197_23, k197_26, k197_27, k197_28, k197_31, k197_32, k197_33, k197_36, k197_37, k197_39, k197_41, k197_44, k197_45, k197_46, k197_49, k197_50, k197_51, k197_54, k197_55, k197_56, k197_57, k197_58, k197_59, k197_60, k197_63, k197_66, k197_69, k197_72, k197_73, Option.toList_some, Option.toList_none, List.cons_append, List.nil_append, nl_i, nl_r, nl_l, nl_n, c132, c189, q1, q2, bI_0, Bool.true_eq_false, not_true_eq_false, ↓reduceIte]
        · exact absurd ⟨q1, q2⟩ hb
end WRITE
