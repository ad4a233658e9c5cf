/-! CALLS: sheet, lose, put, get, copy, write -/
def aSheet (x x1 x2 : Int32) : Int32 := if inr x 4 = true ∧ inr x1 3 = true ∧ x2 ≤ nI 48 then (if 0 ≤ x2 then x2 else -10 - nI 5) else -2
def sSheet (σ : PS) (x x1 x2 : Int32) : PS := if inr x 4 = true ∧ inr x1 3 = true ∧ x2 ≤ nI 48 then (if 0 ≤ x2 then setS σ (va_up (ty σ) (tN x) x1, va_up (sz σ) (tN x) (tN x2), zit (it σ) (tN x) 48) else setF σ (nI 5)) else σ
def aLose (σ : PS) (x : Int32) : Int32 := if inr x 4 = true then (if ty σ (tN x) = -1 then -10 - nI 1 else nI (sz σ (tN x))) else -2
def sLose (σ : PS) (x : Int32) : PS := if inr x 4 = true then (if ty σ (tN x) = -1 then setF σ (nI 1) else setS σ (va_up (ty σ) (tN x) (-1), va_up (sz σ) (tN x) 0, it σ)) else σ
def hin (σ : PS) (s : Nat) (x x1 : Int32) : Int32 := if ty σ s = -1 then nI 1 else if ¬ ty σ s = x then nI 3 else if 0 ≤ x1.toInt ∧ x1.toInt < sz σ s then nI 0 else nI 2
def aPut (σ : PS) (x x1 x2 : Int32) : Int32 := if inr x 4 = true ∧ inr x1 3 = true then (if hin σ (tN x) x1 x2 = nI 0 then nI 1 else -10 - hin σ (tN x) x1 x2) else -2
def sPut (σ : PS) (x x1 x2 x3 : Int32) : PS := if inr x 4 = true ∧ inr x1 3 = true then (if hin σ (tN x) x1 x2 = nI 0 then setS σ (ty σ, sz σ, va_up (it σ) (48 * tN x + tN x2) (nrw (ty σ (tN x)) x3)) else setF σ (hin σ (tN x) x1 x2)) else σ
def aGet (σ : PS) (x x1 x2 : Int32) : Int32 := if inr x 4 = true ∧ inr x1 3 = true then (if hin σ (tN x) x1 x2 = nI 0 then it σ (48 * tN x + tN x2) else (-2147483648)) else (-2147483648)
def sGet (σ : PS) (x x1 x2 : Int32) : PS := if inr x 4 = true ∧ inr x1 3 = true then (if hin σ (tN x) x1 x2 = nI 0 then σ else setF σ (hin σ (tN x) x1 x2)) else σ
def rgO (σ : PS) (s : Nat) (x x1 : Int32) : Prop := 0 ≤ x.toInt ∧ 0 ≤ x1.toInt ∧ x.toInt + x1.toInt ≤ sz σ s
theorem SC_s {σ : PS} {I : ab_I} {J : ab_J} (hR : RC σ I J) {s : Nat} (hs : s < 4) : sz σ s ≤ 48 ∧ I 45 s = ty σ s ∧ I 46 s = nI (sz σ s) := hR.1.2.2.2.2.1.1 s hs
theorem SC_i {σ : PS} {I : ab_I} {J : ab_J} (hR : RC σ I J) {k : Nat} (hk : k < 192) : I 44 k = it σ k := hR.1.2.2.2.2.1.2 k hk
theorem SR_s {σ : PS} {I : ab_I} (hR : RR σ I) {s : Nat} (hs : s < 4) : sz σ s ≤ 48 ∧ I 70 s = bI (decide (ty σ s ≠ -1)) ∧ (ty σ s ≠ -1 → I 71 s = ty σ s ∧ I 72 s = nI (sz σ s)) := hR.1.2.2.2.2.1.1 s hs
theorem SR_i {σ : PS} {I : ab_I} (hR : RR σ I) {k : Nat} (hk : k < 192) : I 73 k = it σ k := hR.1.2.2.2.2.1.2 k hk
theorem zit_v {f g : Nat → Int32} {s i k : Nat} (h : f k = g k) : zit f s i k = zit g s i k := by unfold zit; rw [h]
theorem up_v {α : Type} {f g : Nat → α} {s k : Nat} {v : α} (h : f k = g k) : va_up f s v k = va_up g s v k := by
  unfold va_up
  by_cases e : k = s
  · rw [if_pos e, if_pos e]
  · rw [if_neg e, if_neg e]; exact h
section SHEETS
variable {I : ab_I} {J : ab_J} {Q : Option Value → ab_I → ab_J → Prop} {σ : PS} {x x1 x2 x3 x4 : Int32}
theorem n48 (h0 : 0 ≤ x) (h : x ≤ nI 48) : ∃ n, n ≤ 48 ∧ x = nI n := by
  rw [i_le, t0] at h0
  rw [i_le, nI_toInt (by decide)] at h
  exact ⟨x.toInt.toNat, by omega, by rw [i_eq, nI_toInt (by omega)]; omega⟩
theorem m1ne (h : inr x 3 = true) : x ≠ -1 := fun w => by subst w; exact absurd h (by decide)
set_option maxRecDepth 100000 in
theorem q102 (hR : RC σ I J) : ∃ I' J', (RC (sSheet σ x x1 x2) I' J' ∧ Hi I J I' J') ∧ ∀ Q : Option Value → ab_I → ab_J → Prop, Cal 102 [.ref 0, .int x, .int x1, .int x2] I J Q ↔ Q (some (.int (aSheet x x1 x2))) I' J' := by
  by_cases hb : inr x 4 = true ∧ inr x1 3 = true ∧ x2 ≤ nI 48
  · obtain ⟨b1, b2, b3⟩ := id hb
    obtain ⟨s, hs, rfl⟩ := inr_nI b1
    rw [show aSheet (nI s) x1 x2 = _ from if_pos hb, show sSheet σ (nI s) x1 x2 = _ from if_pos hb, tN_nI (by omega)]
    by_cases q : 0 ≤ x2
    · obtain ⟨n, hn, rfl⟩ := n48 q b3
      rw [if_pos q, if_pos q, tN_nI (by omega)]
      refine ⟨_, J, ⟨RC_sheet (I' := va_up (va_up (va_up I 44 (zit (I 44) s 48)) 45 (va_up (I 45) s x1)) 46 (va_up (I 46) s (nI n))) hR (fun k hk => by simp (disch := omega) only [up_ne]) ⟨fun s' hs' => ?_, fun k hk => ?_⟩, fun k hk => ⟨by simp (disch := omega) only [up_ne], rfl⟩⟩, fun Q => ?_⟩
      · obtain ⟨z1, z2, z3⟩ := SC_s hR hs'
        simp (disch := omega) only [up_ne, va_up_s]
        by_cases e : s' = s
        · subst e; rw [va_up_s, va_up_s, va_up_s, va_up_s]; exact ⟨hn, rfl, rfl⟩
        · rw [va_up_n _ _ e, va_up_n _ _ e, va_up_n _ _ e, va_up_n _ _ e]; exact ⟨z1, z2, z3⟩
      · simp (disch := omega) only [up_ne, va_up_s]
        exact zit_v (SC_i hR hk)
      · rw [en102]
        simp (disch := omega) only [k102_0, k102_1, k102_4, k102_7, k102_8, k102_11, k102_14, k102_15, k102_17, k102_20, k102_22, k102_23, k102_24, k102_27, k102_28, k102_29, k102_32, k102_33, k102_34, k102_37, k102_38, k102_39, k102_40, k102_43, k102_44, Option.toList_some, Option.toList_none, List.cons_append, List.nil_append, nl_i, nl_r, nl_l, nl_n, c118, c119, b1, b2, b3, q, bI_0, Bool.true_eq_false, ↓reduceIte, c54 hs]
    · rw [if_neg q, if_neg q]
      refine ⟨_, J, ⟨RC_find hR, Hi_find⟩, fun Q => ?_⟩
      rw [en102]
      simp (disch := omega) only [k102_0, k102_1, k102_4, k102_7, k102_8, k102_11, k102_14, k102_15, k102_17, k102_20, k102_22, k102_23, k102_24, k102_27, k102_28, k102_29, k102_32, k102_33, k102_34, k102_37, k102_38, k102_39, k102_40, k102_43, k102_44, Option.toList_some, Option.toList_none, List.cons_append, List.nil_append, nl_i, nl_r, nl_l, nl_n, c118, c119, b1, b2, b3, q, bI_0, Bool.true_eq_false, ↓reduceIte, c111]
  · refine ⟨I, J, ⟨?_, Hi_refl⟩, fun Q => ?_⟩
    · rw [show sSheet σ x x1 x2 = σ from if_neg hb]; exact hR
    · rw [en102, show aSheet x x1 x2 = _ from if_neg hb]
      cases q1 : inr x 4
      · simp only [k102_0, k102_1, k102_4, k102_7, k102_8, k102_11, k102_14, k102_15, k102_17, k102_20, k102_22, k102_23, k102_24, k102_27, k102_28, k102_29, k102_32, k102_33, k102_34, k102_37, k102_38, k102_39, k102_40, k102_43, k102_44, Option.toList_some, Option.toList_none, List.cons_append, List.nil_append, nl_i, nl_r, nl_l, nl_n, c118, q1, bI_0, ↓reduceIte]
      · cases q2 : inr x1 3
        · simp only [k102_0, k102_1, k102_4, k102_7, k102_8, k102_11, k102_14, k102_15, k102_17, k102_20, k102_22, k102_23, k102_24, k102_27, k102_28, k102_29, k102_32, k102_33, k102_34, k102_37, k102_38, k102_39, k102_40, k102_43, k102_44, Option.toList_some, Option.toList_none, List.cons_append, List.nil_append, nl_i, nl_r, nl_l, nl_n, c118, c119, q1, q2, bI_0, Bool.true_eq_false, ↓reduceIte]
        · by_cases q3 : x2 ≤ nI 48
          · exact absurd ⟨q1, q2, q3⟩ hb
          · simp only [k102_0, k102_1, k102_4, k102_7, k102_8, k102_11, k102_14, k102_15, k102_17, k102_20, k102_22, k102_23, k102_24, k102_27, k102_28, k102_29, k102_32, k102_33, k102_34, k102_37, k102_38, k102_39, k102_40, k102_43, k102_44, Option.toList_some, Option.toList_none, List.cons_append, List.nil_append, nl_i, nl_r, nl_l, nl_n, c118, c119, q1, q2, q3, bI_0, Bool.true_eq_false, ↓reduceIte]
set_option maxRecDepth 100000 in
theorem r190 (hR : RR σ I) : ∃ I' J', (RR (sSheet σ x x1 x2) I' ∧ Lo I J I' J') ∧ ∀ Q : Option Value → ab_I → ab_J → Prop, Cal 190 [.ref 49, .int x, .int x1, .int x2] I J Q ↔ Q (some (.int (aSheet x x1 x2))) I' J' := by
  by_cases hb : inr x 4 = true ∧ inr x1 3 = true ∧ x2 ≤ nI 48
  · obtain ⟨b1, b2, b3⟩ := id hb
    obtain ⟨s, hs, rfl⟩ := inr_nI b1
    rw [show aSheet (nI s) x1 x2 = _ from if_pos hb, show sSheet σ (nI s) x1 x2 = _ from if_pos hb, tN_nI (by omega)]
    by_cases q : 0 ≤ x2
    · obtain ⟨n, hn, rfl⟩ := n48 q b3
      rw [if_pos q, if_pos q, tN_nI (by omega)]
      refine ⟨_, J, ⟨RR_sheet (I' := va_up (va_up (va_up (va_up I 70 (va_up (I 70) s (nI 1))) 71 (va_up (I 71) s x1)) 72 (va_up (I 72) s (nI n))) 73 (zit (I 73) s 48)) hR (fun k hk => by simp (disch := omega) only [up_ne]) ⟨fun s' hs' => ?_, fun k hk => ?_⟩, fun k hk => ⟨by simp (disch := omega) only [up_ne], rfl⟩⟩, fun Q => Cal_of (fun Q hQ => ?_)⟩
      · obtain ⟨z1, z2, z3⟩ := SR_s hR hs'
        simp (disch := omega) only [up_ne, va_up_s]
        by_cases e : s' = s
        · subst e; simp only [va_up_s]; exact ⟨hn, by rw [decide_eq_true (m1ne b2)]; rfl, fun _ => ⟨trivial, trivial⟩⟩
        · simp only [va_up_n _ _ e]; exact ⟨z1, z2, z3⟩
      · simp (disch := omega) only [up_ne, va_up_s]
        exact zit_v (SR_i hR hk)
      · rw [en190]
        simp (disch := omega) only [k190_0, k190_1, k190_4, k190_7, k190_8, k190_9, k190_10, k190_13, k190_16, k190_17, k190_19, k190_25, k190_26, k190_35, k190_36, k190_39, k190_40, k190_41, k190_42, k190_43, k190_46, k190_47, k190_48, k190_49, k190_50, k190_53, k190_54, k190_55, k190_56, k190_57, Option.toList_some, Option.toList_none, List.cons_append, List.nil_append, nl_i, nl_r, nl_l, nl_n, c189, c126, in02, b1, b2, b3, q, bI_0, Bool.true_eq_false, ↓reduceIte, nI_clamp, bnd, ly_70, ly_71, ly_72, Nat.reduceLT, true_and, and_true, z10, up_ne]
        have key : At 190 59 [some (.ref 49), some (.int (nI s)), some (.int x1), some (.int (nI n)), some (.int (nI 0))] [] (va_up (va_up (va_up (va_up I 70 (va_up (I 70) s (nI 1))) 71 (va_up (I 71) s x1)) 72 (va_up (I 72) s (nI n))) 73 (zit (I 73) s 0)) J Q := by
          refine loop_dn (N := 48) (P := fun i => At 190 59 [some (.ref 49), some (.int (nI s)), some (.int x1), some (.int (nI n)), some (.int (nI i))] [] (va_up (va_up (va_up (va_up I 70 (va_up (I 70) s (nI 1))) 71 (va_up (I 71) s x1)) 72 (va_up (I 72) s (nI n))) 73 (zit (I 73) s i)) J Q) ?_ ?_
          · rw [k190_59]
            simp (disch := omega) only [k190_61, k190_63, k190_85, k190_86, nI_leI, Nat.le_refl, ↓reduceIte]
            exact hQ
          · intro i hi ih
            have e0 : ¬ 48 ≤ i := by omega
            rw [← zit_s] at ih
            rw [k190_59]
            simp (disch := omega) only [k190_61, k190_63, k190_66, k190_67, k190_70, k190_72, k190_73, k190_74, k190_76, k190_77, k190_78, k190_79, k190_82, Option.toList_some, Option.toList_none, List.cons_append, List.nil_append, nl_i, nl_r, nl_l, nl_n, nI_leI, e0, ↓reduceIte, pk_mul, nI_add, nI_clamp, bnd, ly_73, Nat.reduceLT, true_and, and_true, va_up_s, up_same]
            exact ih
        have e2 := up_id (va_up (va_up (va_up I 70 (va_up (I 70) s (nI 1))) 71 (va_up (I 71) s x1)) 72 (va_up (I 72) s (nI n))) 73
        rw [zit_0] at key
        simp (disch := omega) only [up_ne] at e2
        rw [e2] at key
        exact key
    · rw [if_neg q, if_neg q]
      refine ⟨_, J, ⟨RR_find hR, Lo_find⟩, fun Q => ?_⟩
      rw [en190]
      simp (disch := omega) only [k190_0, k190_1, k190_4, k190_7, k190_8, k190_9, k190_10, k190_13, k190_16, k190_17, k190_19, k190_22, k190_24, k190_25, k190_26, k190_29, k190_30, k190_31, k190_34, k190_35, k190_36, k190_39, k190_40, k190_41, k190_42, k190_43, k190_46, k190_47, k190_48, k190_49, k190_50, k190_53, k190_54, k190_55, k190_56, k190_57, k190_61, k190_63, k190_66, k190_67, k190_70, k190_72, k190_73, k190_74, k190_76, k190_77, k190_78, k190_79, k190_82, k190_85, k190_86, Option.toList_some, Option.toList_none, List.cons_append, List.nil_append, nl_i, nl_r, nl_l, nl_n, c189, c126, in02, b1, b2, b3, q, bI_0, Bool.true_eq_false, ↓reduceIte, c188]
  · refine ⟨I, J, ⟨?_, Lo_refl⟩, fun Q => ?_⟩
    · rw [show sSheet σ x x1 x2 = σ from if_neg hb]; exact hR
    · rw [en190, show aSheet x x1 x2 = _ from if_neg hb]
      cases q1 : inr x 4
      · simp only [k190_0, k190_1, k190_4, k190_7, k190_8, k190_9, k190_10, k190_13, k190_16, k190_17, k190_19, k190_22, k190_24, k190_25, k190_26, k190_29, k190_30, k190_31, k190_34, k190_35, k190_36, k190_39, k190_40, k190_41, k190_42, k190_43, k190_46, k190_47, k190_48, k190_49, k190_50, k190_53, k190_54, k190_55, k190_56, k190_57, k190_61, k190_63, k190_66, k190_67, k190_70, k190_72, k190_73, k190_74, k190_76, k190_77, k190_78, k190_79, k190_82, k190_85, k190_86, Option.toList_some, Option.toList_none, List.cons_append, List.nil_append, nl_i, nl_r, nl_l, nl_n, c189, q1, bI_0, ↓reduceIte]
      · cases q2 : inr x1 3
        · simp only [k190_0, k190_1, k190_4, k190_7, k190_8, k190_9, k190_10, k190_13, k190_16, k190_17, k190_19, k190_22, k190_24, k190_25, k190_26, k190_29, k190_30, k190_31, k190_34, k190_35, k190_36, k190_39, k190_40, k190_41, k190_42, k190_43, k190_46, k190_47, k190_48, k190_49, k190_50, k190_53, k190_54, k190_55, k190_56, k190_57, k190_61, k190_63, k190_66, k190_67, k190_70, k190_72, k190_73, k190_74, k190_76, k190_77, k190_78, k190_79, k190_82, k190_85, k190_86, Option.toList_some, Option.toList_none, List.cons_append, List.nil_append, nl_i, nl_r, nl_l, nl_n, c189, c126, in02, q1, q2, bI_0, Bool.true_eq_false, ↓reduceIte]
        · by_cases q3 : x2 ≤ nI 48
          · exact absurd ⟨q1, q2, q3⟩ hb
          · simp only [k190_0, k190_1, k190_4, k190_7, k190_8, k190_9, k190_10, k190_13, k190_16, k190_17, k190_19, k190_22, k190_24, k190_25, k190_26, k190_29, k190_30, k190_31, k190_34, k190_35, k190_36, k190_39, k190_40, k190_41, k190_42, k190_43, k190_46, k190_47, k190_48, k190_49, k190_50, k190_53, k190_54, k190_55, k190_56, k190_57, k190_61, k190_63, k190_66, k190_67, k190_70, k190_72, k190_73, k190_74, k190_76, k190_77, k190_78, k190_79, k190_82, k190_85, k190_86, Option.toList_some, Option.toList_none, List.cons_append, List.nil_append, nl_i, nl_r, nl_l, nl_n, c189, c126, in02, q1, q2, q3, bI_0, Bool.true_eq_false, ↓reduceIte]
set_option maxRecDepth 100000 in
theorem q103 (hR : RC σ I J) : ∃ I' J', (RC (sLose σ x) I' J' ∧ Hi I J I' J') ∧ ∀ Q : Option Value → ab_I → ab_J → Prop, Cal 103 [.ref 0, .int x] I J Q ↔ Q (some (.int (aLose σ x))) I' J' := by
  by_cases hb : inr x 4 = true
  · obtain ⟨s, hs, rfl⟩ := inr_nI hb
    obtain ⟨z1, z2, z3⟩ := SC_s hR hs
    rw [show aLose σ (nI s) = _ from if_pos hb, show sLose σ (nI s) = _ from if_pos hb, tN_nI (by omega)]
    by_cases q : ty σ s = -1
    · rw [if_pos q, if_pos q]
      refine ⟨_, J, ⟨RC_find hR, Hi_find⟩, fun Q => ?_⟩
      rw [en103]
      simp (disch := omega) only [k103_0, k103_1, k103_4, k103_7, k103_9, k103_10, k103_11, k103_14, k103_15, k103_18, k103_21, k103_22, k103_23, k103_26, k103_27, k103_28, k103_31, k103_34, k103_35, k103_36, k103_37, k103_38, k103_41, k103_42, k103_45, k103_46, Option.toList_some, Option.toList_none, List.cons_append, List.nil_append, nl_i, nl_r, nl_l, nl_n, c118, hb, bI_0, Bool.true_eq_false, not_false_eq_true, ↓reduceIte, c53 hs, z2, q, decide_true, c111]
    · rw [if_neg q, if_neg q]
      refine ⟨_, J, ⟨RC_sheet (I' := va_up (va_up I 45 (va_up (I 45) s (-1))) 46 (va_up (I 46) s (nI 0))) hR (fun k hk => by simp (disch := omega) only [up_ne]) ⟨fun s' hs' => ?_, fun k hk => ?_⟩, fun k hk => ⟨by simp (disch := omega) only [up_ne], rfl⟩⟩, fun Q => ?_⟩
      · obtain ⟨y1, y2, y3⟩ := SC_s hR hs'
        simp (disch := omega) only [up_ne, va_up_s]
        by_cases e : s' = s
        · subst e; rw [va_up_s, va_up_s, va_up_s, va_up_s]; exact ⟨by omega, rfl, rfl⟩
        · rw [va_up_n _ _ e, va_up_n _ _ e, va_up_n _ _ e, va_up_n _ _ e]; exact ⟨y1, y2, y3⟩
      · simp (disch := omega) only [up_ne]
        exact SC_i hR hk
      · rw [en103]
        simp (disch := omega) only [k103_0, k103_1, k103_4, k103_7, k103_9, k103_10, k103_11, k103_14, k103_15, k103_18, k103_21, k103_22, k103_23, k103_26, k103_27, k103_28, k103_31, k103_34, k103_35, k103_36, k103_37, k103_38, k103_41, k103_42, k103_45, k103_46, Option.toList_some, Option.toList_none, List.cons_append, List.nil_append, nl_i, nl_r, nl_l, nl_n, c118, hb, bI_0, Bool.true_eq_false, not_false_eq_true, ↓reduceIte, c53 hs, z2, q, decide_false, nI_clamp, bnd, ly_46, Nat.reduceLT, true_and, and_true, z3, c55 hs]
  · refine ⟨I, J, ⟨?_, Hi_refl⟩, fun Q => ?_⟩
    · rw [show sLose σ x = σ from if_neg hb]; exact hR
    · have hb' : inr x 4 = false := by simpa using hb
      rw [en103, show aLose σ x = _ from if_neg hb]
      simp only [k103_0, k103_1, k103_4, k103_7, k103_9, k103_10, k103_11, k103_14, k103_15, k103_18, k103_21, k103_22, k103_23, k103_26, k103_27, k103_28, k103_31, k103_34, k103_35, k103_36, k103_37, k103_38, k103_41, k103_42, k103_45, k103_46, Option.toList_some, Option.toList_none, List.cons_append, List.nil_append, nl_i, nl_r, nl_l, nl_n, c118, hb', bI_0, not_true_eq_false, ↓reduceIte]
set_option maxRecDepth 100000 in
theorem r191 (hR : RR σ I) : ∃ I' J', (RR (sLose σ x) I' ∧ Lo I J I' J') ∧ ∀ Q : Option Value → ab_I → ab_J → Prop, Cal 191 [.ref 49, .int x] I J Q ↔ Q (some (.int (aLose σ x))) I' J' := by
  by_cases hb : inr x 4 = true
  · obtain ⟨s, hs, rfl⟩ := inr_nI hb
    obtain ⟨z1, z2, z3⟩ := SR_s hR hs
    rw [show aLose σ (nI s) = _ from if_pos hb, show sLose σ (nI s) = _ from if_pos hb, tN_nI (by omega)]
    by_cases q : ty σ s = -1
    · rw [if_pos q, if_pos q]
      rw [decide_eq_false (fun w => w q)] at z2
      refine ⟨_, J, ⟨RR_find hR, Lo_find⟩, fun Q => ?_⟩
      rw [en191]
      simp (disch := omega) only [k191_0, k191_1, k191_4, k191_7, k191_9, k191_10, k191_11, k191_14, k191_15, k191_16, k191_19, k191_20, k191_21, k191_24, k191_25, k191_26, k191_29, k191_30, k191_31, k191_32, k191_33, k191_36, k191_37, k191_38, Option.toList_some, Option.toList_none, List.cons_append, List.nil_append, nl_i, nl_r, nl_l, nl_n, c189, hb, bI_0, Bool.true_eq_false, not_false_eq_true, not_true_eq_false, ↓reduceIte, nI_clamp, bnd, ly_70, Nat.reduceLT, true_and, and_true, z2, c188]
    · rw [if_neg q, if_neg q]
      rw [decide_eq_true q] at z2
      obtain ⟨w1, w2⟩ := z3 q
      refine ⟨_, J, ⟨RR_sheet (I' := va_up I 70 (va_up (I 70) s (nI 0))) hR (fun k hk => by simp (disch := omega) only [up_ne]) ⟨fun s' hs' => ?_, fun k hk => ?_⟩, fun k hk => ⟨by simp (disch := omega) only [up_ne], rfl⟩⟩, fun Q => ?_⟩
      · obtain ⟨y1, y2, y3⟩ := SR_s hR hs'
        simp (disch := omega) only [up_ne, va_up_s]
        by_cases e : s' = s
        · subst e; simp only [va_up_s]; exact ⟨by omega, by rw [decide_eq_false (fun w => w rfl)]; rfl, fun w => absurd rfl w⟩
        · simp only [va_up_n _ _ e]; exact ⟨y1, y2, y3⟩
      · simp (disch := omega) only [up_ne]
        exact SR_i hR hk
      · rw [en191]
        simp (disch := omega) only [k191_0, k191_1, k191_4, k191_7, k191_9, k191_10, k191_11, k191_14, k191_15, k191_16, k191_19, k191_20, k191_21, k191_24, k191_25, k191_26, k191_29, k191_30, k191_31, k191_32, k191_33, k191_36, k191_37, k191_38, Option.toList_some, Option.toList_none, List.cons_append, List.nil_append, nl_i, nl_r, nl_l, nl_n, c189, hb, bI_0, Bool.true_eq_false, not_false_eq_true, ↓reduceIte, nI_clamp, bnd, ly_70, ly_72, Nat.reduceLT, true_and, and_true, z2, z00, up_ne, w2]
  · refine ⟨I, J, ⟨?_, Lo_refl⟩, fun Q => ?_⟩
    · rw [show sLose σ x = σ from if_neg hb]; exact hR
    · have hb' : inr x 4 = false := by simpa using hb
      rw [en191, show aLose σ x = _ from if_neg hb]
      simp only [k191_0, k191_1, k191_4, k191_7, k191_9, k191_10, k191_11, k191_14, k191_15, k191_16, k191_19, k191_20, k191_21, k191_24, k191_25, k191_26, k191_29, k191_30, k191_31, k191_32, k191_33, k191_36, k191_37, k191_38, Option.toList_some, Option.toList_none, List.cons_append, List.nil_append, nl_i, nl_r, nl_l, nl_n, c189, hb', bI_0, not_true_eq_false, ↓reduceIte]
theorem q56 {s : Nat} (hR : RC σ I J) (hs : s < 4) : Cal 56 [.ref 43, .int (nI s), .int x, .int x1] I J Q ↔ Q (some (.int (hin σ s x x1))) I J := by
  obtain ⟨z1, z2, z3⟩ := SC_s hR hs
  rw [c56 hs z3 z1, z2]
  rfl
theorem hin_0 {s : Nat} (hR : sz σ s ≤ 48) (h : hin σ s x x1 = nI 0) : ty σ s ≠ -1 ∧ ty σ s = x ∧ ∃ i, i < sz σ s ∧ x1 = nI i := by
  unfold hin at h
  by_cases q1 : ty σ s = -1
  · rw [if_pos q1] at h; exact absurd h (by decide)
  · rw [if_neg q1] at h
    by_cases q2 : ¬ ty σ s = x
    · rw [if_pos q2] at h; exact absurd h (by decide)
    · rw [if_neg q2] at h
      by_cases q3 : 0 ≤ x1.toInt ∧ x1.toInt < sz σ s
      · refine ⟨q1, Classical.not_not.mp q2, x1.toInt.toNat, by omega, ?_⟩
        rw [i_eq, nI_toInt (by omega)]
        omega
      · rw [if_neg q3] at h; exact absurd h (by decide)
set_option maxRecDepth 100000 in
theorem q104 (hR : RC σ I J) : ∃ I' J', (RC (sPut σ x x1 x2 x3) I' J' ∧ Hi I J I' J') ∧ ∀ Q : Option Value → ab_I → ab_J → Prop, Cal 104 [.ref 0, .int x, .int x1, .int x2, .int x3] I J Q ↔ Q (some (.int (aPut σ x x1 x2))) I' J' := by
  by_cases hb : inr x 4 = true ∧ inr x1 3 = true
  · obtain ⟨s, hs, rfl⟩ := inr_nI hb.1
    obtain ⟨z1, z2, z3⟩ := SC_s hR hs
    rw [show aPut σ (nI s) x1 x2 = _ from if_pos hb, show sPut σ (nI s) x1 x2 x3 = _ from if_pos hb, tN_nI (by omega)]
    by_cases q : hin σ s x1 x2 = nI 0
    · obtain ⟨-, -, i, hi, rfl⟩ := hin_0 z1 q
      rw [if_pos q, if_pos q, tN_nI (by omega)]
      refine ⟨_, J, ⟨RC_sheet (I' := va_up I 44 (va_up (I 44) (48 * s + i) (nrw (ty σ s) x3))) hR (fun k hk => by simp (disch := omega) only [up_ne]) ⟨fun s' hs' => ?_, fun k hk => ?_⟩, fun k hk => ⟨by simp (disch := omega) only [up_ne], rfl⟩⟩, fun Q => ?_⟩
      · simp (disch := omega) only [up_ne]; exact SC_s hR hs'
      · simp (disch := omega) only [va_up_s]
        exact up_v (SC_i hR hk)
      · rw [en104]
        simp (disch := omega) only [k104_0, k104_1, k104_4, k104_7, k104_8, k104_11, k104_14, k104_16, k104_17, k104_18, k104_21, k104_22, k104_23, k104_24, k104_27, k104_29, k104_31, k104_34, k104_35, k104_37, k104_40, k104_41, k104_42, k104_45, k104_46, k104_47, k104_49, k104_52, k104_53, Option.toList_some, Option.toList_none, List.cons_append, List.nil_append, nl_i, nl_r, nl_l, nl_n, c118, c119, hb.1, hb.2, bI_0, Bool.true_eq_false, not_false_eq_true, ↓reduceIte, q56 hR hs, q, n00', c59 hs (show i < 48 by omega), z2]
    · have q' : ¬ hin σ s x1 x2 = 0 := q
      rw [if_neg q, if_neg q]
      refine ⟨_, J, ⟨RC_find hR, Hi_find⟩, fun Q => ?_⟩
      rw [en104]
      simp (disch := omega) only [k104_0, k104_1, k104_4, k104_7, k104_8, k104_11, k104_14, k104_16, k104_17, k104_18, k104_21, k104_22, k104_23, k104_24, k104_27, k104_29, k104_31, k104_34, k104_35, k104_37, k104_40, k104_41, k104_42, k104_45, k104_46, k104_47, k104_49, k104_52, k104_53, Option.toList_some, Option.toList_none, List.cons_append, List.nil_append, nl_i, nl_r, nl_l, nl_n, c118, c119, hb.1, hb.2, bI_0, Bool.true_eq_false, not_false_eq_true, ↓reduceIte, q56 hR hs, q', c111]
  · refine ⟨I, J, ⟨?_, Hi_refl⟩, fun Q => ?_⟩
    · rw [show sPut σ x x1 x2 x3 = σ from if_neg hb]; exact hR
    · rw [en104, show aPut σ x x1 x2 = _ from if_neg hb]
      cases q1 : inr x 4
      · simp only [k104_0, k104_1, k104_4, k104_7, k104_8, k104_11, k104_14, k104_16, k104_17, k104_18, k104_21, k104_22, k104_23, k104_24, k104_27, k104_29, k104_31, k104_34, k104_35, k104_37, k104_40, k104_41, k104_42, k104_45, k104_46, k104_47, k104_49, k104_52, k104_53, Option.toList_some, Option.toList_none, List.cons_append, List.nil_append, nl_i, nl_r, nl_l, nl_n, c118, q1, bI_0, ↓reduceIte]
      · cases q2 : inr x1 3
        · simp only [k104_0, k104_1, k104_4, k104_7, k104_8, k104_11, k104_14, k104_16, k104_17, k104_18, k104_21, k104_22, k104_23, k104_24, k104_27, k104_29, k104_31, k104_34, k104_35, k104_37, k104_40, k104_41, k104_42, k104_45, k104_46, k104_47, k104_49, k104_52, k104_53, Option.toList_some, Option.toList_none, List.cons_append, List.nil_append, nl_i, nl_r, nl_l, nl_n, c118, c119, q1, q2, bI_0, Bool.true_eq_false, not_true_eq_false, ↓reduceIte]
        · exact absurd ⟨q1, q2⟩ hb
set_option maxRecDepth 100000 in
theorem q105 (hR : RC σ I J) : ∃ I' J', (RC (sGet σ x x1 x2) I' J' ∧ Hi I J I' J') ∧ ∀ Q : Option Value → ab_I → ab_J → Prop, Cal 105 [.ref 0, .int x, .int x1, .int x2] I J Q ↔ Q (some (.int (aGet σ x x1 x2))) I' J' := by
  by_cases hb : inr x 4 = true ∧ inr x1 3 = true
  · obtain ⟨s, hs, rfl⟩ := inr_nI hb.1
    obtain ⟨z1, z2, z3⟩ := SC_s hR hs
    rw [show aGet σ (nI s) x1 x2 = _ from if_pos hb, show sGet σ (nI s) x1 x2 = _ from if_pos hb, tN_nI (by omega)]
    by_cases q : hin σ s x1 x2 = nI 0
    · obtain ⟨-, -, i, hi, rfl⟩ := hin_0 z1 q
      rw [if_pos q, if_pos q, tN_nI (by omega)]
      refine ⟨I, J, ⟨hR, Hi_refl⟩, fun Q => ?_⟩
      rw [en105]
      simp (disch := omega) only [k105_0, k105_1, k105_4, k105_7, k105_8, k105_11, k105_14, k105_17, k105_18, k105_19, k105_22, k105_23, k105_24, k105_25, k105_28, k105_30, k105_32, k105_35, k105_36, k105_38, k105_41, k105_44, k105_45, k105_46, k105_49, k105_50, k105_51, k105_54, Option.toList_some, Option.toList_none, List.cons_append, List.nil_append, nl_i, nl_r, nl_l, nl_n, c118, c119, hb.1, hb.2, bI_0, Bool.true_eq_false, not_false_eq_true, ↓reduceIte, q56 hR hs, q, n00', c58 hs (show i < 48 by omega), SC_i hR (show 48 * s + i < 192 by omega)]
    · have q' : ¬ hin σ s x1 x2 = 0 := q
      rw [if_neg q, if_neg q]
      refine ⟨_, J, ⟨RC_find hR, Hi_find⟩, fun Q => ?_⟩
      rw [en105]
      simp (disch := omega) only [k105_0, k105_1, k105_4, k105_7, k105_8, k105_11, k105_14, k105_17, k105_18, k105_19, k105_22, k105_23, k105_24, k105_25, k105_28, k105_30, k105_32, k105_35, k105_36, k105_38, k105_41, k105_44, k105_45, k105_46, k105_49, k105_50, k105_51, k105_54, Option.toList_some, Option.toList_none, List.cons_append, List.nil_append, nl_i, nl_r, nl_l, nl_n, c118, c119, hb.1, hb.2, bI_0, Bool.true_eq_false, not_false_eq_true, ↓reduceIte, q56 hR hs, q']
  · refine ⟨I, J, ⟨?_, Hi_refl⟩, fun Q => ?_⟩
    · rw [show sGet σ x x1 x2 = σ from if_neg hb]; exact hR
    · rw [en105, show aGet σ x x1 x2 = _ from if_neg hb]
      cases q1 : inr x 4
      · simp only [k105_0, k105_1, k105_4, k105_7, k105_8, k105_11, k105_14, k105_17, k105_18, k105_19, k105_22, k105_23, k105_24, k105_25, k105_28, k105_30, k105_32, k105_35, k105_36, k105_38, k105_41, k105_44, k105_45, k105_46, k105_49, k105_50, k105_51, k105_54, Option.toList_some, Option.toList_none, List.cons_append, List.nil_append, nl_i, nl_r, nl_l, nl_n, c118, q1, bI_0, ↓reduceIte]
      · cases q2 : inr x1 3
        · simp only [k105_0, k105_1, k105_4, k105_7, k105_8, k105_11, k105_14, k105_17, k105_18, k105_19, k105_22, k105_23, k105_24, k105_25, k105_28, k105_30, k105_32, k105_35, k105_36, k105_38, k105_41, k105_44, k105_45, k105_46, k105_49, k105_50, k105_51, k105_54, Option.toList_some, Option.toList_none, List.cons_append, List.nil_append, nl_i, nl_r, nl_l, nl_n, c118, c119, q1, q2, bI_0, Bool.true_eq_false, not_true_eq_false, ↓reduceIte]
        · exact absurd ⟨q1, q2⟩ hb
set_option maxRecDepth 100000 in
theorem r192 {s : Nat} (hR : RR σ I) (hs : s < 4) : Cal 192 [.ref 49, .int (nI s), .int x, .int x1] I J Q ↔ Q (some (.int (hin σ s x x1))) I J := by
  obtain ⟨z1, z2, z3⟩ := SR_s hR hs
  unfold hin
  rw [en192]
  by_cases q1 : ty σ s = -1
  · rw [decide_eq_false (fun w => w q1)] at z2
    rw [if_pos q1]
    simp (disch := omega) only [k192_0, k192_1, k192_4, k192_5, k192_6, k192_9, k192_10, k192_13, k192_14, k192_17, k192_18, k192_19, k192_20, k192_23, k192_24, k192_27, k192_28, k192_29, k192_30, k192_33, k192_34, k192_35, k192_36, k192_37, k192_40, k192_43, k192_44, k192_47, k192_48, Option.toList_some, Option.toList_none, List.cons_append, List.nil_append, nl_i, nl_r, nl_l, nl_n, nI_clamp, bnd, ly_70, Nat.reduceLT, true_and, and_true, z2, bI_0, not_true_eq_false, ↓reduceIte]
  · rw [decide_eq_true q1] at z2
    obtain ⟨w1, w2⟩ := z3 q1
    rw [if_neg q1]
    by_cases q2 : ty σ s = x
    · rw [if_neg (fun w => w q2)]
      have ei : (decide ((nI 0).toInt ≤ x1.toInt) && decide (x1.toInt ≤ (nI (sz σ s) - nI 1).toInt)) = decide (0 ≤ x1.toInt ∧ x1.toInt < sz σ s) := by
        rw [pk_sub_toInt (by omega) (by decide), t00, ← Bool.decide_and, decide_eq_decide]
        omega
      simp (disch := omega) only [k192_0, k192_1, k192_4, k192_5, k192_6, k192_9, k192_10, k192_13, k192_14, k192_17, k192_18, k192_19, k192_20, k192_23, k192_24, k192_27, k192_28, k192_29, k192_30, k192_33, k192_34, k192_35, k192_36, k192_37, k192_40, k192_43, k192_44, k192_47, k192_48, Option.toList_some, Option.toList_none, List.cons_append, List.nil_append, nl_i, nl_r, nl_l, nl_n, nI_clamp, bnd, ly_70, ly_71, ly_72, Nat.reduceLT, true_and, and_true, z2, bI_0, Bool.true_eq_false, not_false_eq_true, ↓reduceIte, w1, w2, q2, c126, ei, decide_eq_false_iff_not]
      by_cases q3 : 0 ≤ x1.toInt ∧ x1.toInt < sz σ s
      · rw [if_neg (fun w => w q3), if_pos q3]
      · rw [if_pos q3, if_neg q3]
    · rw [if_pos q2]
      simp (disch := omega) only [k192_0, k192_1, k192_4, k192_5, k192_6, k192_9, k192_10, k192_13, k192_14, k192_17, k192_18, k192_19, k192_20, k192_23, k192_24, k192_27, k192_28, k192_29, k192_30, k192_33, k192_34, k192_35, k192_36, k192_37, k192_40, k192_43, k192_44, k192_47, k192_48, Option.toList_some, Option.toList_none, List.cons_append, List.nil_append, nl_i, nl_r, nl_l, nl_n, nI_clamp, bnd, ly_70, ly_71, ly_72, Nat.reduceLT, true_and, and_true, z2, bI_0, Bool.true_eq_false, not_false_eq_true, ↓reduceIte, w1, q2]
set_option maxRecDepth 100000 in
theorem r193 {s i : Nat} (hs : s < 4) (hi : i < 48) : Cal 193 [.ref 49, .int (nI s), .int (nI i), .int x] I J Q ↔ Q none (va_up I 73 (va_up (I 73) (48 * s + i) (nrw (I 71 s) x))) J := by
  rw [en193]
  unfold nrw
  by_cases q1 : I 71 s = 0
  · rw [if_pos q1]
    simp (disch := omega) only [k193_0, k193_1, k193_4, k193_6, k193_7, k193_8, k193_9, k193_10, k193_11, k193_14, k193_15, k193_16, k193_19, k193_20, k193_21, k193_24, k193_25, k193_28, k193_29, k193_30, k193_31, k193_34, k193_35, k193_36, k193_39, k193_40, k193_41, Option.toList_some, Option.toList_none, List.cons_append, List.nil_append, nl_i, nl_r, nl_l, nl_n, nI_clamp, bnd, ly_71, ly_73, Nat.reduceLT, true_and, and_true, q1, not_true_eq_false, ↓reduceIte, pk_mul, nI_add]
  · rw [if_neg q1]
    by_cases q2 : I 71 s = nI 1
    · rw [if_pos q2]
      simp (disch := omega) only [k193_0, k193_1, k193_4, k193_6, k193_7, k193_8, k193_9, k193_10, k193_11, k193_14, k193_15, k193_16, k193_19, k193_20, k193_21, k193_24, k193_25, k193_28, k193_29, k193_30, k193_31, k193_34, k193_35, k193_36, k193_39, k193_40, k193_41, Option.toList_some, Option.toList_none, List.cons_append, List.nil_append, nl_i, nl_r, nl_l, nl_n, nI_clamp, bnd, ly_71, ly_73, Nat.reduceLT, true_and, and_true, q1, q2, n10', not_false_eq_true, not_true_eq_false, ↓reduceIte, pk_mul, nI_add]
    · rw [if_neg q2]
      simp (disch := omega) only [k193_0, k193_1, k193_4, k193_6, k193_7, k193_8, k193_9, k193_10, k193_11, k193_14, k193_15, k193_16, k193_19, k193_20, k193_21, k193_24, k193_25, k193_28, k193_29, k193_30, k193_31, k193_34, k193_35, k193_36, k193_39, k193_40, k193_41, Option.toList_some, Option.toList_none, List.cons_append, List.nil_append, nl_i, nl_r, nl_l, nl_n, nI_clamp, bnd, ly_71, ly_73, Nat.reduceLT, true_and, and_true, q1, q2, not_false_eq_true, ↓reduceIte, pk_mul, nI_add]
theorem hin_p {s : Nat} (h : ¬ hin σ s x x1 = nI 0) : ¬ hin σ s x x1 ≤ 0 := by
  unfold hin at *
  by_cases q1 : ty σ s = -1
  · rw [if_pos q1]; decide
  · rw [if_neg q1] at *
    by_cases q2 : ¬ ty σ s = x
    · rw [if_pos q2]; decide
    · rw [if_neg q2] at *
      by_cases q3 : 0 ≤ x1.toInt ∧ x1.toInt < sz σ s
      · rw [if_pos q3] at h; exact absurd rfl h
      · rw [if_neg q3]; decide
theorem n0le : (nI 0 ≤ 0) = True := by decide
set_option maxRecDepth 100000 in
theorem r194 (hR : RR σ I) : ∃ I' J', (RR (sPut σ x x1 x2 x3) I' ∧ Lo I J I' J') ∧ ∀ Q : Option Value → ab_I → ab_J → Prop, Cal 194 [.ref 49, .int x, .int x1, .int x2, .int x3] I J Q ↔ Q (some (.int (aPut σ x x1 x2))) I' J' := by
  by_cases hb : inr x 4 = true ∧ inr x1 3 = true
  · obtain ⟨s, hs, rfl⟩ := inr_nI hb.1
    obtain ⟨z1, z2, z3⟩ := SR_s hR hs
    rw [show aPut σ (nI s) x1 x2 = _ from if_pos hb, show sPut σ (nI s) x1 x2 x3 = _ from if_pos hb, tN_nI (by omega)]
    by_cases q : hin σ s x1 x2 = nI 0
    · obtain ⟨q1, -, i, hi, rfl⟩ := hin_0 z1 q
      obtain ⟨w1, w2⟩ := z3 q1
      rw [if_pos q, if_pos q, tN_nI (by omega)]
      refine ⟨_, J, ⟨RR_sheet (I' := va_up I 73 (va_up (I 73) (48 * s + i) (nrw (ty σ s) x3))) hR (fun k hk => by simp (disch := omega) only [up_ne]) ⟨fun s' hs' => ?_, fun k hk => ?_⟩, fun k hk => ⟨by simp (disch := omega) only [up_ne], rfl⟩⟩, fun Q => ?_⟩
      · simp (disch := omega) only [up_ne]; exact SR_s hR hs'
      · simp (disch := omega) only [va_up_s]
        exact up_v (SR_i hR hk)
      · rw [en194]
        simp (disch := omega) only [k194_0, k194_1, k194_4, k194_7, k194_8, k194_9, k194_10, k194_13, k194_16, k194_18, k194_19, k194_20, k194_21, k194_22, k194_23, k194_26, k194_28, k194_30, k194_33, k194_34, k194_36, k194_39, k194_40, k194_41, k194_42, k194_43, k194_45, k194_48, k194_49, Option.toList_some, Option.toList_none, List.cons_append, List.nil_append, nl_i, nl_r, nl_l, nl_n, c189, c126, in02, hb.1, hb.2, bI_0, Bool.true_eq_false, not_false_eq_true, ↓reduceIte, r192 hR hs, q, n0le, r193 hs (show i < 48 by omega), w1]
    · rw [if_neg q, if_neg q]
      refine ⟨_, J, ⟨RR_find hR, Lo_find⟩, fun Q => ?_⟩
      rw [en194]
      simp (disch := omega) only [k194_0, k194_1, k194_4, k194_7, k194_8, k194_9, k194_10, k194_13, k194_16, k194_18, k194_19, k194_20, k194_21, k194_22, k194_23, k194_26, k194_28, k194_30, k194_33, k194_34, k194_36, k194_39, k194_40, k194_41, k194_42, k194_43, k194_45, k194_48, k194_49, Option.toList_some, Option.toList_none, List.cons_append, List.nil_append, nl_i, nl_r, nl_l, nl_n, c189, c126, in02, hb.1, hb.2, bI_0, Bool.true_eq_false, not_false_eq_true, ↓reduceIte, r192 hR hs, hin_p q, c188]
  · refine ⟨I, J, ⟨?_, Lo_refl⟩, fun Q => ?_⟩
    · rw [show sPut σ x x1 x2 x3 = σ from if_neg hb]; exact hR
    · rw [en194, show aPut σ x x1 x2 = _ from if_neg hb]
      cases q1 : inr x 4
      · simp only [k194_0, k194_1, k194_4, k194_7, k194_8, k194_9, k194_10, k194_13, k194_16, k194_18, k194_19, k194_20, k194_21, k194_22, k194_23, k194_26, k194_28, k194_30, k194_33, k194_34, k194_36, k194_39, k194_40, k194_41, k194_42, k194_43, k194_45, k194_48, k194_49, Option.toList_some, Option.toList_none, List.cons_append, List.nil_append, nl_i, nl_r, nl_l, nl_n, c189, q1, bI_0, ↓reduceIte]
      · cases q2 : inr x1 3
        · simp only [k194_0, k194_1, k194_4, k194_7, k194_8, k194_9, k194_10, k194_13, k194_16, k194_18, k194_19, k194_20, k194_21, k194_22, k194_23, k194_26, k194_28, k194_30, k194_33, k194_34, k194_36, k194_39, k194_40, k194_41, k194_42, k194_43, k194_45, k194_48, k194_49, Option.toList_some, Option.toList_none, List.cons_append, List.nil_append, nl_i, nl_r, nl_l, nl_n, c189, c126, in02, q1, q2, bI_0, Bool.true_eq_false, not_true_eq_false, ↓reduceIte]
        · exact absurd ⟨q1, q2⟩ hb
set_option maxRecDepth 100000 in
theorem r195 (hR : RR σ I) : ∃ I' J', (RR (sGet σ x x1 x2) I' ∧ Lo I J I' J') ∧ ∀ Q : Option Value → ab_I → ab_J → Prop, Cal 195 [.ref 49, .int x, .int x1, .int x2] I J Q ↔ Q (some (.int (aGet σ x x1 x2))) I' J' := by
  by_cases hb : inr x 4 = true ∧ inr x1 3 = true
  · obtain ⟨s, hs, rfl⟩ := inr_nI hb.1
    obtain ⟨z1, z2, z3⟩ := SR_s hR hs
    rw [show aGet σ (nI s) x1 x2 = _ from if_pos hb, show sGet σ (nI s) x1 x2 = _ from if_pos hb, tN_nI (by omega)]
    by_cases q : hin σ s x1 x2 = nI 0
    · obtain ⟨-, -, i, hi, rfl⟩ := hin_0 z1 q
      rw [if_pos q, if_pos q, tN_nI (by omega)]
      refine ⟨I, J, ⟨hR, Lo_refl⟩, fun Q => ?_⟩
      rw [en195]
      simp (disch := omega) only [k195_0, k195_1, k195_4, k195_7, k195_8, k195_9, k195_10, k195_13, k195_16, k195_19, k195_20, k195_21, k195_22, k195_23, k195_24, k195_27, k195_29, k195_31, k195_34, k195_35, k195_37, k195_40, k195_43, k195_44, k195_45, k195_48, k195_50, k195_51, k195_52, k195_53, k195_54, k195_55, Option.toList_some, Option.toList_none, List.cons_append, List.nil_append, nl_i, nl_r, nl_l, nl_n, c189, c126, in02, hb.1, hb.2, bI_0, Bool.true_eq_false, not_false_eq_true, ↓reduceIte, r192 hR hs, q, n0le, pk_mul, nI_add, nI_clamp, bnd, ly_73, Nat.reduceLT, true_and, and_true, SR_i hR (show 48 * s + i < 192 by omega)]
    · rw [if_neg q, if_neg q]
      refine ⟨_, J, ⟨RR_find hR, Lo_find⟩, fun Q => ?_⟩
      rw [en195]
      simp (disch := omega) only [k195_0, k195_1, k195_4, k195_7, k195_8, k195_9, k195_10, k195_13, k195_16, k195_19, k195_20, k195_21, k195_22, k195_23, k195_24, k195_27, k195_29, k195_31, k195_34, k195_35, k195_37, k195_40, k195_43, k195_44, k195_45, k195_48, k195_50, k195_51, k195_52, k195_53, k195_54, k195_55, Option.toList_some, Option.toList_none, List.cons_append, List.nil_append, nl_i, nl_r, nl_l, nl_n, c189, c126, in02, hb.1, hb.2, bI_0, Bool.true_eq_false, not_false_eq_true, ↓reduceIte, r192 hR hs, hin_p q]
  · refine ⟨I, J, ⟨?_, Lo_refl⟩, fun Q => ?_⟩
    · rw [show sGet σ x x1 x2 = σ from if_neg hb]; exact hR
    · rw [en195, show aGet σ x x1 x2 = _ from if_neg hb]
      cases q1 : inr x 4
      · simp only [k195_0, k195_1, k195_4, k195_7, k195_8, k195_9, k195_10, k195_13, k195_16, k195_19, k195_20, k195_21, k195_22, k195_23, k195_24, k195_27, k195_29, k195_31, k195_34, k195_35, k195_37, k195_40, k195_43, k195_44, k195_45, k195_48, k195_50, k195_51, k195_52, k195_53, k195_54, k195_55, Option.toList_some, Option.toList_none, List.cons_append, List.nil_append, nl_i, nl_r, nl_l, nl_n, c189, q1, bI_0, ↓reduceIte]
      · cases q2 : inr x1 3
        · simp only [k195_0, k195_1, k195_4, k195_7, k195_8, k195_9, k195_10, k195_13, k195_16, k195_19, k195_20, k195_21, k195_22, k195_23, k195_24, k195_27, k195_29, k195_31, k195_34, k195_35, k195_37, k195_40, k195_43, k195_44, k195_45, k195_48, k195_50, k195_51, k195_52, k195_53, k195_54, k195_55, Option.toList_some, Option.toList_none, List.cons_append, List.nil_append, nl_i, nl_r, nl_l, nl_n, c189, c126, in02, q1, q2, bI_0, Bool.true_eq_false, not_true_eq_false, ↓reduceIte]
        · exact absurd ⟨q1, q2⟩ hb
end SHEETS
