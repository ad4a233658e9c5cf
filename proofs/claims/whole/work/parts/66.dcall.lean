/-! CALLS: doubt, worst, price, asOf, mark, read -/
def aDoubt (c : Nat → Int32) (x x1 x2 : Int32) : Int64 := if inr x 12 = true ∧ inr x1 12 = true ∧ x ≠ x1 ∧ inr x2 2 = true then (if ¬ slb (hnd c) (tN x) = 4 ∧ slb (hnd c) (tN x) = slb (hnd c) (tN x1) then zL (low (dbC (hnd c) (tN x) (tN x1)) (12 * whC c) x2) else nO (-3)) else nO (-2)
def aWorstT (c : Nat → Int32) (x : Int32) : Int64 := if (wsC (hnd c)).2.1 = -1 then nO (-3) else if x = nI 0 then zL (low (wsC (hnd c)).1 (12 * whC c) 0) else if x = nI 1 then zL (low (wsC (hnd c)).1 (12 * whC c) 1) else if x = nI 2 then (wsC (hnd c)).2.1.toInt64 else (wsC (hnd c)).2.2.toInt64
def aWorst (c : Nat → Int32) (x : Int32) : Int64 := if inr x 4 = true then aWorstT c x else nO (-2)
section DCALL
variable {I : ab_I} {J : ab_J} {Q : Option Value → ab_I → ab_J → Prop} {σ : PS} {x x1 x2 x3 : Int32}
set_option maxRecDepth 100000 in
theorem q92 (hR : RC σ I J) : ∃ I' J', (RC σ I' J' ∧ CF I J I' J') ∧ ∀ Q : Option Value → ab_I → ab_J → Prop, Cal 92 [.ref 0, .int x, .int x1, .int x2] I J Q ↔ Q (some (.long (aDoubt (cc σ.1) x x1 x2))) I' J' := by
  by_cases hb : inr x 12 = true ∧ inr x1 12 = true ∧ x ≠ x1 ∧ inr x2 2 = true
  · obtain ⟨hb1, hb2, hb3, hb4⟩ := id hb
    obtain ⟨a, ha, rfl⟩ := inr_nI hb1
    obtain ⟨b, hbl, rfl⟩ := inr_nI hb2
    obtain ⟨I1, J1, ⟨h1, hS, h3⟩, hcal⟩ := st110 hR
    have e5 : J1 5 11 = _ := hS.2.1.2.2.2.2.2.2.2.2
    have o1 := bd_ok (db_bd (fun s _ => hnd_lt (cc σ.1) s) ha hbl) (by decide)
    obtain ⟨p1, p2⟩ := i2b12 (c := cc σ.1)
    refine ⟨I1, J1, ⟨h1, h3⟩, fun Q => ?_⟩
    rw [en92, show aDoubt (cc σ.1) (nI a) (nI b) x2 = _ from if_pos hb, tN_nI (by omega), tN_nI (by omega)]
    by_cases q : ¬ slb (hnd (cc σ.1)) a = 4 ∧ slb (hnd (cc σ.1)) a = slb (hnd (cc σ.1)) b
    · rw [if_pos q]
      simp (disch := omega) only [k92_0, k92_1, k92_4, k92_7, k92_8, k92_11, k92_14, k92_15, k92_16, k92_19, k92_20, k92_23, k92_26, k92_28, k92_31, k92_32, k92_33, k92_36, k92_37, k92_40, k92_41, k92_42_5, k92_42_17, k92_45, k92_48, k92_50, k92_53, k92_54, k92_55, k92_58, k92_59, k92_60_5, k92_60_17, k92_63, k92_64, k92_67_5, k92_67_17, k92_70, k92_71, k92_74, Option.toList_some, Option.toList_none, List.cons_append, List.nil_append, nl_i, nl_r, nl_l, nl_n, c116, c120, c121, hb1, hb2, hb4, hb3, bI_0, Bool.true_eq_false, not_false_eq_true, not_true_eq_false, ↓reduceIte, hcal, d32_5 hS.2.1 ha hbl, decide_eq_true q, d33_5 hS.2.1 ha hbl, c15_5, e5, zL_12, zL_mul, c122, sdF_low o1 p1 p2]
    · rw [if_neg q]
      simp (disch := omega) only [k92_0, k92_1, k92_4, k92_7, k92_8, k92_11, k92_14, k92_15, k92_16, k92_19, k92_20, k92_23, k92_26, k92_28, k92_31, k92_32, k92_33, k92_36, k92_37, k92_40, k92_41, k92_42_5, k92_42_17, k92_45, k92_48, k92_50, k92_53, k92_54, k92_55, k92_58, k92_59, k92_60_5, k92_60_17, k92_63, k92_64, k92_67_5, k92_67_17, k92_70, k92_71, k92_74, Option.toList_some, Option.toList_none, List.cons_append, List.nil_append, nl_i, nl_r, nl_l, nl_n, c116, c120, c121, hb1, hb2, hb4, hb3, bI_0, Bool.true_eq_false, not_false_eq_true, not_true_eq_false, ↓reduceIte, hcal, d32_5 hS.2.1 ha hbl, decide_eq_false q, nO]
  · refine ⟨I, J, ⟨hR, CF_refl⟩, fun Q => ?_⟩
    rw [en92, show aDoubt (cc σ.1) x x1 x2 = _ from if_neg hb]
    cases q1 : inr x 12
    · simp only [k92_0, k92_1, k92_4, k92_7, k92_8, k92_11, k92_14, k92_15, k92_16, k92_19, k92_20, k92_23, k92_26, k92_28, k92_31, k92_32, k92_33, k92_36, k92_37, k92_40, k92_41, k92_42_5, k92_42_17, k92_45, k92_48, k92_50, k92_53, k92_54, k92_55, k92_58, k92_59, k92_60_5, k92_60_17, k92_63, k92_64, k92_67_5, k92_67_17, k92_70, k92_71, k92_74, Option.toList_some, Option.toList_none, List.cons_append, List.nil_append, nl_i, nl_r, nl_l, nl_n, c116, c121, q1, bI_0, ↓reduceIte, nO]
    · cases q2 : inr x1 12
      · simp only [k92_0, k92_1, k92_4, k92_7, k92_8, k92_11, k92_14, k92_15, k92_16, k92_19, k92_20, k92_23, k92_26, k92_28, k92_31, k92_32, k92_33, k92_36, k92_37, k92_40, k92_41, k92_42_5, k92_42_17, k92_45, k92_48, k92_50, k92_53, k92_54, k92_55, k92_58, k92_59, k92_60_5, k92_60_17, k92_63, k92_64, k92_67_5, k92_67_17, k92_70, k92_71, k92_74, Option.toList_some, Option.toList_none, List.cons_append, List.nil_append, nl_i, nl_r, nl_l, nl_n, c116, c121, q1, q2, bI_0, Bool.true_eq_false, ↓reduceIte, nO]
      · by_cases q3 : x = x1
        · simp only [k92_0, k92_1, k92_4, k92_7, k92_8, k92_11, k92_14, k92_15, k92_16, k92_19, k92_20, k92_23, k92_26, k92_28, k92_31, k92_32, k92_33, k92_36, k92_37, k92_40, k92_41, k92_42_5, k92_42_17, k92_45, k92_48, k92_50, k92_53, k92_54, k92_55, k92_58, k92_59, k92_60_5, k92_60_17, k92_63, k92_64, k92_67_5, k92_67_17, k92_70, k92_71, k92_74, Option.toList_some, Option.toList_none, List.cons_append, List.nil_append, nl_i, nl_r, nl_l, nl_n, c116, c121, q1, q2, bI_0, Bool.true_eq_false, q3, ↓reduceIte, nO]
        · cases q4 : inr x2 2
          · simp only [k92_0, k92_1, k92_4, k92_7, k92_8, k92_11, k92_14, k92_15, k92_16, k92_19, k92_20, k92_23, k92_26, k92_28, k92_31, k92_32, k92_33, k92_36, k92_37, k92_40, k92_41, k92_42_5, k92_42_17, k92_45, k92_48, k92_50, k92_53, k92_54, k92_55, k92_58, k92_59, k92_60_5, k92_60_17, k92_63, k92_64, k92_67_5, k92_67_17, k92_70, k92_71, k92_74, Option.toList_some, Option.toList_none, List.cons_append, List.nil_append, nl_i, nl_r, nl_l, nl_n, c116, c120, c121, q1, q2, q3, q4, bI_0, Bool.true_eq_false, not_true_eq_false, ↓reduceIte, nO]
          · exact absurd ⟨q1, q2, q3, q4⟩ hb
set_option maxRecDepth 100000 in
theorem r171 (hR : RR σ I) : ∃ I' J', (RR σ I' ∧ QF I J I' J') ∧ ∀ Q : Option Value → ab_I → ab_J → Prop, Cal 171 [.ref 49, .int x, .int x1, .int x2] I J Q ↔ Q (some (.long (aDoubt (cc σ.1) x x1 x2))) I' J' := by
  by_cases hb : inr x 12 = true ∧ inr x1 12 = true ∧ x ≠ x1 ∧ inr x2 2 = true
  · obtain ⟨hb1, hb2, hb3, hb4⟩ := id hb
    obtain ⟨a, ha, rfl⟩ := inr_nI hb1
    obtain ⟨b, hbl, rfl⟩ := inr_nI hb2
    obtain ⟨I1, ⟨h1, h3⟩, hcal⟩ := st138 (J := J) hR
    have e57 : ∀ s, s < 12 → I1 57 s = enc (slb (hnd (cc σ.1)) s) := fun s hs => by rw [h1.2.2.2 s (by omega), LB_s hs]
    have sa := slb_le4 (hnd (cc σ.1)) a
    have sb := slb_le4 (hnd (cc σ.1)) b
    have hshow : aDoubt (cc σ.1) (nI a) (nI b) x2 = if ¬ slb (hnd (cc σ.1)) a = 4 ∧ slb (hnd (cc σ.1)) a = slb (hnd (cc σ.1)) b then zL (low (dbC (hnd (cc σ.1)) a b) (12 * whC (cc σ.1)) x2) else nO (-3) := by
      rw [show aDoubt (cc σ.1) (nI a) (nI b) x2 = _ from if_pos hb, tN_nI (by omega), tN_nI (by omega)]
    rw [hshow]
    by_cases q1 : slb (hnd (cc σ.1)) a = 4
    · refine ⟨I1, J, ⟨RL_RR h1, h3⟩, fun Q => ?_⟩
      rw [if_neg (fun w => w.1 q1), en171]
      simp (disch := omega) only [k171_0, k171_1, k171_4, k171_7, k171_8, k171_11, k171_14, k171_15, k171_16, k171_19, k171_20, k171_21, k171_22, k171_25, k171_28, k171_30, k171_33, k171_34, k171_35, k171_38, k171_39, k171_42, k171_43, k171_44, k171_45, k171_48, k171_49, k171_52, k171_53, k171_54, k171_55, k171_58, k171_59, k171_60, k171_63, k171_65, k171_68, k171_69, k171_70, k171_71, k171_72, k171_75, k171_76, k171_79, k171_80, k171_83, k171_86, k171_87, k171_90, Option.toList_some, Option.toList_none, List.cons_append, List.nil_append, nl_i, nl_r, nl_l, nl_n, c131, c126, in01, c127, hb1, hb2, hb4, hb3, bI_0, Bool.true_eq_false, not_false_eq_true, not_true_eq_false, ↓reduceIte, hcal, nI_clamp, bnd, ly_57, Nat.reduceLT, true_and, and_true, e57 a ha, enc_m1, q1, nO]
    · by_cases q2 : slb (hnd (cc σ.1)) a = slb (hnd (cc σ.1)) b
      · obtain ⟨a', J', ⟨j1, j2, j3, j4⟩, hcal2⟩ := c170 (J := J) h1.2.1 h1.2.2.2 ha hbl (show slb (hnd (cc σ.1)) a < 4 by omega) q2.symm
        obtain ⟨k1, k2⟩ := RL_58 (a' := a') h1 j1
        refine ⟨_, J', ⟨RL_RR k1, QF_trans h3 k2⟩, fun Q => ?_⟩
        rw [if_pos ⟨q1, q2⟩, en171]
        rcases inr2.mp hb4 with r | r
        · subst r
          simp (disch := omega) only [k171_0, k171_1, k171_4, k171_7, k171_8, k171_11, k171_14, k171_15, k171_16, k171_19, k171_20, k171_21, k171_22, k171_25, k171_28, k171_30, k171_33, k171_34, k171_35, k171_38, k171_39, k171_42, k171_43, k171_44, k171_45, k171_48, k171_49, k171_52, k171_53, k171_54, k171_55, k171_58, k171_59, k171_60, k171_63, k171_65, k171_68, k171_69, k171_70, k171_71, k171_72, k171_75, k171_76, k171_79, k171_80, k171_83, k171_86, k171_87, k171_90, Option.toList_some, Option.toList_none, List.cons_append, List.nil_append, nl_i, nl_r, nl_l, nl_n, c131, c126, in01, c127, hb1, hb2, hb4, hb3, bI_0, Bool.true_eq_false, not_false_eq_true, not_true_eq_false, ↓reduceIte, hcal, nI_clamp, bnd, ly_57, Nat.reduceLT, true_and, and_true, e57 a ha, e57 b hbl, enc_m1, enc_eq, q1, if_pos q2, hcal2, n00', j3]
          rfl
        · subst r
          simp (disch := omega) only [k171_0, k171_1, k171_4, k171_7, k171_8, k171_11, k171_14, k171_15, k171_16, k171_19, k171_20, k171_21, k171_22, k171_25, k171_28, k171_30, k171_33, k171_34, k171_35, k171_38, k171_39, k171_42, k171_43, k171_44, k171_45, k171_48, k171_49, k171_52, k171_53, k171_54, k171_55, k171_58, k171_59, k171_60, k171_63, k171_65, k171_68, k171_69, k171_70, k171_71, k171_72, k171_75, k171_76, k171_79, k171_80, k171_83, k171_86, k171_87, k171_90, Option.toList_some, Option.toList_none, List.cons_append, List.nil_append, nl_i, nl_r, nl_l, nl_n, c131, c126, in01, c127, hb1, hb2, hb4, hb3, bI_0, Bool.true_eq_false, not_false_eq_true, not_true_eq_false, ↓reduceIte, hcal, nI_clamp, bnd, ly_57, Nat.reduceLT, true_and, and_true, e57 a ha, e57 b hbl, enc_m1, enc_eq, q1, if_pos q2, hcal2, n10', j4]
          rfl
      · refine ⟨I1, J, ⟨RL_RR h1, h3⟩, fun Q => ?_⟩
        rw [if_neg (fun w => q2 w.2), en171]
        simp (disch := omega) only [k171_0, k171_1, k171_4, k171_7, k171_8, k171_11, k171_14, k171_15, k171_16, k171_19, k171_20, k171_21, k171_22, k171_25, k171_28, k171_30, k171_33, k171_34, k171_35, k171_38, k171_39, k171_42, k171_43, k171_44, k171_45, k171_48, k171_49, k171_52, k171_53, k171_54, k171_55, k171_58, k171_59, k171_60, k171_63, k171_65, k171_68, k171_69, k171_70, k171_71, k171_72, k171_75, k171_76, k171_79, k171_80, k171_83, k171_86, k171_87, k171_90, Option.toList_some, Option.toList_none, List.cons_append, List.nil_append, nl_i, nl_r, nl_l, nl_n, c131, c126, in01, c127, hb1, hb2, hb4, hb3, bI_0, Bool.true_eq_false, not_false_eq_true, not_true_eq_false, ↓reduceIte, hcal, nI_clamp, bnd, ly_57, Nat.reduceLT, true_and, and_true, e57 a ha, e57 b hbl, enc_m1, enc_eq, q1, q2, nO]
  · refine ⟨I, J, ⟨hR, QF_refl⟩, fun Q => ?_⟩
    rw [en171, show aDoubt (cc σ.1) x x1 x2 = _ from if_neg hb]
    cases q1 : inr x 12
    · simp only [k171_0, k171_1, k171_4, k171_7, k171_8, k171_11, k171_14, k171_15, k171_16, k171_19, k171_20, k171_21, k171_22, k171_25, k171_28, k171_30, k171_33, k171_34, k171_35, k171_38, k171_39, k171_42, k171_43, k171_44, k171_45, k171_48, k171_49, k171_52, k171_53, k171_54, k171_55, k171_58, k171_59, k171_60, k171_63, k171_65, k171_68, k171_69, k171_70, k171_71, k171_72, k171_75, k171_76, k171_79, k171_80, k171_83, k171_86, k171_87, k171_90, Option.toList_some, Option.toList_none, List.cons_append, List.nil_append, nl_i, nl_r, nl_l, nl_n, c131, c127, q1, bI_0, ↓reduceIte, nO]
    · cases q2 : inr x1 12
      · simp only [k171_0, k171_1, k171_4, k171_7, k171_8, k171_11, k171_14, k171_15, k171_16, k171_19, k171_20, k171_21, k171_22, k171_25, k171_28, k171_30, k171_33, k171_34, k171_35, k171_38, k171_39, k171_42, k171_43, k171_44, k171_45, k171_48, k171_49, k171_52, k171_53, k171_54, k171_55, k171_58, k171_59, k171_60, k171_63, k171_65, k171_68, k171_69, k171_70, k171_71, k171_72, k171_75, k171_76, k171_79, k171_80, k171_83, k171_86, k171_87, k171_90, Option.toList_some, Option.toList_none, List.cons_append, List.nil_append, nl_i, nl_r, nl_l, nl_n, c131, c127, q1, q2, bI_0, Bool.true_eq_false, ↓reduceIte, nO]
      · by_cases q3 : x = x1
        · simp only [k171_0, k171_1, k171_4, k171_7, k171_8, k171_11, k171_14, k171_15, k171_16, k171_19, k171_20, k171_21, k171_22, k171_25, k171_28, k171_30, k171_33, k171_34, k171_35, k171_38, k171_39, k171_42, k171_43, k171_44, k171_45, k171_48, k171_49, k171_52, k171_53, k171_54, k171_55, k171_58, k171_59, k171_60, k171_63, k171_65, k171_68, k171_69, k171_70, k171_71, k171_72, k171_75, k171_76, k171_79, k171_80, k171_83, k171_86, k171_87, k171_90, Option.toList_some, Option.toList_none, List.cons_append, List.nil_append, nl_i, nl_r, nl_l, nl_n, c131, c127, q1, q2, bI_0, Bool.true_eq_false, q3, ↓reduceIte, nO]
        · cases q4 : inr x2 2
          · simp only [k171_0, k171_1, k171_4, k171_7, k171_8, k171_11, k171_14, k171_15, k171_16, k171_19, k171_20, k171_21, k171_22, k171_25, k171_28, k171_30, k171_33, k171_34, k171_35, k171_38, k171_39, k171_42, k171_43, k171_44, k171_45, k171_48, k171_49, k171_52, k171_53, k171_54, k171_55, k171_58, k171_59, k171_60, k171_63, k171_65, k171_68, k171_69, k171_70, k171_71, k171_72, k171_75, k171_76, k171_79, k171_80, k171_83, k171_86, k171_87, k171_90, Option.toList_some, Option.toList_none, List.cons_append, List.nil_append, nl_i, nl_r, nl_l, nl_n, c131, c126, in01, c127, q1, q2, q3, q4, bI_0, Bool.true_eq_false, not_true_eq_false, ↓reduceIte, nO]
          · exact absurd ⟨q1, q2, q3, q4⟩ hb
theorem toZ_1 (z : Int × Int32 × Int32) : (toZ z).1 = zL z.1 := rfl
theorem toZ_2 (z : Int × Int32 × Int32) : (toZ z).2 = z.2 := rfl
/-- the worst doubt of the balance is known -/
theorem st34 {c o : Nat → Int32} (hR : RC σ I J) (hc : c = cc σ.1) (hS : SetOK c o I J) (ho : o = oo σ.1) : ∃ I' J', (RC σ I' J' ∧ SetOK c o I' J' ∧ CF I J I' J' ∧ I' 5 14 = (wsC (hnd c)).2.1 ∧ I' 5 15 = (wsC (hnd c)).2.2 ∧ J' 5 13 = zL (wsC (hnd c)).1) ∧ ∀ Q : Option Value → ab_I → ab_J → Prop, Cal 34 [.ref 5] I J Q ↔ Q none I' J' := by
  obtain ⟨s0, sT, sW, s47, hw, sS⟩ := id hS
  rcases hw with hw | ⟨hw, w1, w2, w3⟩
  · have hf : CF I J (wsI 5 (toZ (wsC (hnd c))) I) (wsJ 5 (toZ (wsC (hnd c))) J) := by
      refine ⟨fun k hk => ?_, fun j hj => ?_, fun k hk => ?_⟩
      · unfold wsI; simp (disch := omega) only [up_ne]
      · unfold wsI; simp (disch := omega) only [up_ne]
      · unfold wsJ; simp (disch := omega) only [up_ne]
    have hs : SetOK c o (wsI 5 (toZ (wsC (hnd c))) I) (wsJ 5 (toZ (wsC (hnd c))) J) := by
      obtain ⟨t1, t2, t3, t4, t5, t6, t7, t8, t9⟩ := sT
      obtain ⟨v1, v2⟩ := sW
      refine ⟨?_, ⟨?_, fun s hs => ?_, fun s hs => ?_, fun m hm => ?_, fun m hm => ?_, fun s hs => ?_, ?_, fun k hk => ?_, ?_⟩, ⟨fun m hm => ?_, fun s hs => ?_⟩, ?_, Or.inr ⟨?_, ?_, ?_, ?_⟩, ?_⟩
      · unfold wsI; simp (disch := omega) only [up_ne]; exact s0
      · unfold wsI; rw [up_ne _ _ (by omega)]; exact t1
      · unfold wsI; rw [up_ne _ _ (by omega)]; exact t2 s hs
      · unfold wsJ; rw [up_ne _ _ (by omega)]; exact t3 s hs
      · unfold wsI; rw [up_ne _ _ (by omega)]; exact t4 m hm
      · unfold wsI; rw [up_ne _ _ (by omega)]; exact t5 m hm
      · unfold wsI; rw [up_ne _ _ (by omega)]; exact t6 s hs
      · unfold wsI; simp (disch := omega) only [up_ne, va_up_s]; exact t7
      · unfold wsJ; rw [up_ne _ _ (by omega)]; exact t8 k hk
      · unfold wsJ; simp (disch := omega) only [up_ne, va_up_s]; exact t9
      · unfold wsJ; rw [up_ne _ _ (by omega)]; exact v1 m hm
      · unfold wsJ; rw [up_ne _ _ (by omega)]; exact v2 s hs
      · unfold wsI; rw [up_ne _ _ (by omega)]; exact s47
      · unfold wsI; simp (disch := omega) only [va_up_s]
      · unfold wsI; simp (disch := omega) only [up_ne, va_up_s, toZ_2]
      · unfold wsI; simp (disch := omega) only [up_ne, va_up_s, toZ_2]
      · unfold wsJ; simp (disch := omega) only [va_up_s, toZ_1]
      · unfold StOK wsI wsJ at *; simp (disch := omega) only [up_ne] at *; exact sS
    refine ⟨_, _, ⟨⟨CB_cf hR.1 hf, ?_, Or.inr (by rw [← hc, ← ho]; exact hs)⟩, hs, hf, ?_, ?_, ?_⟩, fun Q => d34_5 sT hw⟩
    · intro k hk
      unfold wsI; simp (disch := omega) only [up_ne]; exact hR.2.1 k hk
    · unfold wsI; simp (disch := omega) only [up_ne, va_up_s, toZ_2]
    · unfold wsI; simp (disch := omega) only [up_ne, va_up_s, toZ_2]
    · unfold wsJ; simp (disch := omega) only [va_up_s, toZ_1]
  · exact ⟨I, J, ⟨hR, hS, CF_refl, w1, w2, w3⟩, fun Q => c34k_5 hw⟩
theorem ws_bd (c : Nat → Int32) : bd (wsC (hnd c)).1 151165440 := wzA_bd (fun a b ha hb => dzD_bd (fun s _ => hnd_lt c s) ha hb) 12 (Nat.le_refl _)
theorem inr4 : inr x 4 = true ↔ x = nI 0 ∨ x = nI 1 ∨ x = nI 2 ∨ x = nI 3 := by
  constructor
  · intro h
    obtain ⟨k, hk, rfl⟩ := inr_nI h
    have : k = 0 ∨ k = 1 ∨ k = 2 ∨ k = 3 := by omega
    rcases this with r | r | r | r <;> subst r <;> simp
  · rintro (r | r | r | r) <;> subst r <;> decide
theorem in3c : inr x 4 = true ↔ ¬ x < 0 ∧ x ≤ nI 3 := by
  rw [inr_t, i_lt, i_le, t0, nI_toInt (by decide)]
  omega
set_option maxRecDepth 100000 in
theorem q93 (hR : RC σ I J) : ∃ I' J', (RC σ I' J' ∧ CF I J I' J') ∧ ∀ Q : Option Value → ab_I → ab_J → Prop, Cal 93 [.ref 0, .int x] I J Q ↔ Q (some (.long (aWorst (cc σ.1) x))) I' J' := by
  by_cases hb : inr x 4 = true
  · obtain ⟨hx1, hx2⟩ := in3c.mp hb
    obtain ⟨I1, J1, ⟨h1, hS, h3⟩, hcal⟩ := st110 hR
    obtain ⟨I2, J2, ⟨g1, g2, g3, w1, w2, w3⟩, hcal2⟩ := st34 h1 rfl hS rfl
    have e5 : J2 5 11 = _ := g2.2.1.2.2.2.2.2.2.2.2
    have o1 := bd_ok (ws_bd (cc σ.1)) (by decide)
    obtain ⟨p1, p2⟩ := i2b12 (c := cc σ.1)
    refine ⟨I2, J2, ⟨g1, CF_trans h3 g3⟩, fun Q => ?_⟩
    rw [en93, show aWorst (cc σ.1) x = _ from if_pos hb]
    unfold aWorstT
    by_cases q : (wsC (hnd (cc σ.1))).2.1 = -1
    · rw [if_pos q]
      simp (disch := omega) only [k93_0, k93_1, k93_4, k93_5, k93_6, k93_9, k93_11, k93_14, k93_15, k93_16, k93_19, k93_20, k93_23_5, k93_23_17, k93_26, k93_27, k93_30_5, k93_30_17, k93_33, k93_34, k93_37, k93_39, k93_42, k93_43, k93_44, k93_45, k93_48, k93_49, k93_50, k93_53, k93_54, k93_57_5, k93_57_17, k93_60, k93_61, k93_64, k93_65, k93_68_5, k93_68_17, k93_71, k93_72, k93_73, k93_74, k93_77_5, k93_77_17, k93_80, k93_81, k93_84_5, k93_84_17, k93_87, k93_88, k93_91, Option.toList_some, Option.toList_none, List.cons_append, List.nil_append, nl_i, nl_r, nl_l, nl_n, c121, hx1, hx2, ↓reduceIte, hcal, hcal2, w1, q, not_true_eq_false, nO]
    · rw [if_neg q]
      rcases inr4.mp hb with r | r | r | r <;> subst r
      · have c1 : nI 0 < nI 2 := by decide
        rw [if_pos rfl]
        simp (disch := omega) only [k93_0, k93_1, k93_4, k93_5, k93_6, k93_9, k93_11, k93_14, k93_15, k93_16, k93_19, k93_20, k93_23_5, k93_23_17, k93_26, k93_27, k93_30_5, k93_30_17, k93_33, k93_34, k93_37, k93_39, k93_42, k93_43, k93_44, k93_45, k93_48, k93_49, k93_50, k93_53, k93_54, k93_57_5, k93_57_17, k93_60, k93_61, k93_64, k93_65, k93_68_5, k93_68_17, k93_71, k93_72, k93_73, k93_74, k93_77_5, k93_77_17, k93_80, k93_81, k93_84_5, k93_84_17, k93_87, k93_88, k93_91, Option.toList_some, Option.toList_none, List.cons_append, List.nil_append, nl_i, nl_r, nl_l, nl_n, c121, hx1, hx2, ↓reduceIte, hcal, hcal2, w1, w3, q, not_false_eq_true, c1, c15_5, e5, zL_12, zL_mul, c122, sdF_low o1 p1 p2]
        rfl
      · have c1 : nI 1 < nI 2 := by decide
        rw [if_neg (by decide), if_pos rfl]
        simp (disch := omega) only [k93_0, k93_1, k93_4, k93_5, k93_6, k93_9, k93_11, k93_14, k93_15, k93_16, k93_19, k93_20, k93_23_5, k93_23_17, k93_26, k93_27, k93_30_5, k93_30_17, k93_33, k93_34, k93_37, k93_39, k93_42, k93_43, k93_44, k93_45, k93_48, k93_49, k93_50, k93_53, k93_54, k93_57_5, k93_57_17, k93_60, k93_61, k93_64, k93_65, k93_68_5, k93_68_17, k93_71, k93_72, k93_73, k93_74, k93_77_5, k93_77_17, k93_80, k93_81, k93_84_5, k93_84_17, k93_87, k93_88, k93_91, Option.toList_some, Option.toList_none, List.cons_append, List.nil_append, nl_i, nl_r, nl_l, nl_n, c121, hx1, hx2, ↓reduceIte, hcal, hcal2, w1, w3, q, not_false_eq_true, c1, c15_5, e5, zL_12, zL_mul, c122, sdF_low o1 p1 p2]
        rfl
      · have c1 : ¬ nI 2 < nI 2 := by decide
        rw [if_neg (by decide), if_neg (by decide), if_pos rfl]
        simp (disch := omega) only [k93_0, k93_1, k93_4, k93_5, k93_6, k93_9, k93_11, k93_14, k93_15, k93_16, k93_19, k93_20, k93_23_5, k93_23_17, k93_26, k93_27, k93_30_5, k93_30_17, k93_33, k93_34, k93_37, k93_39, k93_42, k93_43, k93_44, k93_45, k93_48, k93_49, k93_50, k93_53, k93_54, k93_57_5, k93_57_17, k93_60, k93_61, k93_64, k93_65, k93_68_5, k93_68_17, k93_71, k93_72, k93_73, k93_74, k93_77_5, k93_77_17, k93_80, k93_81, k93_84_5, k93_84_17, k93_87, k93_88, k93_91, Option.toList_some, Option.toList_none, List.cons_append, List.nil_append, nl_i, nl_r, nl_l, nl_n, c121, hx1, hx2, ↓reduceIte, hcal, hcal2, w1, q, not_false_eq_true, not_true_eq_false, c1]
      · have c1 : ¬ nI 3 < nI 2 := by decide
        have c2 : ¬ nI 3 = nI 2 := by decide
        rw [if_neg (by decide), if_neg (by decide), if_neg (by decide)]
        simp (disch := omega) only [k93_0, k93_1, k93_4, k93_5, k93_6, k93_9, k93_11, k93_14, k93_15, k93_16, k93_19, k93_20, k93_23_5, k93_23_17, k93_26, k93_27, k93_30_5, k93_30_17, k93_33, k93_34, k93_37, k93_39, k93_42, k93_43, k93_44, k93_45, k93_48, k93_49, k93_50, k93_53, k93_54, k93_57_5, k93_57_17, k93_60, k93_61, k93_64, k93_65, k93_68_5, k93_68_17, k93_71, k93_72, k93_73, k93_74, k93_77_5, k93_77_17, k93_80, k93_81, k93_84_5, k93_84_17, k93_87, k93_88, k93_91, Option.toList_some, Option.toList_none, List.cons_append, List.nil_append, nl_i, nl_r, nl_l, nl_n, c121, hx1, hx2, ↓reduceIte, hcal, hcal2, w1, w2, q, not_false_eq_true, c1, c2]
  · refine ⟨I, J, ⟨hR, CF_refl⟩, fun Q => ?_⟩
    rw [en93, show aWorst (cc σ.1) x = _ from if_neg hb]
    by_cases hx1 : x < 0
    · simp only [k93_0, k93_1, k93_4, k93_5, k93_6, k93_9, k93_11, k93_14, k93_15, k93_16, k93_19, k93_20, k93_23_5, k93_23_17, k93_26, k93_27, k93_30_5, k93_30_17, k93_33, k93_34, k93_37, k93_39, k93_42, k93_43, k93_44, k93_45, k93_48, k93_49, k93_50, k93_53, k93_54, k93_57_5, k93_57_17, k93_60, k93_61, k93_64, k93_65, k93_68_5, k93_68_17, k93_71, k93_72, k93_73, k93_74, k93_77_5, k93_77_17, k93_80, k93_81, k93_84_5, k93_84_17, k93_87, k93_88, k93_91, Option.toList_some, Option.toList_none, List.cons_append, List.nil_append, nl_i, nl_r, nl_l, nl_n, c121, hx1, ↓reduceIte, nO]
    · by_cases hx2 : x ≤ nI 3
      · exact absurd (in3c.mpr ⟨hx1, hx2⟩) hb
      · simp only [k93_0, k93_1, k93_4, k93_5, k93_6, k93_9, k93_11, k93_14, k93_15, k93_16, k93_19, k93_20, k93_23_5, k93_23_17, k93_26, k93_27, k93_30_5, k93_30_17, k93_33, k93_34, k93_37, k93_39, k93_42, k93_43, k93_44, k93_45, k93_48, k93_49, k93_50, k93_53, k93_54, k93_57_5, k93_57_17, k93_60, k93_61, k93_64, k93_65, k93_68_5, k93_68_17, k93_71, k93_72, k93_73, k93_74, k93_77_5, k93_77_17, k93_80, k93_81, k93_84_5, k93_84_17, k93_87, k93_88, k93_91, Option.toList_some, Option.toList_none, List.cons_append, List.nil_append, nl_i, nl_r, nl_l, nl_n, c121, hx1, hx2, ↓reduceIte, nO]
set_option maxRecDepth 100000 in
theorem r173 (h : RLd σ I) (hb : inr x 4 = true) : ∃ I' J', (RLd σ I' ∧ QF I J I' J') ∧ ∀ Q : Option Value → ab_I → ab_J → Prop, Cal 173 [.ref 49, .int x] I J Q ↔ Q (some (.long (aWorstT (cc σ.1) x))) I' J' := by
  obtain ⟨I1, J1, ⟨g1, g2, g3, g4, g5, g6, g7, g8⟩, hcal⟩ := c172 (J := J) h.2.1 h.2.2.2
  have f : QF I J I1 J1 := ⟨fun k hk => g1 k (by omega) (by omega), fun j hj => g2 j (by omega) (by omega), g3⟩
  refine ⟨I1, J1, ⟨⟨RRb_qf h.1 f, ?_, ?_, fun k hk => ?_⟩, f⟩, fun Q => ?_⟩
  · rw [g1 55 (by decide) (by decide)]; exact h.2.1
  · rw [g1 56 (by decide) (by decide)]; exact h.2.2.1
  · rw [g1 57 (by decide) (by decide)]; exact h.2.2.2 k hk
  · rw [en173]
    unfold aWorstT
    by_cases q : (wsC (hnd (cc σ.1))).2.1 = -1
    · rw [if_pos q]
      simp (disch := omega) only [k173_0, k173_1, k173_4, k173_7, k173_9, k173_12, k173_13, k173_14, k173_17, k173_18, k173_21, k173_24, k173_25, k173_26, k173_29, k173_30, k173_33, k173_36, k173_37, k173_38, k173_41, k173_42, k173_45, k173_46, k173_49, k173_50, k173_53, k173_54, Option.toList_some, Option.toList_none, List.cons_append, List.nil_append, nl_i, nl_r, nl_l, nl_n, c127, hcal, decide_eq_false (fun w => w q : ¬ ¬ (wsC (hnd (cc σ.1))).2.1 = -1), bI_0, not_true_eq_false, ↓reduceIte, nO]
    · have g8' : I1 49 30 = (wsC (hnd (cc σ.1))).2.2 := by
        rcases g8 with w | w
        · exact absurd w q
        · exact w
      rw [if_neg q]
      rcases inr4.mp hb with r | r | r | r <;> subst r
      · rw [if_pos rfl]
        simp (disch := omega) only [k173_0, k173_1, k173_4, k173_7, k173_9, k173_12, k173_13, k173_14, k173_17, k173_18, k173_21, k173_24, k173_25, k173_26, k173_29, k173_30, k173_33, k173_36, k173_37, k173_38, k173_41, k173_42, k173_45, k173_46, k173_49, k173_50, k173_53, k173_54, Option.toList_some, Option.toList_none, List.cons_append, List.nil_append, nl_i, nl_r, nl_l, nl_n, hcal, decide_eq_true q, bI_0, Bool.true_eq_false, not_false_eq_true, not_true_eq_false, ↓reduceIte, n00', g5]
      · rw [if_neg (by decide), if_pos rfl]
        simp (disch := omega) only [k173_0, k173_1, k173_4, k173_7, k173_9, k173_12, k173_13, k173_14, k173_17, k173_18, k173_21, k173_24, k173_25, k173_26, k173_29, k173_30, k173_33, k173_36, k173_37, k173_38, k173_41, k173_42, k173_45, k173_46, k173_49, k173_50, k173_53, k173_54, Option.toList_some, Option.toList_none, List.cons_append, List.nil_append, nl_i, nl_r, nl_l, nl_n, hcal, decide_eq_true q, bI_0, Bool.true_eq_false, not_false_eq_true, not_true_eq_false, ↓reduceIte, n10', g6]
      · rw [if_neg (by decide), if_neg (by decide), if_pos rfl]
        have c1 : ¬ nI 2 = 0 := by decide
        have c2 : ¬ nI 2 = nI 1 := by decide
        simp (disch := omega) only [k173_0, k173_1, k173_4, k173_7, k173_9, k173_12, k173_13, k173_14, k173_17, k173_18, k173_21, k173_24, k173_25, k173_26, k173_29, k173_30, k173_33, k173_36, k173_37, k173_38, k173_41, k173_42, k173_45, k173_46, k173_49, k173_50, k173_53, k173_54, Option.toList_some, Option.toList_none, List.cons_append, List.nil_append, nl_i, nl_r, nl_l, nl_n, hcal, decide_eq_true q, bI_0, Bool.true_eq_false, not_false_eq_true, not_true_eq_false, ↓reduceIte, c1, c2, g7]
      · rw [if_neg (by decide), if_neg (by decide), if_neg (by decide)]
        have c1 : ¬ nI 3 = 0 := by decide
        have c2 : ¬ nI 3 = nI 1 := by decide
        have c3 : ¬ nI 3 = nI 2 := by decide
        simp (disch := omega) only [k173_0, k173_1, k173_4, k173_7, k173_9, k173_12, k173_13, k173_14, k173_17, k173_18, k173_21, k173_24, k173_25, k173_26, k173_29, k173_30, k173_33, k173_36, k173_37, k173_38, k173_41, k173_42, k173_45, k173_46, k173_49, k173_50, k173_53, k173_54, Option.toList_some, Option.toList_none, List.cons_append, List.nil_append, nl_i, nl_r, nl_l, nl_n, hcal, decide_eq_true q, bI_0, Bool.true_eq_false, not_false_eq_true, not_true_eq_false, ↓reduceIte, c1, c2, c3, g8']
set_option maxRecDepth 100000 in
theorem r174 (hR : RR σ I) : ∃ I' J', (RR σ I' ∧ QF I J I' J') ∧ ∀ Q : Option Value → ab_I → ab_J → Prop, Cal 174 [.ref 49, .int x] I J Q ↔ Q (some (.long (aWorst (cc σ.1) x))) I' J' := by
  by_cases hb : inr x 4 = true
  · obtain ⟨I1, ⟨h1, h3⟩, hcal⟩ := st138 (J := J) hR
    obtain ⟨I2, J2, ⟨g1, g2⟩, hcal2⟩ := r173 (J := J) h1 hb
    refine ⟨I2, J2, ⟨RL_RR g1, QF_trans h3 g2⟩, fun Q => ?_⟩
    rw [en174, show aWorst (cc σ.1) x = _ from if_pos hb]
    simp (disch := omega) only [k174_0, k174_1, k174_2, k174_3, k174_6, k174_9, k174_11, k174_14, k174_15, k174_16, k174_19, k174_20, k174_21, k174_24, Option.toList_some, Option.toList_none, List.cons_append, List.nil_append, nl_i, nl_r, nl_l, nl_n, c126, in03, hb, bI_0, Bool.true_eq_false, not_false_eq_true, ↓reduceIte, hcal, hcal2]
  · refine ⟨I, J, ⟨hR, QF_refl⟩, fun Q => ?_⟩
    have hb' : inr x 4 = false := by simpa using hb
    rw [en174, show aWorst (cc σ.1) x = _ from if_neg hb]
    simp (disch := omega) only [k174_0, k174_1, k174_2, k174_3, k174_6, k174_9, k174_11, k174_14, k174_15, k174_16, k174_19, k174_20, k174_21, k174_24, Option.toList_some, Option.toList_none, List.cons_append, List.nil_append, nl_i, nl_r, nl_l, nl_n, c126, in03, c127, hb', bI_0, not_true_eq_false, ↓reduceIte, nO]
end DCALL
