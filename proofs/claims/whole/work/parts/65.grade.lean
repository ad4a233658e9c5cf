/-! CALLS: grade, hangs, misses -/
section GRADE
variable {I : ab_I} {J : ab_J} {Q : Option Value → ab_I → ab_J → Prop} {σ : PS} {x x1 x2 : Int32}
set_option maxRecDepth 100000 in
theorem q112 {s : Nat} (hR : RC σ I J) (hS : SetOK (cc σ.1) (oo σ.1) I J) (hs : s < 12) {t : Int} (ht : x.toInt = t) (ht2 : bd t 1000) : Cal 112 [.ref 0, .int (nI s), .int x] I J Q ↔ Q (some (.int (nI (gW σ s t)))) I J := by
  have hM := cc_MK hR.1.1
  have e16 : J 16 s = _ := hS.2.2.1.2 s hs
  have e5 : J 5 11 = _ := hS.2.1.2.2.2.2.2.2.2.2
  have hz := hR.1.2.2.2.1.2.2.2.2
  have b1 := wr_bd hM hs
  have b2 : bd (12 * whC (cc σ.1)) 54419558400 := bd_le (bd_mul (A := 12) (by unfold bd; omega) (wh_bd (cc σ.1))) (by decide)
  rw [en112]
  simp (disch := omega) only [k112_0, k112_1, k112_4, k112_5, k112_8_5, k112_8_17, k112_11, k112_12, k112_13, k112_14, k112_17_5, k112_17_17, k112_20, k112_21, k112_24, Option.toList_some, Option.toList_none, List.cons_append, List.nil_append, nl_i, nl_r, nl_l, nl_n, nI_clamp, bnd, ly_16, Nat.reduceLT, true_and, and_true, e16, c15_5, e5, zL_12, zL_mul, c51 hz b1 b2 (by decide) ht ht2]
  rfl
theorem t00 : (nI 0).toInt = 0 := by decide
theorem bd0 : bd 0 1000 := by unfold bd; omega
theorem gr_le {σ : PS} {I : ab_I} {J : ab_J} (hR : RC σ I J) {a b t : Int} : grd (prs σ.2.2.1.1 σ.2.2.1.2) a b t ≤ 6 := grd_le hR.1.2.2.2.1.2.2.2.2.2.2.1
set_option maxRecDepth 100000 in
theorem q89 (hR : RC σ I J) : ∃ I' J', ((RC σ I' J' ∧ CF I J I' J') ∧ (inr x 12 = true → SetOK (cc σ.1) (oo σ.1) I' J')) ∧ ∀ Q : Option Value → ab_I → ab_J → Prop, Cal 89 [.ref 0, .int x] I J Q ↔ Q (some (.int (aGrade σ x))) I' J' := by
  by_cases hb : inr x 12 = true
  · obtain ⟨s, hs, rfl⟩ := inr_nI hb
    obtain ⟨I1, J1, ⟨h1, hS, h3⟩, hcal⟩ := st110 hR
    have e7 : I1 7 s = _ := hS.2.1.2.1 s hs
    have e39 : I1 39 6 = _ := h1.1.2.2.2.1.2.2.2.2.2.2.2
    have hlt := hnd_lt (cc σ.1) s
    have h4 := slb_4 (h := hnd (cc σ.1)) hs hlt
    refine ⟨I1, J1, ⟨⟨h1, h3⟩, fun _ => hS⟩, fun Q => ?_⟩
    rw [en89, show aGrade σ (nI s) = _ from if_pos hb, tN_nI (by omega)]
    unfold aGradeT
    by_cases q1 : (prs σ.2.2.1.1 σ.2.2.1.2).2.2.2 = -1
    · by_cases q : slb (hnd (cc σ.1)) s = 4
      · have q' := h4.mp q
        rw [if_pos (Or.inr q)]
        simp (disch := omega) only [k89_0, k89_1, k89_4, k89_7, k89_9, k89_10, k89_11, k89_14, k89_15, k89_18, k89_21, k89_22, k89_25, k89_26, k89_29_5, k89_29_17, k89_32, k89_33, k89_34, k89_37, k89_39, k89_40, k89_41, k89_42, k89_43, k89_46, Option.toList_some, Option.toList_none, List.cons_append, List.nil_append, nl_i, nl_r, nl_l, nl_n, c116, hb, bI_0, Bool.true_eq_false, not_false_eq_true, not_true_eq_false, ↓reduceIte, hcal, nI_clamp, bnd, ly_7, Nat.reduceLT, true_and, and_true, e39, q1, e7, eq0, q', n00']
      · have q' : ¬ hnd (cc σ.1) s = 0 := fun w => q (h4.mpr w)
        rw [if_neg (by rintro (w | w); exact w q1; exact q w)]
        simp (disch := omega) only [k89_0, k89_1, k89_4, k89_7, k89_9, k89_10, k89_11, k89_14, k89_15, k89_18, k89_21, k89_22, k89_25, k89_26, k89_29_5, k89_29_17, k89_32, k89_33, k89_34, k89_37, k89_39, k89_40, k89_41, k89_42, k89_43, k89_46, Option.toList_some, Option.toList_none, List.cons_append, List.nil_append, nl_i, nl_r, nl_l, nl_n, c116, hb, bI_0, Bool.true_eq_false, not_false_eq_true, not_true_eq_false, ↓reduceIte, hcal, nI_clamp, bnd, ly_7, Nat.reduceLT, true_and, and_true, e39, q1, e7, eq0, q', q112 h1 hS hs t00 bd0]
    · rw [if_pos (Or.inl q1)]
      simp (disch := omega) only [k89_0, k89_1, k89_4, k89_7, k89_9, k89_10, k89_11, k89_14, k89_15, k89_18, k89_21, k89_22, k89_25, k89_26, k89_29_5, k89_29_17, k89_32, k89_33, k89_34, k89_37, k89_39, k89_40, k89_41, k89_42, k89_43, k89_46, Option.toList_some, Option.toList_none, List.cons_append, List.nil_append, nl_i, nl_r, nl_l, nl_n, c116, hb, bI_0, Bool.true_eq_false, not_false_eq_true, not_true_eq_false, ↓reduceIte, hcal, e39, q1]
  · refine ⟨I, J, ⟨⟨hR, CF_refl⟩, fun w => absurd w hb⟩, fun Q => ?_⟩
    have hb' : inr x 12 = false := by simpa using hb
    rw [en89, show aGrade σ x = _ from if_neg hb]
    simp (disch := omega) only [k89_0, k89_1, k89_4, k89_7, k89_9, k89_10, k89_11, k89_14, k89_15, k89_18, k89_21, k89_22, k89_25, k89_26, k89_29_5, k89_29_17, k89_32, k89_33, k89_34, k89_37, k89_39, k89_40, k89_41, k89_42, k89_43, k89_46, Option.toList_some, Option.toList_none, List.cons_append, List.nil_append, nl_i, nl_r, nl_l, nl_n, c116, hb', bI_0, not_true_eq_false, ↓reduceIte]
set_option maxRecDepth 100000 in
theorem r167 (hR : RR σ I) : ∃ I' J', (RR σ I' ∧ QF I J I' J') ∧ ∀ Q : Option Value → ab_I → ab_J → Prop, Cal 167 [.ref 49, .int x] I J Q ↔ Q (some (.int (aGrade σ x))) I' J' := by
  by_cases hb : inr x 12 = true
  · obtain ⟨s, hs, rfl⟩ := inr_nI hb
    obtain ⟨I1, ⟨h1, h3⟩, hcal⟩ := st138 (J := J) hR
    obtain ⟨I2, ⟨⟨g1, g2, g3⟩, f1⟩, hcal2⟩ := r163 (J := J) h1.1
    have h2 := RL_163 h1 g1 f1
    have hM := cc_MK hR.1.1
    have e57 : I2 57 s = enc (slb (hnd (cc σ.1)) s) := by rw [h2.2.2.2 s (by omega), LB_s hs]
    have s4 := slb_le4 (hnd (cc σ.1)) s
    have hshow : aGrade σ (nI s) = aGradeT σ s := by rw [show aGrade σ (nI s) = _ from if_pos hb, tN_nI (by omega)]
    rw [hshow]
    unfold aGradeT
    by_cases q1 : (prs σ.2.2.1.1 σ.2.2.1.2).2.2.2 = -1
    · by_cases q : slb (hnd (cc σ.1)) s = 4
      · refine ⟨I2, J, ⟨RL_RR h2, QF_trans h3 g2⟩, fun Q => ?_⟩
        rw [if_pos (Or.inr q), en167]
        simp (disch := omega) only [k167_0, k167_1, k167_4, k167_7, k167_9, k167_10, k167_11, k167_14, k167_15, k167_18, k167_19, k167_22, k167_23, k167_26, k167_27, k167_28, k167_29, k167_32, k167_34, k167_35, k167_36, k167_37, k167_40, k167_41, k167_42, k167_45, k167_46, k167_47, k167_50, k167_51, k167_52, k167_53, k167_56, k167_57, k167_60, Option.toList_some, Option.toList_none, List.cons_append, List.nil_append, nl_i, nl_r, nl_l, nl_n, c131, hb, bI_0, Bool.true_eq_false, not_false_eq_true, not_true_eq_false, ↓reduceIte, hcal, hcal2, nI_clamp, bnd, ly_57, Nat.reduceLT, true_and, and_true, q1, e57, q, enc_4]
      · obtain ⟨f1', f2'⟩ := slb_fix (c := cc σ.1) hs q
        obtain ⟨a', J', K, ov, hz, wz, ⟨hW, hj⟩, hcal3⟩ := wk146 (J := J) h2.2 hM f1' f2'
        obtain ⟨p1, p2, p3⟩ := wk_pos hW
        obtain ⟨e5, e6⟩ := hW.2.2.2.2.2.2 s hs rfl
        have em : ¬ nI (slb (hnd (cc σ.1)) s) = -1 := nI_m1 (by omega)
        obtain ⟨k1, k2⟩ := RL_58 (a' := a') h2 hj
        have g3' : RLOK (prs σ.2.2.1.1 σ.2.2.1.2) (va_up I2 58 a') := by
          obtain ⟨z1, z2, z3⟩ := g3
          refine ⟨z1, ?_, ?_⟩
          · rw [up_ne _ _ (by omega)]; exact z2
          · rw [up_ne _ _ (by omega), up_ne _ _ (by omega)]; exact z3
        refine ⟨_, J', ⟨RL_RR k1, QF_trans h3 (QF_trans g2 k2)⟩, fun Q => ?_⟩
        rw [if_neg (by rintro (w | w); exact w q1; exact q w), en167]
        simp (disch := omega) only [k167_0, k167_1, k167_4, k167_7, k167_9, k167_10, k167_11, k167_14, k167_15, k167_18, k167_19, k167_22, k167_23, k167_26, k167_27, k167_28, k167_29, k167_32, k167_34, k167_35, k167_36, k167_37, k167_40, k167_41, k167_42, k167_45, k167_46, k167_47, k167_50, k167_51, k167_52, k167_53, k167_56, k167_57, k167_60, Option.toList_some, Option.toList_none, List.cons_append, List.nil_append, nl_i, nl_r, nl_l, nl_n, c131, hb, bI_0, Bool.true_eq_false, not_false_eq_true, not_true_eq_false, ↓reduceIte, hcal, hcal2, nI_clamp, bnd, ly_57, ly_63, Nat.reduceLT, true_and, and_true, q1, e57, enc_lt f1', em, hcal3, e5, hW.2.2.2.1, c165 g3' (bd_K (wr_bd hM hs) e6 hW.1) (bd_le p3 (show 15116544 ≤ 54419558400 by decide)) (by decide) t00 bd0]
        unfold gW
        rw [e6, hW.2.2.1, show 12 * (K * ov) = K * (12 * ov) by rw [Int.mul_left_comm], grd_K hW.1]
    · refine ⟨I2, J, ⟨RL_RR h2, QF_trans h3 g2⟩, fun Q => ?_⟩
      rw [if_pos (Or.inl q1), en167]
      simp (disch := omega) only [k167_0, k167_1, k167_4, k167_7, k167_9, k167_10, k167_11, k167_14, k167_15, k167_18, k167_19, k167_22, k167_23, k167_26, k167_27, k167_28, k167_29, k167_32, k167_34, k167_35, k167_36, k167_37, k167_40, k167_41, k167_42, k167_45, k167_46, k167_47, k167_50, k167_51, k167_52, k167_53, k167_56, k167_57, k167_60, Option.toList_some, Option.toList_none, List.cons_append, List.nil_append, nl_i, nl_r, nl_l, nl_n, c131, hb, bI_0, Bool.true_eq_false, not_false_eq_true, not_true_eq_false, ↓reduceIte, hcal, hcal2, q1]
  · refine ⟨I, J, ⟨hR, QF_refl⟩, fun Q => ?_⟩
    have hb' : inr x 12 = false := by simpa using hb
    rw [en167, show aGrade σ x = _ from if_neg hb]
    simp (disch := omega) only [k167_0, k167_1, k167_4, k167_7, k167_9, k167_10, k167_11, k167_14, k167_15, k167_18, k167_19, k167_22, k167_23, k167_26, k167_27, k167_28, k167_29, k167_32, k167_34, k167_35, k167_36, k167_37, k167_40, k167_41, k167_42, k167_45, k167_46, k167_47, k167_50, k167_51, k167_52, k167_53, k167_56, k167_57, k167_60, Option.toList_some, Option.toList_none, List.cons_append, List.nil_append, nl_i, nl_r, nl_l, nl_n, c131, hb', bI_0, not_true_eq_false, ↓reduceIte]
theorem m3lt : (0 : Int32) ≤ -3 ↔ False := by decide
theorem m2lt : (0 : Int32) ≤ -2 ↔ False := by decide
set_option maxRecDepth 100000 in
theorem q90 (hR : RC σ I J) : ∃ I' J', (RC σ I' J' ∧ CF I J I' J') ∧ ∀ Q : Option Value → ab_I → ab_J → Prop, Cal 90 [.ref 0, .int x] I J Q ↔ Q (some (.int (aHangs σ x))) I' J' := by
  obtain ⟨I1, J1, ⟨⟨h1, h3⟩, hS⟩, hcal⟩ := q89 (x := x) hR
  refine ⟨I1, J1, ⟨h1, h3⟩, fun Q => ?_⟩
  rw [en90]
  unfold aGrade aHangs aGradeT at *
  by_cases hb : inr x 12 = true
  · obtain ⟨s, hs, rfl⟩ := inr_nI hb
    have hS := hS hb
    have hM := cc_MK hR.1.1
    have e6 : I1 6 = cc σ.1 := hS.2.1.1
    have e7 : I1 7 s = _ := hS.2.1.2.1 s hs
    have hz := h1.1.2.2.2.1.2.2.2.2
    have b1 := sm_bd hM hs
    have b2 : bd ((pop (hnd (cc σ.1) s) : Nat) : Int) 400 := by have := pop_le (hnd (cc σ.1) s); unfold bd; omega
    simp only [hb, ↓reduceIte, tN_nI (show s < 2 ^ 31 by omega)] at hcal ⊢
    by_cases q : (prs σ.2.2.1.1 σ.2.2.1.2).2.2.2 ≠ -1 ∨ slb (hnd (cc σ.1)) s = 4
    · rw [if_pos q]
      simp only [if_pos q] at hcal
      simp (disch := omega) only [k90_0, k90_1, k90_2, k90_5, k90_6, k90_7, k90_10, k90_11, k90_12, k90_13, k90_16, k90_17, k90_20, k90_21_5, k90_21_17, k90_24, k90_25, k90_28_5, k90_28_17, k90_31, k90_32, k90_33, k90_36, k90_37, k90_38, k90_41, k90_42, k90_43, k90_44, k90_47, k90_48, k90_51, k90_52, Option.toList_some, Option.toList_none, List.cons_append, List.nil_append, nl_i, nl_r, nl_l, nl_n, hcal, m3lt, ↓reduceIte]
    · rw [if_neg q]
      simp only [if_neg q] at hcal
      have l1 : gW σ s 0 ≤ 6 := gr_le h1
      have l2 : gM σ s ≤ 6 := gr_le h1
      have c1 : (0 : Int32) ≤ nI (gW σ s 0) := nI_pos' (by omega)
      simp (disch := omega) only [k90_0, k90_1, k90_2, k90_5, k90_6, k90_7, k90_10, k90_11, k90_12, k90_13, k90_16, k90_17, k90_20, k90_21_5, k90_21_17, k90_24, k90_25, k90_28_5, k90_28_17, k90_31, k90_32, k90_33, k90_36, k90_37, k90_38, k90_41, k90_42, k90_43, k90_44, k90_47, k90_48, k90_51, k90_52, Option.toList_some, Option.toList_none, List.cons_append, List.nil_append, nl_i, nl_r, nl_l, nl_n, hcal, c1, ↓reduceIte, c29_5, e6, sumL_z hM hs, nI_clamp, bnd, ly_7, Nat.reduceLT, true_and, and_true, e7, c202 (hnd_lt (cc σ.1) s), pop_zL, c51 hz b1 b2 (by decide) t00 bd0]
      have e9 : (nI (grd (prs σ.2.2.1.1 σ.2.2.1.2) (smN (cc σ.1) s) (pop (hnd (cc σ.1) s) : Nat) 0) = nI (gW σ s 0)) = (gM σ s = gW σ s 0) := nIeq (show gM σ s < 2 ^ 31 by omega) (by omega)
      by_cases q2 : gM σ s = gW σ s 0
      · rw [if_pos (e9.mpr q2), if_pos q2]
      · rw [if_neg (fun w => q2 (e9.mp w)), if_neg q2]
  · rw [if_neg hb]
    simp only [if_neg hb] at hcal
    simp (disch := omega) only [k90_0, k90_1, k90_2, k90_5, k90_6, k90_7, k90_10, k90_11, k90_12, k90_13, k90_16, k90_17, k90_20, k90_21_5, k90_21_17, k90_24, k90_25, k90_28_5, k90_28_17, k90_31, k90_32, k90_33, k90_36, k90_37, k90_38, k90_41, k90_42, k90_43, k90_44, k90_47, k90_48, k90_51, k90_52, Option.toList_some, Option.toList_none, List.cons_append, List.nil_append, nl_i, nl_r, nl_l, nl_n, hcal, m2lt, ↓reduceIte]
set_option maxRecDepth 100000 in
theorem r168 (hR : RR σ I) : ∃ I' J', (RR σ I' ∧ QF I J I' J') ∧ ∀ Q : Option Value → ab_I → ab_J → Prop, Cal 168 [.ref 49, .int x] I J Q ↔ Q (some (.int (aHangs σ x))) I' J' := by
  by_cases hb : inr x 12 = true
  · obtain ⟨s, hs, rfl⟩ := inr_nI hb
    obtain ⟨I1, ⟨h1, h3⟩, hcal⟩ := st138 (J := J) hR
    obtain ⟨I2, ⟨⟨g1, g2, g3⟩, f1⟩, hcal2⟩ := r163 (J := J) h1.1
    have h2 := RL_163 h1 g1 f1
    have hM := cc_MK hR.1.1
    have e57 : I2 57 s = enc (slb (hnd (cc σ.1)) s) := by rw [h2.2.2.2 s (by omega), LB_s hs]
    have s4 := slb_le4 (hnd (cc σ.1)) s
    have hshow : aHangs σ (nI s) = if (prs σ.2.2.1.1 σ.2.2.1.2).2.2.2 ≠ -1 ∨ slb (hnd (cc σ.1)) s = 4 then -3 else if gM σ s = gW σ s 0 then nI 0 else nI 1 := by rw [show aHangs σ (nI s) = _ from if_pos hb, tN_nI (by omega)]
    rw [hshow]
    by_cases q1 : (prs σ.2.2.1.1 σ.2.2.1.2).2.2.2 = -1
    · by_cases q : slb (hnd (cc σ.1)) s = 4
      · refine ⟨I2, J, ⟨RL_RR h2, QF_trans h3 g2⟩, fun Q => ?_⟩
        rw [if_pos (Or.inr q), en168]
        simp (disch := omega) only [k168_0, k168_1, k168_4, k168_7, k168_9, k168_10, k168_11, k168_14, k168_15, k168_18, k168_19, k168_22, k168_23, k168_26, k168_27, k168_28, k168_29, k168_32, k168_34, k168_35, k168_36, k168_37, k168_40, k168_41, k168_42, k168_45, k168_46, k168_47, k168_50, k168_51, k168_52, k168_53, k168_56, k168_57, k168_60, k168_61, k168_62, k168_65, k168_68, k168_69, k168_72, k168_73, Option.toList_some, Option.toList_none, List.cons_append, List.nil_append, nl_i, nl_r, nl_l, nl_n, c131, hb, bI_0, Bool.true_eq_false, not_false_eq_true, not_true_eq_false, ↓reduceIte, hcal, hcal2, nI_clamp, bnd, ly_57, Nat.reduceLT, true_and, and_true, q1, e57, q, enc_4]
      · obtain ⟨f1', f2'⟩ := slb_fix (c := cc σ.1) hs q
        obtain ⟨a', J', K, ov, hz, wz, ⟨hW, hj⟩, hcal3⟩ := wk146 (J := J) h2.2 hM f1' f2'
        obtain ⟨p1, p2, p3⟩ := wk_pos hW
        obtain ⟨e5, e6⟩ := hW.2.2.2.2.2.2 s hs rfl
        have em : ¬ nI (slb (hnd (cc σ.1)) s) = -1 := nI_m1 (by omega)
        obtain ⟨k1, k2⟩ := RL_58 (a' := a') h2 hj
        have g3' : RLOK (prs σ.2.2.1.1 σ.2.2.1.2) (va_up I2 58 a') := by
          obtain ⟨z1, z2, z3⟩ := g3
          refine ⟨z1, ?_, ?_⟩
          · rw [up_ne _ _ (by omega)]; exact z2
          · rw [up_ne _ _ (by omega), up_ne _ _ (by omega)]; exact z3
        have eg : grd (prs σ.2.2.1.1 σ.2.2.1.2) (wz s) (12 * ov) 0 = gW σ s 0 := by
          unfold gW
          rw [e6, hW.2.2.1, show 12 * (K * ov) = K * (12 * ov) by rw [Int.mul_left_comm], grd_K hW.1]
        have e55 : (va_up I2 58 a') 55 = cc σ.1 := k1.2.1
        have b1 := sm_bd hM hs
        have b2 : bd ((pop (hnd (cc σ.1) s) : Nat) : Int) 400 := by have := pop_le (hnd (cc σ.1) s); unfold bd; omega
        have hsm := smN_le hM hs
        have esm : (nI (smN (cc σ.1) s)).toInt64 = zL (smN (cc σ.1) s : Nat) := by rw [nI_l (by omega), lN_zL]
        have l1 : gW σ s 0 ≤ 6 := grd_le g3.2.2
        have l2 : gM σ s ≤ 6 := grd_le g3.2.2
        have h166 : ∀ Q : Option Value → ab_I → ab_J → Prop, Cal 166 [.ref 49, .int (nI s)] (va_up I2 58 a') J' Q ↔ Q (some (.int (nI (gM σ s)))) (va_up I2 58 a') J' := by
          intro Q
          rw [en166]
          simp (disch := omega) only [k166_0, k166_1, k166_2, k166_3, k166_6, k166_7, k166_8, k166_9, k166_12, k166_13, k166_14, k166_17, Option.toList_some, Option.toList_none, List.cons_append, List.nil_append, nl_i, nl_r, nl_l, nl_n, c147 hs, c143 hs, e55, suF_z hM hs, msF_pop, esm, pop_zL, c165 g3' b1 b2 (by decide) t00 bd0]
          rfl
        refine ⟨_, J', ⟨RL_RR k1, QF_trans h3 (QF_trans g2 k2)⟩, fun Q => ?_⟩
        rw [if_neg (by rintro (w | w); exact w q1; exact q w), en168]
        simp (disch := omega) only [k168_0, k168_1, k168_4, k168_7, k168_9, k168_10, k168_11, k168_14, k168_15, k168_18, k168_19, k168_22, k168_23, k168_26, k168_27, k168_28, k168_29, k168_32, k168_34, k168_35, k168_36, k168_37, k168_40, k168_41, k168_42, k168_45, k168_46, k168_47, k168_50, k168_51, k168_52, k168_53, k168_56, k168_57, k168_60, k168_61, k168_62, k168_65, k168_68, k168_69, k168_72, k168_73, Option.toList_some, Option.toList_none, List.cons_append, List.nil_append, nl_i, nl_r, nl_l, nl_n, c131, hb, bI_0, Bool.true_eq_false, not_false_eq_true, not_true_eq_false, ↓reduceIte, hcal, hcal2, nI_clamp, bnd, ly_57, ly_63, Nat.reduceLT, true_and, and_true, q1, e57, enc_lt f1', em, hcal3, e5, hW.2.2.2.1, c165 g3' (bd_K (wr_bd hM hs) e6 hW.1) (bd_le p3 (show 15116544 ≤ 54419558400 by decide)) (by decide) t00 bd0, eg, h166, nIeq]
        by_cases q2 : gW σ s 0 = gM σ s
        · rw [if_neg (fun w => w q2), if_pos q2.symm]
        · rw [if_pos q2, if_neg (fun w => q2 w.symm)]
    · refine ⟨I2, J, ⟨RL_RR h2, QF_trans h3 g2⟩, fun Q => ?_⟩
      rw [if_pos (Or.inl q1), en168]
      simp (disch := omega) only [k168_0, k168_1, k168_4, k168_7, k168_9, k168_10, k168_11, k168_14, k168_15, k168_18, k168_19, k168_22, k168_23, k168_26, k168_27, k168_28, k168_29, k168_32, k168_34, k168_35, k168_36, k168_37, k168_40, k168_41, k168_42, k168_45, k168_46, k168_47, k168_50, k168_51, k168_52, k168_53, k168_56, k168_57, k168_60, k168_61, k168_62, k168_65, k168_68, k168_69, k168_72, k168_73, Option.toList_some, Option.toList_none, List.cons_append, List.nil_append, nl_i, nl_r, nl_l, nl_n, c131, hb, bI_0, Bool.true_eq_false, not_false_eq_true, not_true_eq_false, ↓reduceIte, hcal, hcal2, q1]
  · refine ⟨I, J, ⟨hR, QF_refl⟩, fun Q => ?_⟩
    have hb' : inr x 12 = false := by simpa using hb
    rw [en168, show aHangs σ x = _ from if_neg hb]
    simp (disch := omega) only [k168_0, k168_1, k168_4, k168_7, k168_9, k168_10, k168_11, k168_14, k168_15, k168_18, k168_19, k168_22, k168_23, k168_26, k168_27, k168_28, k168_29, k168_32, k168_34, k168_35, k168_36, k168_37, k168_40, k168_41, k168_42, k168_45, k168_46, k168_47, k168_50, k168_51, k168_52, k168_53, k168_56, k168_57, k168_60, k168_61, k168_62, k168_65, k168_68, k168_69, k168_72, k168_73, Option.toList_some, Option.toList_none, List.cons_append, List.nil_append, nl_i, nl_r, nl_l, nl_n, c131, hb', bI_0, not_true_eq_false, ↓reduceIte]
theorem inT_c : inT x = true ↔ ¬ x < -1000 ∧ x ≤ nI 1000 := by
  unfold inT
  rw [i_lt, i_le, nI_toInt (by decide), show (-1000 : Int32).toInt = -1000 by decide]
  simp
theorem inT_b (h : inT x = true) : bd x.toInt 1000 := by
  unfold inT at h
  simp at h
  unfold bd
  omega
set_option maxRecDepth 100000 in
theorem q91 (hR : RC σ I J) : ∃ I' J', (RC σ I' J' ∧ CF I J I' J') ∧ ∀ Q : Option Value → ab_I → ab_J → Prop, Cal 91 [.ref 0, .int x, .int x1] I J Q ↔ Q (some (.int (aMisses σ x x1))) I' J' := by
  by_cases hb : inr x 4 = true ∧ inT x1 = true
  · obtain ⟨b, hbl, rfl⟩ := inr_nI hb.1
    obtain ⟨hx1, hx2⟩ := inT_c.mp hb.2
    obtain ⟨I1, J1, ⟨h1, hS, h3⟩, hcal⟩ := st110 hR
    have e10 : I1 10 b = _ := hS.2.1.2.2.2.2.1 b hbl
    have e11 : ∀ s, s < 12 → I1 11 s = _ := hS.2.1.2.2.2.2.2.1
    have e39 : I1 39 6 = _ := h1.1.2.2.2.1.2.2.2.2.2.2.2
    have henc : (enc (lb (hnd (cc σ.1)) b) = nI b) = (lb (hnd (cc σ.1)) b = b) := by rw [← enc_lt hbl]; exact enc_eq (lb_le4 _ _) (by omega)
    refine ⟨I1, J1, ⟨h1, h3⟩, fun Q => ?_⟩
    rw [show aMisses σ (nI b) x1 = _ from if_pos hb, tN_nI (by omega)]
    by_cases q1 : (prs σ.2.2.1.1 σ.2.2.1.2).2.2.2 = -1
    · by_cases q : lb (hnd (cc σ.1)) b = b
      · rw [if_neg (by rintro (w | w); exact w q1; exact w q)]
        refine Cal_of (fun Q hQ => ?_)
        rw [en91]
        simp (disch := omega) only [k91_0, k91_1, k91_4, k91_7, k91_8, k91_11, k91_14, k91_15, k91_18, k91_24, k91_25, k91_28, k91_29, k91_32, k91_35, k91_36, k91_39, k91_40, k91_43_5, k91_46, k91_47, k91_48, k91_49, k91_55, k91_56, k91_57, k91_58, Option.toList_some, Option.toList_none, List.cons_append, List.nil_append, nl_i, nl_r, nl_l, nl_n, c117, hb.1, hx1, hx2, bI_0, Bool.true_eq_false, not_false_eq_true, not_true_eq_false, ↓reduceIte, hcal, nI_clamp, bnd, ly_10, Nat.reduceLT, true_and, and_true, e39, q1, e10, q, enc_lt hbl]
        refine loop_dn (N := 12) (P := fun s => At 91 60 [some (.ref 0), some (.int (nI b)), some (.int x1), some (.int (nI (msN σ b x1.toInt s))), some (.int (nI s))] [] I1 J1 Q) ?_ ?_
        · rw [k91_60]
          simp (disch := omega) only [k91_62, k91_64, k91_107, k91_108, nI_leI, Nat.le_refl, ↓reduceIte]
          exact hQ
        · intro s hs ih
          have e0 : ¬ 12 ≤ s := by omega
          have hl := msN_le σ b x1.toInt s
          have henc2 : (enc (slb (hnd (cc σ.1)) s) = nI b) = (slb (hnd (cc σ.1)) s = b) := by rw [← enc_lt hbl]; exact enc_eq (slb_le4 _ _) (by omega)
          have l1 : gW σ s x1.toInt ≤ 6 := gr_le h1
          have l2 : gW σ s 0 ≤ 6 := gr_le h1
          unfold msN at ih
          rw [k91_60]
          simp (disch := omega) only [k91_62, k91_64, k91_67, k91_68, k91_71_5, k91_74, k91_76, k91_77, k91_78, Option.toList_some, Option.toList_none, List.cons_append, List.nil_append, nl_i, nl_r, nl_l, nl_n, nI_leI, e0, ↓reduceIte, nI_clamp, bnd, ly_11, Nat.reduceLT, true_and, and_true, e11 s hs, henc2]
          by_cases q2 : slb (hnd (cc σ.1)) s = b
          · rw [if_neg (fun w => w q2)]
            simp (disch := omega) only [k91_81, k91_82, k91_84, k91_85, k91_88, k91_89, k91_91, k91_92, k91_95, Option.toList_some, Option.toList_none, List.cons_append, List.nil_append, nl_i, nl_r, nl_l, nl_n, q112 h1 hS hs rfl (inT_b hb.2), q112 h1 hS hs t00 bd0, nIeq]
            by_cases q3 : gW σ s x1.toInt = gW σ s 0
            · rw [if_neg (fun w => w.2 q3)] at ih
              rw [if_pos q3]
              simp (disch := omega) only [k91_101, k91_104, Option.toList_some, Option.toList_none, List.cons_append, List.nil_append, nl_i, nl_r, nl_l, nl_n, nI_add]
              exact ih
            · rw [if_pos ⟨q2, q3⟩] at ih
              rw [if_neg q3]
              simp (disch := omega) only [k91_98, k91_101, k91_104, Option.toList_some, Option.toList_none, List.cons_append, List.nil_append, nl_i, nl_r, nl_l, nl_n, nI_add]
              exact ih
          · rw [if_neg (fun w => q2 w.1)] at ih
            rw [if_pos q2]
            simp (disch := omega) only [k91_101, k91_104, Option.toList_some, Option.toList_none, List.cons_append, List.nil_append, nl_i, nl_r, nl_l, nl_n, nI_add]
            exact ih
      · rw [if_pos (Or.inr q), en91]
        simp (disch := omega) only [k91_0, k91_1, k91_4, k91_7, k91_8, k91_11, k91_14, k91_15, k91_18, k91_21, k91_23, k91_24, k91_25, k91_28, k91_29, k91_32, k91_35, k91_36, k91_39, k91_40, k91_43_5, k91_43_17, k91_46, k91_47, k91_48, k91_49, k91_52, k91_54, k91_55, k91_56, k91_57, k91_58, k91_62, k91_64, k91_67, k91_68, k91_71_5, k91_71_17, k91_74, k91_76, k91_77, k91_78, k91_81, k91_82, k91_84, k91_85, k91_88, k91_89, k91_91, k91_92, k91_95, k91_98, k91_101, k91_104, k91_107, k91_108, Option.toList_some, Option.toList_none, List.cons_append, List.nil_append, nl_i, nl_r, nl_l, nl_n, c117, hb.1, hx1, hx2, bI_0, Bool.true_eq_false, not_false_eq_true, not_true_eq_false, ↓reduceIte, hcal, nI_clamp, bnd, ly_10, Nat.reduceLT, true_and, and_true, e39, q1, e10, henc, q]
    · rw [if_pos (Or.inl q1), en91]
      simp (disch := omega) only [k91_0, k91_1, k91_4, k91_7, k91_8, k91_11, k91_14, k91_15, k91_18, k91_21, k91_23, k91_24, k91_25, k91_28, k91_29, k91_32, k91_35, k91_36, k91_39, k91_40, k91_43_5, k91_43_17, k91_46, k91_47, k91_48, k91_49, k91_52, k91_54, k91_55, k91_56, k91_57, k91_58, k91_62, k91_64, k91_67, k91_68, k91_71_5, k91_71_17, k91_74, k91_76, k91_77, k91_78, k91_81, k91_82, k91_84, k91_85, k91_88, k91_89, k91_91, k91_92, k91_95, k91_98, k91_101, k91_104, k91_107, k91_108, Option.toList_some, Option.toList_none, List.cons_append, List.nil_append, nl_i, nl_r, nl_l, nl_n, c117, hb.1, hx1, hx2, bI_0, Bool.true_eq_false, not_false_eq_true, not_true_eq_false, ↓reduceIte, hcal, e39, q1]
  · refine ⟨I, J, ⟨hR, CF_refl⟩, fun Q => ?_⟩
    rw [en91, show aMisses σ x x1 = _ from if_neg hb]
    cases q1 : inr x 4
    · simp only [k91_0, k91_1, k91_4, k91_7, k91_8, k91_11, k91_14, k91_15, k91_18, k91_21, k91_23, k91_24, k91_25, k91_28, k91_29, k91_32, k91_35, k91_36, k91_39, k91_40, k91_43_5, k91_43_17, k91_46, k91_47, k91_48, k91_49, k91_52, k91_54, k91_55, k91_56, k91_57, k91_58, k91_62, k91_64, k91_67, k91_68, k91_71_5, k91_71_17, k91_74, k91_76, k91_77, k91_78, k91_81, k91_82, k91_84, k91_85, k91_88, k91_89, k91_91, k91_92, k91_95, k91_98, k91_101, k91_104, k91_107, k91_108, Option.toList_some, Option.toList_none, List.cons_append, List.nil_append, nl_i, nl_r, nl_l, nl_n, c117, q1, bI_0, ↓reduceIte]
    · by_cases hx1 : x1 < -1000
      · simp only [k91_0, k91_1, k91_4, k91_7, k91_8, k91_11, k91_14, k91_15, k91_18, k91_21, k91_23, k91_24, k91_25, k91_28, k91_29, k91_32, k91_35, k91_36, k91_39, k91_40, k91_43_5, k91_43_17, k91_46, k91_47, k91_48, k91_49, k91_52, k91_54, k91_55, k91_56, k91_57, k91_58, k91_62, k91_64, k91_67, k91_68, k91_71_5, k91_71_17, k91_74, k91_76, k91_77, k91_78, k91_81, k91_82, k91_84, k91_85, k91_88, k91_89, k91_91, k91_92, k91_95, k91_98, k91_101, k91_104, k91_107, k91_108, Option.toList_some, Option.toList_none, List.cons_append, List.nil_append, nl_i, nl_r, nl_l, nl_n, c117, q1, bI_0, Bool.true_eq_false, hx1, ↓reduceIte]
      · by_cases hx2 : x1 ≤ nI 1000
        · exact absurd ⟨q1, inT_c.mpr ⟨hx1, hx2⟩⟩ hb
        · simp only [k91_0, k91_1, k91_4, k91_7, k91_8, k91_11, k91_14, k91_15, k91_18, k91_21, k91_23, k91_24, k91_25, k91_28, k91_29, k91_32, k91_35, k91_36, k91_39, k91_40, k91_43_5, k91_43_17, k91_46, k91_47, k91_48, k91_49, k91_52, k91_54, k91_55, k91_56, k91_57, k91_58, k91_62, k91_64, k91_67, k91_68, k91_71_5, k91_71_17, k91_74, k91_76, k91_77, k91_78, k91_81, k91_82, k91_84, k91_85, k91_88, k91_89, k91_91, k91_92, k91_95, k91_98, k91_101, k91_104, k91_107, k91_108, Option.toList_some, Option.toList_none, List.cons_append, List.nil_append, nl_i, nl_r, nl_l, nl_n, c117, q1, bI_0, Bool.true_eq_false, hx1, hx2, ↓reduceIte]
theorem inT_r : (decide ((-1000 : Int32).toInt ≤ x.toInt) && decide (x.toInt ≤ (nI 1000).toInt)) = inT x := by rw [nI_toInt (by decide), show (-1000 : Int32).toInt = -1000 by decide]; rfl
set_option maxRecDepth 100000 in
theorem r169 (hR : RR σ I) : ∃ I' J', (RR σ I' ∧ QF I J I' J') ∧ ∀ Q : Option Value → ab_I → ab_J → Prop, Cal 169 [.ref 49, .int x, .int x1] I J Q ↔ Q (some (.int (aMisses σ x x1))) I' J' := by
  by_cases hb : inr x 4 = true ∧ inT x1 = true
  · obtain ⟨b, hbl, rfl⟩ := inr_nI hb.1
    obtain ⟨I1, ⟨h1, h3⟩, hcal⟩ := st138 (J := J) hR
    obtain ⟨I2, ⟨⟨g1, g2, g3⟩, f1⟩, hcal2⟩ := r163 (J := J) h1.1
    have h2 := RL_163 h1 g1 f1
    have hM := cc_MK hR.1.1
    have hshow : aMisses σ (nI b) x1 = if (prs σ.2.2.1.1 σ.2.2.1.2).2.2.2 ≠ -1 ∨ lb (hnd (cc σ.1)) b ≠ b then -3 else nI (msN σ b x1.toInt 12) := by rw [show aMisses σ (nI b) x1 = _ from if_pos hb, tN_nI (by omega)]
    rw [hshow]
    by_cases q1 : (prs σ.2.2.1.1 σ.2.2.1.2).2.2.2 = -1
    · by_cases q : lb (hnd (cc σ.1)) b = b
      · obtain ⟨a', J', K, ov, hz, wz, ⟨hW, hj⟩, hcal3⟩ := wk146 (J := J) h2.2 hM hbl q
        obtain ⟨p1, p2, p3⟩ := wk_pos hW
        obtain ⟨k1, k2⟩ := RL_58 (a' := a') h2 hj
        have g3' : RLOK (prs σ.2.2.1.1 σ.2.2.1.2) (va_up I2 58 a') := by
          obtain ⟨z1, z2, z3⟩ := g3
          refine ⟨z1, ?_, ?_⟩
          · rw [up_ne _ _ (by omega)]; exact z2
          · rw [up_ne _ _ (by omega), up_ne _ _ (by omega)]; exact z3
        refine ⟨_, J', ⟨RL_RR k1, QF_trans h3 (QF_trans g2 k2)⟩, fun Q => Cal_of (fun Q hQ => ?_)⟩
        rw [if_neg (by rintro (w | w); exact w q1; exact w q)] at hQ
        rw [en169]
        simp (disch := omega) only [k169_0, k169_1, k169_4, k169_7, k169_8, k169_11, k169_14, k169_17, k169_23, k169_24, k169_27, k169_28, k169_31, k169_32, k169_35, k169_36, k169_37, k169_40, k169_46, k169_47, k169_48, k169_51, k169_52, k169_53, k169_54, Option.toList_some, Option.toList_none, List.cons_append, List.nil_append, nl_i, nl_r, nl_l, nl_n, c132, c126, inT_r, hb.1, hb.2, bI_0, Bool.true_eq_false, not_false_eq_true, not_true_eq_false, ↓reduceIte, hcal, hcal2, q1, r154 h2.2 hbl, q, decide_true, hcal3]
        refine loop_dn (N := 12) (P := fun s => At 169 56 [some (.ref 49), some (.int (nI b)), some (.int x1), some (.int (nI (msN σ b x1.toInt s))), some (.int (nI s))] [] (va_up I2 58 a') J' Q) ?_ ?_
        · rw [k169_56]
          simp (disch := omega) only [k169_58, k169_60, k169_123, k169_124, nI_leI, Nat.le_refl, ↓reduceIte]
          exact hQ
        · intro s hs ih
          have e0 : ¬ 12 ≤ s := by omega
          have hl := msN_le σ b x1.toInt s
          have e57 : (va_up I2 58 a') 57 s = enc (slb (hnd (cc σ.1)) s) := by rw [k1.2.2.2 s (by omega), LB_s hs]
          have henc2 : (enc (slb (hnd (cc σ.1)) s) = nI b) = (slb (hnd (cc σ.1)) s = b) := by rw [← enc_lt hbl]; exact enc_eq (slb_le4 _ _) (by omega)
          have l1 : gW σ s x1.toInt ≤ 6 := grd_le g3.2.2
          have l2 : gW σ s 0 ≤ 6 := grd_le g3.2.2
          unfold msN at ih
          rw [k169_56]
          simp (disch := omega) only [k169_58, k169_60, k169_63, k169_64, k169_65, k169_68, k169_70, k169_71, k169_72, Option.toList_some, Option.toList_none, List.cons_append, List.nil_append, nl_i, nl_r, nl_l, nl_n, nI_leI, e0, ↓reduceIte, nI_clamp, bnd, ly_57, Nat.reduceLT, true_and, and_true, e57, henc2]
          by_cases q2 : slb (hnd (cc σ.1)) s = b
          · rw [if_neg (fun w => w q2)]
            obtain ⟨e5, e6⟩ := hW.2.2.2.2.2.2 s hs q2
            have eg : ∀ t, grd (prs σ.2.2.1.1 σ.2.2.1.2) (wz s) (12 * ov) t = gW σ s t := by
              intro t
              unfold gW
              rw [e6, hW.2.2.1, show 12 * (K * ov) = K * (12 * ov) by rw [Int.mul_left_comm], grd_K hW.1]
            simp (disch := omega) only [k169_75, k169_76, k169_77, k169_80, k169_82, k169_83, k169_84, k169_87, k169_88, k169_91, k169_92, k169_93, k169_96, k169_98, k169_99, k169_100, k169_103, k169_104, k169_107, Option.toList_some, Option.toList_none, List.cons_append, List.nil_append, nl_i, nl_r, nl_l, nl_n, nI_clamp, bnd, ly_63, Nat.reduceLT, true_and, and_true, e5, hW.2.2.2.1, c165 g3' (bd_K (wr_bd hM hs) e6 hW.1) (bd_le p3 (show 15116544 ≤ 54419558400 by decide)) (by decide) t00 bd0, c165 g3' (bd_K (wr_bd hM hs) e6 hW.1) (bd_le p3 (show 15116544 ≤ 54419558400 by decide)) (by decide) rfl (inT_b hb.2), eg, nIeq]
            by_cases q3 : gW σ s x1.toInt = gW σ s 0
            · rw [if_neg (fun w => w.2 q3)] at ih
              rw [if_pos q3.symm]
              simp (disch := omega) only [k169_114, k169_115, k169_116, k169_117, k169_120, Option.toList_some, Option.toList_none, List.cons_append, List.nil_append, nl_i, nl_r, nl_l, nl_n, nI_add]
              exact ih
            · rw [if_pos ⟨q2, q3⟩] at ih
              rw [if_neg (fun w => q3 w.symm)]
              simp (disch := omega) only [k169_110, k169_111, k169_115, k169_116, k169_117, k169_120, Option.toList_some, Option.toList_none, List.cons_append, List.nil_append, nl_i, nl_r, nl_l, nl_n, nI_add]
              exact ih
          · rw [if_neg (fun w => q2 w.1)] at ih
            rw [if_pos q2]
            simp (disch := omega) only [k169_114, k169_115, k169_116, k169_117, k169_120, Option.toList_some, Option.toList_none, List.cons_append, List.nil_append, nl_i, nl_r, nl_l, nl_n, nI_add]
            exact ih
      · refine ⟨I2, J, ⟨RL_RR h2, QF_trans h3 g2⟩, fun Q => ?_⟩
        rw [if_pos (Or.inr q), en169]
        simp (disch := omega) only [k169_0, k169_1, k169_4, k169_7, k169_8, k169_11, k169_14, k169_17, k169_20, k169_22, k169_23, k169_24, k169_27, k169_28, k169_31, k169_32, k169_35, k169_36, k169_37, k169_40, k169_43, k169_45, k169_46, k169_47, k169_48, k169_51, k169_52, k169_53, k169_54, k169_58, k169_60, k169_63, k169_64, k169_65, k169_68, k169_70, k169_71, k169_72, k169_75, k169_76, k169_77, k169_80, k169_82, k169_83, k169_84, k169_87, k169_88, k169_91, k169_92, k169_93, k169_96, k169_98, k169_99, k169_100, k169_103, k169_104, k169_107, k169_110, k169_111, k169_114, k169_115, k169_116, k169_117, k169_120, k169_123, k169_124, Option.toList_some, Option.toList_none, List.cons_append, List.nil_append, nl_i, nl_r, nl_l, nl_n, c132, c126, inT_r, hb.1, hb.2, bI_0, Bool.true_eq_false, not_false_eq_true, not_true_eq_false, ↓reduceIte, hcal, hcal2, q1, r154 h2.2 hbl, q, decide_false]
    · refine ⟨I2, J, ⟨RL_RR h2, QF_trans h3 g2⟩, fun Q => ?_⟩
      rw [if_pos (Or.inl q1), en169]
      simp (disch := omega) only [k169_0, k169_1, k169_4, k169_7, k169_8, k169_11, k169_14, k169_17, k169_20, k169_22, k169_23, k169_24, k169_27, k169_28, k169_31, k169_32, k169_35, k169_36, k169_37, k169_40, k169_43, k169_45, k169_46, k169_47, k169_48, k169_51, k169_52, k169_53, k169_54, k169_58, k169_60, k169_63, k169_64, k169_65, k169_68, k169_70, k169_71, k169_72, k169_75, k169_76, k169_77, k169_80, k169_82, k169_83, k169_84, k169_87, k169_88, k169_91, k169_92, k169_93, k169_96, k169_98, k169_99, k169_100, k169_103, k169_104, k169_107, k169_110, k169_111, k169_114, k169_115, k169_116, k169_117, k169_120, k169_123, k169_124, Option.toList_some, Option.toList_none, List.cons_append, List.nil_append, nl_i, nl_r, nl_l, nl_n, c132, c126, inT_r, hb.1, hb.2, bI_0, Bool.true_eq_false, not_false_eq_true, not_true_eq_false, ↓reduceIte, hcal, hcal2, q1]
  · refine ⟨I, J, ⟨hR, QF_refl⟩, fun Q => ?_⟩
    rw [en169, show aMisses σ x x1 = _ from if_neg hb]
    cases q1 : inr x 4
    · simp only [k169_0, k169_1, k169_4, k169_7, k169_8, k169_11, k169_14, k169_17, k169_20, k169_22, k169_23, k169_24, k169_27, k169_28, k169_31, k169_32, k169_35, k169_36, k169_37, k169_40, k169_43, k169_45, k169_46, k169_47, k169_48, k169_51, k169_52, k169_53, k169_54, k169_58, k169_60, k169_63, k169_64, k169_65, k169_68, k169_70, k169_71, k169_72, k169_75, k169_76, k169_77, k169_80, k169_82, k169_83, k169_84, k169_87, k169_88, k169_91, k169_92, k169_93, k169_96, k169_98, k169_99, k169_100, k169_103, k169_104, k169_107, k169_110, k169_111, k169_114, k169_115, k169_116, k169_117, k169_120, k169_123, k169_124, Option.toList_some, Option.toList_none, List.cons_append, List.nil_append, nl_i, nl_r, nl_l, nl_n, c132, q1, bI_0, ↓reduceIte]
    · cases q2 : inT x1
      · simp only [k169_0, k169_1, k169_4, k169_7, k169_8, k169_11, k169_14, k169_17, k169_20, k169_22, k169_23, k169_24, k169_27, k169_28, k169_31, k169_32, k169_35, k169_36, k169_37, k169_40, k169_43, k169_45, k169_46, k169_47, k169_48, k169_51, k169_52, k169_53, k169_54, k169_58, k169_60, k169_63, k169_64, k169_65, k169_68, k169_70, k169_71, k169_72, k169_75, k169_76, k169_77, k169_80, k169_82, k169_83, k169_84, k169_87, k169_88, k169_91, k169_92, k169_93, k169_96, k169_98, k169_99, k169_100, k169_103, k169_104, k169_107, k169_110, k169_111, k169_114, k169_115, k169_116, k169_117, k169_120, k169_123, k169_124, Option.toList_some, Option.toList_none, List.cons_append, List.nil_append, nl_i, nl_r, nl_l, nl_n, c132, c126, inT_r, q1, q2, bI_0, Bool.true_eq_false, not_true_eq_false, ↓reduceIte]
      · exact absurd ⟨q1, q2⟩ hb
end GRADE
