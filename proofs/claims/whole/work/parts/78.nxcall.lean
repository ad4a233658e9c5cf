/-! CALLS: next -/
section NXC
variable {I : ab_I} {J : ab_J} {Q : Option Value → ab_I → ab_J → Prop} {σ : PS} {x x1 x2 x3 x4 : Int32}
set_option maxRecDepth 100000 in
theorem q64 {c : Nat → Int32} {k : Nat} (hT : TieOK 5 c I J) (hk : k < 48) : Cal 64 [.ref 5, .int (nI k)] I J Q ↔ Q (some (.int (bI (opC c k)))) I J := by
  have e6 : I 6 = c := hT.1
  have e7 : ∀ s, s < 12 → I 7 s = nI (hnd c s) := hT.2.1
  have e10 : I 10 (k % 4) = _ := hT.2.2.2.2.1 (k % 4) (by omega)
  have e11 : I 11 (k / 4) = _ := hT.2.2.2.2.2.1 (k / 4) (by omega)
  have n4 : ¬ nI 4 = 0 := by decide
  have s4 := slb_le4 (hnd c) (k / 4)
  have m4 := lb_le4 (hnd c) (k % 4)
  refine Cal_of (fun Q hQ => ?_)
  rw [en64]
  simp (disch := omega) only [k64_0, k64_1, k64_2, k64_3, k64_4, k64_5_5, k64_8, k64_9, k64_10, k64_11, k64_12_5, k64_15, k64_16, k64_17, k64_18, Option.toList_some, Option.toList_none, List.cons_append, List.nil_append, nl_i, nl_r, nl_l, nl_n, n4, not_false_eq_true, true_and, and_true, div4, nI_clamp, bnd, ly_11, ly_6, Nat.reduceLT, e11, e6]
  unfold opC at hQ
  by_cases q1 : c k = -1
  · rw [if_neg (fun w => w q1)]
    simp (disch := omega) only [k64_21, k64_22, k64_23, Option.toList_some, Option.toList_none, List.cons_append, List.nil_append, nl_i, nl_r, nl_l, nl_n, enc_m1]
    by_cases q2 : slb (hnd c) (k / 4) = 4
    · have qo : opR c k = false := by
        cases w : opR c k with
        | false => rfl
        | true => exact absurd q2 (opR_t.mp w).2.1
      rw [qo, Bool.false_and] at hQ
      rw [if_pos q2]
      simp (disch := omega) only [k64_38, k64_39, z00, true_and]
      exact hQ
    · rw [if_neg q2]
      simp (disch := omega) only [k64_26, k64_27, k64_28_5, k64_31, k64_32, k64_33, k64_34, k64_35, Option.toList_some, Option.toList_none, List.cons_append, List.nil_append, nl_i, nl_r, nl_l, nl_n, n4, not_false_eq_true, true_and, and_true, rem4, nI_clamp, bnd, ly_10, Nat.reduceLT, e10, enc_eq]
      by_cases q3 : slb (hnd c) (k / 4) = lb (hnd c) (k % 4)
      · rw [if_pos q3]
        have qo : opR c k = true := opR_t.mpr ⟨q1, q2, q3⟩
        rw [qo, Bool.true_and] at hQ
        simp (disch := omega) only [k64_40, k64_41, Option.toList_some, Option.toList_none, List.cons_append, List.nil_append, nl_i, nl_r, nl_l, nl_n]
        have key : ∀ d s, s + d = k / 4 → (∀ t, t < s → hnd c t ≠ hnd c (k / 4)) → At 64 43 [some (.ref 5), some (.int (nI k)), some (.int (nI (k / 4))), some (.int (enc (slb (hnd c) (k / 4)))), some (.int (nI s))] [] I J Q := by
          intro d
          induction d with
          | zero =>
            intro s hs hp
            have e0 : k / 4 ≤ s := by omega
            rw [decide_eq_true (fun t ht => hp t (by omega))] at hQ
            rw [k64_43]
            simp (disch := omega) only [k64_45, k64_46, k64_73, k64_74, nI_leI, e0, ↓reduceIte, z10, true_and]
            exact hQ
          | succ d ih =>
            intro s hs hp
            have e0 : ¬ k / 4 ≤ s := by omega
            have l1 := hnd_lt c s
            have l2 := hnd_lt c (k / 4)
            rw [k64_43]
            simp (disch := omega) only [k64_45, k64_46, k64_49, k64_50_5, k64_53, k64_55, k64_56, k64_57_5, k64_60, k64_61, k64_62, Option.toList_some, Option.toList_none, List.cons_append, List.nil_append, nl_i, nl_r, nl_l, nl_n, nI_leI, e0, ↓reduceIte, nI_clamp, bnd, ly_7, Nat.reduceLT, true_and, and_true, e7 s (by omega), e7 (k / 4) (by omega), nIeq]
            by_cases q4 : hnd c s = hnd c (k / 4)
            · rw [decide_eq_false (fun w => w s (by omega) q4)] at hQ
              rw [if_neg (fun w => w q4)]
              simp (disch := omega) only [k64_65, k64_66, z00, true_and]
              exact hQ
            · rw [if_pos q4]
              simp (disch := omega) only [k64_67, k64_70, Option.toList_some, Option.toList_none, List.cons_append, List.nil_append, nl_i, nl_r, nl_l, nl_n, nI_add]
              refine ih (s + 1) (by omega) (fun t ht => ?_)
              by_cases e : t = s
              · subst e; exact q4
              · exact hp t (by omega)
        exact key (k / 4) 0 (by omega) (fun t ht => by omega)
      · have qo : opR c k = false := by
          cases w : opR c k with
          | false => rfl
          | true => exact absurd (opR_t.mp w).2.2 q3
        rw [qo, Bool.false_and] at hQ
        rw [if_neg q3]
        simp (disch := omega) only [k64_38, k64_39, z00, true_and]
        exact hQ
  · have qo : opR c k = false := by
      cases w : opR c k with
      | false => rfl
      | true => exact absurd (opR_t.mp w).1 q1
    rw [qo, Bool.false_and] at hQ
    rw [if_pos q1]
    simp (disch := omega) only [k64_38, k64_39, z00, true_and]
    exact hQ
set_option maxRecDepth 100000 in
theorem q65 {c : Nat → Int32} {k b : Nat} (hw : J 17 13 = zL (Wk c k)) (hb : J 17 11 = zL (whC (va_up c k 0))) (h1 : I 29 1 = e48 b) (hb48 : b ≤ 48) (h2 : b ≠ 48 → J 29 2 = zL (Wk c b) ∧ J 29 3 = zL (Bk c b)) : Cal 65 [.ref 29, .int (nI k), .ref 17] I J Q ↔ if b = 48 ∨ Wk c k * Bk c b < Wk c b * Bk c k then Q none (va_up I 29 (va_up (I 29) 1 (nI k))) (va_up J 29 (va_up (va_up (J 29) 2 (zL (Wk c k))) 3 (zL (Bk c k)))) else Q none I J := by
  have e12 : (12 : Int64) * J 17 11 = zL (Bk c k) := by rw [hb, zL_12, zL_mul]; rfl
  rw [en65]
  by_cases q : b = 48
  · rw [if_pos (Or.inl q)]
    simp (disch := omega) only [k65_0, k65_1, k65_4, k65_5, k65_8, k65_9_5, k65_9_17, k65_12, k65_13, k65_16, k65_17, k65_18, k65_21, k65_22_5, k65_22_17, k65_25, k65_26, k65_27, k65_30, k65_31, k65_32, k65_35, k65_36, k65_37_5, k65_37_17, k65_40, k65_43, k65_44, k65_45_5, k65_45_17, k65_48, k65_51, Option.toList_some, Option.toList_none, List.cons_append, List.nil_append, nl_i, nl_r, nl_l, nl_n, h1, e48_48, q, ↓reduceIte, hw, c15_17, e12, va_up_s, up_same, up_ne]
  · obtain ⟨g1, g2⟩ := h2 q
    have o1 : ok (Wk c k * Bk c b) := bd_ok (bd_mul (Wk_bd c k) (Bk_bd c b)) (by decide)
    have o2 : ok (Wk c b * Bk c k) := bd_ok (bd_mul (Wk_bd c b) (Bk_bd c k)) (by decide)
    simp (disch := omega) only [k65_0, k65_1, k65_4, k65_5, k65_8, k65_9_5, k65_9_17, k65_12, k65_13, k65_16, k65_17, k65_18, k65_21, k65_22_5, k65_22_17, k65_25, k65_26, k65_27, k65_30, k65_31, k65_32, k65_35, k65_36, k65_37_5, k65_37_17, k65_40, k65_43, k65_44, k65_45_5, k65_45_17, k65_48, k65_51, Option.toList_some, Option.toList_none, List.cons_append, List.nil_append, nl_i, nl_r, nl_l, nl_n, h1, e48_m1 hb48, q, ↓reduceIte, hw, g1, g2, c15_17, e12, zL_mul, lg_cmp_ge, zL_le o2 o1, va_up_s, up_same, up_ne, false_or]
    by_cases q2 : Wk c b * Bk c k ≤ Wk c k * Bk c b
    · rw [if_pos q2, if_neg (by omega)]
    · rw [if_neg q2, if_pos (by omega)]
/-- the step is known -/
theorem st63 (hR : RC σ I J) (hS : SetOK (cc σ.1) (oo σ.1) I J) : ∃ I' J', (RC σ I' J' ∧ SetOK (cc σ.1) (oo σ.1) I' J' ∧ CF I J I' J' ∧ I' 29 1 = e48 (nxC (cc σ.1)) ∧ (nxC (cc σ.1) ≠ 48 → J' 29 2 = zL (Wk (cc σ.1) (nxC (cc σ.1))) ∧ J' 29 3 = zL (Bk (cc σ.1) (nxC (cc σ.1))))) ∧ ∀ Q : Option Value → ab_I → ab_J → Prop, Cal 63 [.ref 29, .ref 5, .ref 17] I J Q ↔ Q none I' J' := by
  obtain ⟨s0, sT, sW, s47, sw, sS⟩ := id hS
  rcases sS with sS | ⟨k1, sS⟩
  · have hc48 : ∀ j, 48 ≤ j → cc σ.1 j = 0 := fun j hj => (cc_out hR.1.1 hj).1
    have main : ∀ Q : Option Value → ab_I → ab_J → Prop, (∀ v I' J', ((∀ j, ¬ (17 ≤ j ∧ j ≤ 29) → I' j = I j ∧ J' j = J j) ∧ (∀ j, 48 ≤ j → I' 18 j = 0) ∧ I' 29 0 = nI 1 ∧ I' 29 1 = e48 (bst (opC (cc σ.1)) (Wk (cc σ.1)) (Bk (cc σ.1)) 48) ∧ (bst (opC (cc σ.1)) (Wk (cc σ.1)) (Bk (cc σ.1)) 48 ≠ 48 → J' 29 2 = zL (Wk (cc σ.1) (bst (opC (cc σ.1)) (Wk (cc σ.1)) (Bk (cc σ.1)) 48)) ∧ J' 29 3 = zL (Bk (cc σ.1) (bst (opC (cc σ.1)) (Wk (cc σ.1)) (Bk (cc σ.1)) 48)))) ∧ v = none → Q v I' J') → Cal 63 [.ref 29, .ref 5, .ref 17] I J Q := by
      intro Q hQ
      rw [en63]
      simp (disch := omega) only [k63_0, k63_1, k63_4, k63_8, k63_9, k63_10v1, k63_13, k63_14, k63_15, k63_18, k63_19, Option.toList_some, Option.toList_none, List.cons_append, List.nil_append, nl_i, nl_r, nl_l, nl_n, sS, eq0, ↓reduceIte, va_up_s, up_same]
      have outer : ∀ I1 J1, ((∀ j, ¬ (17 ≤ j ∧ j ≤ 29) → I1 j = I j ∧ J1 j = J j) ∧ (∀ j, 48 ≤ j → I1 18 j = 0) ∧ I1 29 0 = nI 1 ∧ I1 29 1 = e48 (bst (opC (cc σ.1)) (Wk (cc σ.1)) (Bk (cc σ.1)) 0) ∧ (bst (opC (cc σ.1)) (Wk (cc σ.1)) (Bk (cc σ.1)) 0 ≠ 48 → J1 29 2 = zL (Wk (cc σ.1) (bst (opC (cc σ.1)) (Wk (cc σ.1)) (Bk (cc σ.1)) 0)) ∧ J1 29 3 = zL (Bk (cc σ.1) (bst (opC (cc σ.1)) (Wk (cc σ.1)) (Bk (cc σ.1)) 0)))) → At 63 20 [some (.ref 29), some (.ref 5), some (.ref 17), some (.int (nI 0))] [] I1 J1 Q := by
        refine loop_ij (N := 48) (P := fun k I1 J1 => At 63 20 [some (.ref 29), some (.ref 5), some (.ref 17), some (.int (nI k))] [] I1 J1 Q) (G := fun k I1 J1 => (∀ j, ¬ (17 ≤ j ∧ j ≤ 29) → I1 j = I j ∧ J1 j = J j) ∧ (∀ j, 48 ≤ j → I1 18 j = 0) ∧ I1 29 0 = nI 1 ∧ I1 29 1 = e48 (bst (opC (cc σ.1)) (Wk (cc σ.1)) (Bk (cc σ.1)) k) ∧ (bst (opC (cc σ.1)) (Wk (cc σ.1)) (Bk (cc σ.1)) k ≠ 48 → J1 29 2 = zL (Wk (cc σ.1) (bst (opC (cc σ.1)) (Wk (cc σ.1)) (Bk (cc σ.1)) k)) ∧ J1 29 3 = zL (Bk (cc σ.1) (bst (opC (cc σ.1)) (Wk (cc σ.1)) (Bk (cc σ.1)) k)))) ?_ ?_
        · intro I1 J1 hG
          rw [k63_20]
          simp (disch := omega) only [k63_21, k63_23, k63_57, nI_leI, Nat.le_refl, ↓reduceIte]
          exact hQ _ _ _ ⟨hG, rfl⟩
        · intro k I1 J1 hk hG ih
          obtain ⟨g1, g2, g3, g4, g5⟩ := hG
          have e0 : ¬ 48 ≤ k := by omega
          have eI : ∀ j, j < 17 → I1 j = I j := fun j hj => (g1 j (by omega)).1
          have eJ : ∀ j, j < 17 → J1 j = J j := fun j hj => (g1 j (by omega)).2
          have sT1 : TieOK 5 (cc σ.1) I1 J1 := by
            unfold TieOK at sT ⊢
            rw [eI (5 + 1) (by omega), eI (5 + 2) (by omega), eJ (5 + 3) (by omega), eI (5 + 4) (by omega), eI (5 + 5) (by omega), eI (5 + 6) (by omega), eI 5 (by omega), eJ (5 + 8) (by omega), eJ 5 (by omega)]
            exact sT
          have bl := (bst_le (op := opC (cc σ.1)) (W := Wk (cc σ.1)) (B := Bk (cc σ.1)) k (by omega)).1
          rw [k63_20]
          simp (disch := omega) only [k63_21, k63_23, k63_26, k63_27, k63_28, Option.toList_some, Option.toList_none, List.cons_append, List.nil_append, nl_i, nl_r, nl_l, nl_n, nI_leI, e0, ↓reduceIte, q64 sT1 hk]
          cases q : opC (cc σ.1) k with
          | false =>
            simp (disch := omega) only [k63_31, k63_51, k63_54, Option.toList_some, Option.toList_none, List.cons_append, List.nil_append, nl_i, nl_r, nl_l, nl_n, bI_0, ↓reduceIte, nI_add]
            refine ih I1 J1 ⟨g1, g2, g3, ?_, ?_⟩
            · unfold bst; rw [if_neg (fun w => by rw [q] at w; cases w.1)]; exact g4
            · unfold bst; rw [if_neg (fun w => by rw [q] at w; cases w.1)]; exact g5
          | true =>
            have e6 : I1 6 = cc σ.1 := sT1.1
            have ec : fll (va_up (I1 6) k (nI 0)) (I1 18) 48 = va_up (cc σ.1) k 0 := by
              funext j
              unfold fll
              by_cases w : j < 48
              · rw [if_pos w, e6]; rfl
              · rw [if_neg w, va_up_n _ _ (by omega), g2 j (by omega), hc48 j (by omega)]
            have c16 : ∀ Q : Option Value → ab_I → ab_J → Prop, Cal 16 [.ref 17, .ref 5, .int (nI k), .int (nI 0)] I1 J1 Q ↔ Q none (tiI 17 (va_up (cc σ.1) k 0) (va_up I1 18 (va_up (cc σ.1) k 0))) (tiJ 17 (va_up (cc σ.1) k 0) J1) := by
              intro Q
              have := c16_17 (I := I1) (J := J1) (Q := Q) (x := nI 0) hk
              rw [ec] at this
              exact this
            have hT2 := tie_ok (B := 17) (c := va_up (cc σ.1) k 0) (I := va_up I1 18 (va_up (cc σ.1) k 0)) (J := J1) (va_up_s _ _ _)
            generalize hI2 : tiI 17 (va_up (cc σ.1) k 0) (va_up I1 18 (va_up (cc σ.1) k 0)) = I2 at *
            generalize hJ2 : tiJ 17 (va_up (cc σ.1) k 0) J1 = J2 at *
            have f16 : I2 17 16 = nI 0 := by rw [← hI2]; unfold tiI; simp (disch := omega) only [up_ne, va_up_s]
            have fI : ∀ j, ¬ (17 ≤ j ∧ j ≤ 28) → I2 j = I1 j := by intro j hj; rw [← hI2]; unfold tiI; simp (disch := omega) only [up_ne]
            have fJ : ∀ j, ¬ (17 ≤ j ∧ j ≤ 28) → J2 j = J1 j := by intro j hj; rw [← hJ2]; unfold tiJ; simp (disch := omega) only [up_ne]
            have f18 : I2 18 = va_up (cc σ.1) k 0 := hT2.1
            have f11 : J2 17 11 = zL (whC (va_up (cc σ.1) k 0)) := hT2.2.2.2.2.2.2.2.2
            simp (disch := omega) only [k63_31, k63_34, k63_35, k63_36, k63_37, k63_38_17, k63_41, k63_42_17, k63_45, k63_46, k63_47, k63_48, Option.toList_some, Option.toList_none, List.cons_append, List.nil_append, nl_i, nl_r, nl_l, nl_n, bI_0, Bool.true_eq_false, ↓reduceIte, c16, d34_17 hT2 f16]
            generalize hI3 : wsI 17 (toZ (wsC (hnd (va_up (cc σ.1) k 0)))) I2 = I3
            generalize hJ3 : wsJ 17 (toZ (wsC (hnd (va_up (cc σ.1) k 0)))) J2 = J3
            have r13 : J3 17 13 = zL (Wk (cc σ.1) k) := by rw [← hJ3]; unfold wsJ; simp (disch := omega) only [va_up_s, toZ_1]; rfl
            have r11 : J3 17 11 = zL (whC (va_up (cc σ.1) k 0)) := by rw [← hJ3]; unfold wsJ; simp (disch := omega) only [up_ne, va_up_s]; exact f11
            have rI : ∀ j, ¬ (17 ≤ j ∧ j ≤ 28) → I3 j = I1 j := by intro j hj; rw [← hI3]; unfold wsI; rw [up_ne _ _ (by omega)]; exact fI j hj
            have rJ : ∀ j, ¬ (17 ≤ j ∧ j ≤ 28) → J3 j = J1 j := by intro j hj; rw [← hJ3]; unfold wsJ; rw [up_ne _ _ (by omega)]; exact fJ j hj
            have r18 : I3 18 = va_up (cc σ.1) k 0 := by rw [← hI3]; unfold wsI; rw [up_ne _ _ (by omega)]; exact f18
            have g4' : I3 29 1 = e48 (bst (opC (cc σ.1)) (Wk (cc σ.1)) (Bk (cc σ.1)) k) := by rw [rI 29 (by omega)]; exact g4
            have g5' : bst (opC (cc σ.1)) (Wk (cc σ.1)) (Bk (cc σ.1)) k ≠ 48 → J3 29 2 = zL (Wk (cc σ.1) (bst (opC (cc σ.1)) (Wk (cc σ.1)) (Bk (cc σ.1)) k)) ∧ J3 29 3 = zL (Bk (cc σ.1) (bst (opC (cc σ.1)) (Wk (cc σ.1)) (Bk (cc σ.1)) k)) := by rw [rJ 29 (by omega)]; exact g5
            rw [q65 r13 r11 g4' bl g5']
            by_cases q2 : bst (opC (cc σ.1)) (Wk (cc σ.1)) (Bk (cc σ.1)) k = 48 ∨ Wk (cc σ.1) k * Bk (cc σ.1) (bst (opC (cc σ.1)) (Wk (cc σ.1)) (Bk (cc σ.1)) k) < Wk (cc σ.1) (bst (opC (cc σ.1)) (Wk (cc σ.1)) (Bk (cc σ.1)) k) * Bk (cc σ.1) k
            · have eb : bst (opC (cc σ.1)) (Wk (cc σ.1)) (Bk (cc σ.1)) (k + 1) = k := by unfold bst; rw [if_pos ⟨q, q2⟩]
              rw [if_pos q2]
              simp (disch := omega) only [k63_51, k63_54, Option.toList_some, Option.toList_none, List.cons_append, List.nil_append, nl_i, nl_r, nl_l, nl_n, nI_add]
              refine ih _ _ ⟨fun j hj => ⟨?_, ?_⟩, fun j hj => ?_, ?_, ?_, ?_⟩
              · rw [up_ne _ _ (by omega), rI j (by omega)]; exact (g1 j hj).1
              · rw [up_ne _ _ (by omega), rJ j (by omega)]; exact (g1 j hj).2
              · rw [up_ne _ _ (by omega), r18, va_up_n _ _ (by omega)]; exact hc48 j hj
              · simp (disch := omega) only [up_ne, va_up_s]; rw [rI 29 (by omega)]; exact g3
              · rw [eb, e48_lt hk]; simp (disch := omega) only [va_up_s]
              · rw [eb]; intro _; exact ⟨by simp (disch := omega) only [up_ne, va_up_s], by simp (disch := omega) only [va_up_s]⟩
            · have eb : bst (opC (cc σ.1)) (Wk (cc σ.1)) (Bk (cc σ.1)) (k + 1) = bst (opC (cc σ.1)) (Wk (cc σ.1)) (Bk (cc σ.1)) k := by
                rw [bst, if_neg (fun w => q2 w.2)]
              rw [if_neg q2]
              simp (disch := omega) only [k63_51, k63_54, Option.toList_some, Option.toList_none, List.cons_append, List.nil_append, nl_i, nl_r, nl_l, nl_n, nI_add]
              refine ih _ _ ⟨fun j hj => ⟨?_, ?_⟩, fun j hj => ?_, ?_, ?_, ?_⟩
              · rw [rI j (by omega)]; exact (g1 j hj).1
              · rw [rJ j (by omega)]; exact (g1 j hj).2
              · rw [r18, va_up_n _ _ (by omega)]; exact hc48 j hj
              · rw [rI 29 (by omega)]; exact g3
              · rw [eb]; exact g4'
              · rw [eb]; exact g5'
      refine outer _ _ ⟨fun j hj => ⟨?_, rfl⟩, fun j hj => ?_, ?_, ?_, fun w => absurd rfl w⟩
      · rw [up_ne _ _ (by omega)]
      · rw [up_ne _ _ (by omega)]; exact (hR.2.1 j hj).2.2
      · simp (disch := omega) only [up_ne, va_up_s]
      · simp (disch := omega) only [va_up_s]; rfl
    obtain ⟨v, I', J', ⟨⟨g1, g2, g3, g4, g5⟩, rfl⟩, hc2⟩ := Cal_ex main
    have eI : ∀ j, ¬ (17 ≤ j ∧ j ≤ 29) → I' j = I j := fun j hj => (g1 j hj).1
    have eJ : ∀ j, ¬ (17 ≤ j ∧ j ≤ 29) → J' j = J j := fun j hj => (g1 j hj).2
    have hf : CF I J I' J' := ⟨fun k hk => eI k (by omega), fun j _ => by rw [eI 0 (by omega)], fun k hk => eJ k (by omega)⟩
    have hst : StOK (cc σ.1) I' J' := by
      refine Or.inr ⟨g3, ?_⟩
      have := (bst_le (op := opC (cc σ.1)) (W := Wk (cc σ.1)) (B := Bk (cc σ.1)) 48 (Nat.le_refl _)).1
      by_cases w : nxC (cc σ.1) = 48
      · exact Or.inl ⟨w, by rw [g4]; show e48 (nxC (cc σ.1)) = -1; rw [w]; rfl⟩
      · have w2 : nxC (cc σ.1) < 48 := by show bst _ _ _ 48 < 48; have : bst (opC (cc σ.1)) (Wk (cc σ.1)) (Bk (cc σ.1)) 48 ≠ 48 := w; omega
        exact Or.inr ⟨w2, by rw [g4]; exact e48_lt w2, (g5 w).1, (g5 w).2⟩
    have hs : SetOK (cc σ.1) (oo σ.1) I' J' := by
      refine ⟨?_, ?_, ?_, ?_, ?_, hst⟩
      · rw [eI 0 (by omega)]; exact s0
      · unfold TieOK at sT ⊢
        rw [eI (5 + 1) (by omega), eI (5 + 2) (by omega), eJ (5 + 3) (by omega), eI (5 + 4) (by omega), eI (5 + 5) (by omega), eI (5 + 6) (by omega), eI 5 (by omega), eJ (5 + 8) (by omega), eJ 5 (by omega)]
        exact sT
      · unfold WeiOK at sW ⊢
        rw [eJ (5 + 10) (by omega), eJ (5 + 11) (by omega)]
        exact sW
      · rw [eI 47 (by omega)]; exact s47
      · unfold WsOK at sw ⊢
        rw [eI 5 (by omega), eJ 5 (by omega)]
        exact sw
    refine ⟨I', J', ⟨⟨CB_cf hR.1 hf, ?_, Or.inr hs⟩, hs, hf, g4, g5⟩, hc2⟩
    intro k hk
    rw [eI 6 (by omega), eI 47 (by omega)]
    exact ⟨(hR.2.1 k hk).1, (hR.2.1 k hk).2.1, g2 k hk⟩
  · have n1 : ¬ nI 1 = 0 := by decide
    refine ⟨I, J, ⟨hR, hS, CF_refl, ?_, fun w => ?_⟩, fun Q => ?_⟩
    · rcases sS with ⟨w1, w2⟩ | ⟨w1, w2, -, -⟩
      · rw [w2, w1]; rfl
      · rw [w2, e48_lt w1]
    · rcases sS with ⟨w1, w2⟩ | ⟨w1, w2, w3, w4⟩
      · exact absurd w1 w
      · exact ⟨w3, w4⟩
    · rw [en63]
      simp (disch := omega) only [k63_0, k63_1, k63_4, k63_7, k1, n1, ↓reduceIte]
set_option maxRecDepth 100000 in
theorem q94 (hR : RC σ I J) : ∃ I' J', (RC σ I' J' ∧ CF I J I' J') ∧ ∀ Q : Option Value → ab_I → ab_J → Prop, Cal 94 [.ref 0, .int x] I J Q ↔ Q (some (.long (aNext (cc σ.1) x))) I' J' := by
  by_cases hb : inr x 4 = true
  · obtain ⟨hx1, hx2⟩ := in3c.mp hb
    obtain ⟨I1, J1, ⟨h1, hS, h3⟩, hcal⟩ := st110 hR
    obtain ⟨I2, J2, ⟨g1, g2, g3, w1, w2⟩, hcal2⟩ := st63 h1 hS
    have nl : nxC (cc σ.1) ≤ 48 := (bst_le (op := opC (cc σ.1)) (W := Wk (cc σ.1)) (B := Bk (cc σ.1)) 48 (Nat.le_refl _)).1
    have n4 : ¬ nI 4 = 0 := by decide
    refine ⟨I2, J2, ⟨g1, CF_trans h3 g3⟩, fun Q => ?_⟩
    rw [en94, show aNext (cc σ.1) x = _ from if_pos hb]
    by_cases q : nxC (cc σ.1) = 48
    · rw [if_pos q]
      simp (disch := omega) only [k94_0, k94_1, k94_4, k94_5, k94_6, k94_9, k94_11, k94_14, k94_15, k94_16, k94_19, k94_20, k94_23, k94_24, k94_27, k94_28, k94_31, k94_34, k94_35, k94_38, k94_41, k94_42, k94_45, k94_47, k94_50, k94_51, k94_52, k94_53, k94_56, k94_57, k94_60, k94_61, k94_64, k94_67, k94_68, k94_69, k94_70, k94_73, k94_74, k94_77, k94_80, k94_81, k94_82, k94_83, k94_84, k94_85, k94_88, k94_91, k94_92, k94_95, k94_98, k94_99, k94_100, k94_101, k94_104, Option.toList_some, Option.toList_none, List.cons_append, List.nil_append, nl_i, nl_r, nl_l, nl_n, c121, hx1, hx2, ↓reduceIte, hcal, hcal2, w1, q, e48_48, not_true_eq_false, nO]
    · rw [if_neg q]
      obtain ⟨v1, v2⟩ := w2 q
      have lt : nxC (cc σ.1) < 48 := by omega
      have em : ¬ nI (nxC (cc σ.1)) = -1 := nI_m1 (by omega)
      have o1 := bd_ok (Wk_bd (cc σ.1) (nxC (cc σ.1))) (by decide)
      have p1 := Bk_pos (cc σ.1) (nxC (cc σ.1))
      have p2 : Bk (cc σ.1) (nxC (cc σ.1)) < 562949953421312 := by have := Bk_bd (cc σ.1) (nxC (cc σ.1)); unfold bd at this; omega
      rcases inr4.mp hb with r | r | r | r <;> subst r
      · have c1 : ¬ nI 2 ≤ nI 0 := by decide
        rw [if_pos rfl]
        simp (disch := omega) only [k94_0, k94_1, k94_4, k94_5, k94_6, k94_9, k94_11, k94_14, k94_15, k94_16, k94_19, k94_20, k94_23, k94_24, k94_27, k94_28, k94_31, k94_34, k94_35, k94_38, k94_41, k94_42, k94_45, k94_47, k94_50, k94_51, k94_52, k94_53, k94_56, k94_57, k94_60, k94_61, k94_64, k94_67, k94_68, k94_69, k94_70, k94_73, k94_74, k94_77, k94_80, k94_81, k94_82, k94_83, k94_84, k94_85, k94_88, k94_91, k94_92, k94_95, k94_98, k94_99, k94_100, k94_101, k94_104, Option.toList_some, Option.toList_none, List.cons_append, List.nil_append, nl_i, nl_r, nl_l, nl_n, c121, hx1, hx2, ↓reduceIte, hcal, hcal2, w1, e48_lt lt, em, not_false_eq_true, not_true_eq_false, c1, n00', n4, true_and, div4]
      · have c1 : ¬ nI 2 ≤ nI 1 := by decide
        rw [if_neg (by decide), if_pos rfl]
        simp (disch := omega) only [k94_0, k94_1, k94_4, k94_5, k94_6, k94_9, k94_11, k94_14, k94_15, k94_16, k94_19, k94_20, k94_23, k94_24, k94_27, k94_28, k94_31, k94_34, k94_35, k94_38, k94_41, k94_42, k94_45, k94_47, k94_50, k94_51, k94_52, k94_53, k94_56, k94_57, k94_60, k94_61, k94_64, k94_67, k94_68, k94_69, k94_70, k94_73, k94_74, k94_77, k94_80, k94_81, k94_82, k94_83, k94_84, k94_85, k94_88, k94_91, k94_92, k94_95, k94_98, k94_99, k94_100, k94_101, k94_104, Option.toList_some, Option.toList_none, List.cons_append, List.nil_append, nl_i, nl_r, nl_l, nl_n, c121, hx1, hx2, ↓reduceIte, hcal, hcal2, w1, e48_lt lt, em, not_false_eq_true, not_true_eq_false, c1, n10', n4, true_and, rem4]
      · have c1 : nI 2 ≤ nI 2 := by decide
        rw [if_neg (by decide), if_neg (by decide), if_pos rfl]
        simp (disch := omega) only [k94_0, k94_1, k94_4, k94_5, k94_6, k94_9, k94_11, k94_14, k94_15, k94_16, k94_19, k94_20, k94_23, k94_24, k94_27, k94_28, k94_31, k94_34, k94_35, k94_38, k94_41, k94_42, k94_45, k94_47, k94_50, k94_51, k94_52, k94_53, k94_56, k94_57, k94_60, k94_61, k94_64, k94_67, k94_68, k94_69, k94_70, k94_73, k94_74, k94_77, k94_80, k94_81, k94_82, k94_83, k94_84, k94_85, k94_88, k94_91, k94_92, k94_95, k94_98, k94_99, k94_100, k94_101, k94_104, Option.toList_some, Option.toList_none, List.cons_append, List.nil_append, nl_i, nl_r, nl_l, nl_n, c121, hx1, hx2, ↓reduceIte, hcal, hcal2, w1, v1, v2, e48_lt lt, em, not_false_eq_true, c1, c122, sdF_low o1 p1 p2]
        rfl
      · have c1 : nI 2 ≤ nI 3 := by decide
        rw [if_neg (by decide), if_neg (by decide), if_neg (by decide)]
        simp (disch := omega) only [k94_0, k94_1, k94_4, k94_5, k94_6, k94_9, k94_11, k94_14, k94_15, k94_16, k94_19, k94_20, k94_23, k94_24, k94_27, k94_28, k94_31, k94_34, k94_35, k94_38, k94_41, k94_42, k94_45, k94_47, k94_50, k94_51, k94_52, k94_53, k94_56, k94_57, k94_60, k94_61, k94_64, k94_67, k94_68, k94_69, k94_70, k94_73, k94_74, k94_77, k94_80, k94_81, k94_82, k94_83, k94_84, k94_85, k94_88, k94_91, k94_92, k94_95, k94_98, k94_99, k94_100, k94_101, k94_104, Option.toList_some, Option.toList_none, List.cons_append, List.nil_append, nl_i, nl_r, nl_l, nl_n, c121, hx1, hx2, ↓reduceIte, hcal, hcal2, w1, v1, v2, e48_lt lt, em, not_false_eq_true, c1, c122, sdF_low o1 p1 p2]
        rfl
  · refine ⟨I, J, ⟨hR, CF_refl⟩, fun Q => ?_⟩
    rw [en94, show aNext (cc σ.1) x = _ from if_neg hb]
    by_cases hx1 : x < 0
    · simp only [k94_0, k94_1, k94_4, k94_5, k94_6, k94_9, k94_11, k94_14, k94_15, k94_16, k94_19, k94_20, k94_23, k94_24, k94_27, k94_28, k94_31, k94_34, k94_35, k94_38, k94_41, k94_42, k94_45, k94_47, k94_50, k94_51, k94_52, k94_53, k94_56, k94_57, k94_60, k94_61, k94_64, k94_67, k94_68, k94_69, k94_70, k94_73, k94_74, k94_77, k94_80, k94_81, k94_82, k94_83, k94_84, k94_85, k94_88, k94_91, k94_92, k94_95, k94_98, k94_99, k94_100, k94_101, k94_104, Option.toList_some, Option.toList_none, List.cons_append, List.nil_append, nl_i, nl_r, nl_l, nl_n, c121, hx1, ↓reduceIte, nO]
    · by_cases hx2 : x ≤ nI 3
      · exact absurd (in3c.mpr ⟨hx1, hx2⟩) hb
      · simp only [k94_0, k94_1, k94_4, k94_5, k94_6, k94_9, k94_11, k94_14, k94_15, k94_16, k94_19, k94_20, k94_23, k94_24, k94_27, k94_28, k94_31, k94_34, k94_35, k94_38, k94_41, k94_42, k94_45, k94_47, k94_50, k94_51, k94_52, k94_53, k94_56, k94_57, k94_60, k94_61, k94_64, k94_67, k94_68, k94_69, k94_70, k94_73, k94_74, k94_77, k94_80, k94_81, k94_82, k94_83, k94_84, k94_85, k94_88, k94_91, k94_92, k94_95, k94_98, k94_99, k94_100, k94_101, k94_104, Option.toList_some, Option.toList_none, List.cons_append, List.nil_append, nl_i, nl_r, nl_l, nl_n, c121, hx1, hx2, ↓reduceIte, nO]
end NXC
