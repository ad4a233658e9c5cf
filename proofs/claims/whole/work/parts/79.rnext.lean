/-! CALLS: the reference's next -/
section RNX
variable {I : ab_I} {J : ab_J} {Q : Option Value → ab_I → ab_J → Prop} {σ : PS} {x x1 x2 x3 x4 : Int32}
set_option maxRecDepth 100000 in
theorem r175 (hR : RR σ I) : ∃ I' J', (RR σ I' ∧ QF I J I' J') ∧ ∀ Q : Option Value → ab_I → ab_J → Prop, Cal 175 [.ref 49, .int x] I J Q ↔ Q (some (.long (aNext (cc σ.1) x))) I' J' := by
  by_cases hb : inr x 4 = true
  · obtain ⟨I0, ⟨h1, h3⟩, hcal⟩ := st138 (J := J) hR
    have n4 : ¬ nI 4 = 0 := by decide
    have enx := nx_eq (cc σ.1)
    have main : ∀ Q : Option Value → ab_I → ab_J → Prop, (∀ v I' J', ((RLd σ I' ∧ QF I J I' J') ∧ v = some (.long (aNext (cc σ.1) x))) → Q v I' J') → Cal 175 [.ref 49, .int x] I J Q := by
      intro Q hQ
      rw [en175]
      simp (disch := omega) only [k175_0, k175_1, k175_2, k175_3, k175_6, k175_15, k175_16, k175_19, k175_20, k175_21, k175_22, k175_23, k175_24, k175_26, k175_27, Option.toList_some, Option.toList_none, List.cons_append, List.nil_append, nl_i, nl_r, nl_l, nl_n, c126, in03, hb, bI_0, Bool.true_eq_false, not_false_eq_true, ↓reduceIte, hcal]
      have outer : ∀ I1 J1, (RLd σ I1 ∧ QF I J I1 J1) → ∀ (bt bb : Int), (bst (opR (cc σ.1)) (Wk (cc σ.1)) (Bk (cc σ.1)) 0 = 48 ∨ (bt = low (Wk (cc σ.1) (bst (opR (cc σ.1)) (Wk (cc σ.1)) (Bk (cc σ.1)) 0)) (Bk (cc σ.1) (bst (opR (cc σ.1)) (Wk (cc σ.1)) (Bk (cc σ.1)) 0)) 0 ∧ bb = low (Wk (cc σ.1) (bst (opR (cc σ.1)) (Wk (cc σ.1)) (Bk (cc σ.1)) 0)) (Bk (cc σ.1) (bst (opR (cc σ.1)) (Wk (cc σ.1)) (Bk (cc σ.1)) 0)) 1)) → At 175 29 [some (.ref 49), some (.int x), some (.int (e48 (bst (opR (cc σ.1)) (Wk (cc σ.1)) (Bk (cc σ.1)) 0))), some (.long (zL bt)), none, some (.long (zL bb)), none, some (.int (nI 0))] [] I1 J1 Q := by
        refine loop_ij (N := 48) (P := fun k I1 J1 => ∀ (bt bb : Int), (bst (opR (cc σ.1)) (Wk (cc σ.1)) (Bk (cc σ.1)) k = 48 ∨ (bt = low (Wk (cc σ.1) (bst (opR (cc σ.1)) (Wk (cc σ.1)) (Bk (cc σ.1)) k)) (Bk (cc σ.1) (bst (opR (cc σ.1)) (Wk (cc σ.1)) (Bk (cc σ.1)) k)) 0 ∧ bb = low (Wk (cc σ.1) (bst (opR (cc σ.1)) (Wk (cc σ.1)) (Bk (cc σ.1)) k)) (Bk (cc σ.1) (bst (opR (cc σ.1)) (Wk (cc σ.1)) (Bk (cc σ.1)) k)) 1)) → At 175 29 [some (.ref 49), some (.int x), some (.int (e48 (bst (opR (cc σ.1)) (Wk (cc σ.1)) (Bk (cc σ.1)) k))), some (.long (zL bt)), none, some (.long (zL bb)), none, some (.int (nI k))] [] I1 J1 Q) (G := fun _ I1 J1 => RLd σ I1 ∧ QF I J I1 J1) ?_ ?_
        · intro I1 J1 hG bt bb hbt
          rw [k175_29]
          have hb48 : nxC (cc σ.1) ≤ 48 := by rw [enx]; exact (bst_le 48 (Nat.le_refl _)).1
          simp only [← enx] at hbt ⊢
          have hQ := hQ _ I1 J1 ⟨hG, rfl⟩
          rw [show aNext (cc σ.1) x = _ from if_pos hb] at hQ
          simp (disch := omega) only [k175_31, k175_33, k175_149, k175_150, k175_151, nI_leI, Nat.le_refl, ↓reduceIte, e48_m1 hb48]
          by_cases q : nxC (cc σ.1) = 48
          · rw [if_pos q] at hQ
            rw [if_neg (fun w => w q)]
            simp (disch := omega) only [k175_154, k175_156, k175_159, Option.toList_some, Option.toList_none, List.cons_append, List.nil_append, nl_i, nl_r, nl_l, nl_n, c127]
            exact hQ
          · rw [if_neg q] at hQ
            rw [if_pos q]
            obtain ⟨r1, r2⟩ := hbt.resolve_left q
            have lt : nxC (cc σ.1) < 48 := by omega
            rcases inr4.mp hb with r | r | r | r <;> subst r
            · rw [if_pos rfl] at hQ
              simp (disch := omega) only [k175_160, k175_161, k175_164, k175_165, k175_166, k175_167, k175_168, k175_194, Option.toList_some, Option.toList_none, List.cons_append, List.nil_append, nl_i, nl_r, nl_l, nl_n, n00', not_true_eq_false, ↓reduceIte, e48_lt lt, n4, not_false_eq_true, true_and, div4]
              exact hQ
            · rw [if_neg (by decide), if_pos rfl] at hQ
              simp (disch := omega) only [k175_160, k175_161, k175_171, k175_172, k175_173, k175_176, k175_177, k175_178, k175_179, k175_180, k175_194, Option.toList_some, Option.toList_none, List.cons_append, List.nil_append, nl_i, nl_r, nl_l, nl_n, n10', not_false_eq_true, not_true_eq_false, ↓reduceIte, e48_lt lt, n4, true_and, rem4]
              exact hQ
            · rw [if_neg (by decide), if_neg (by decide), if_pos rfl, ← r1] at hQ
              have c1 : ¬ nI 2 = 0 := by decide
              have c2 : ¬ nI 2 = nI 1 := by decide
              simp (disch := omega) only [k175_160, k175_161, k175_171, k175_172, k175_173, k175_183, k175_184, k175_185, k175_188, k175_189, k175_194, Option.toList_some, Option.toList_none, List.cons_append, List.nil_append, nl_i, nl_r, nl_l, nl_n, c1, c2, not_false_eq_true, not_true_eq_false, ↓reduceIte]
              exact hQ
            · rw [if_neg (by decide), if_neg (by decide), if_neg (by decide), ← r2] at hQ
              have c1 : ¬ nI 3 = 0 := by decide
              have c2 : ¬ nI 3 = nI 1 := by decide
              have c3 : ¬ nI 3 = nI 2 := by decide
              simp (disch := omega) only [k175_160, k175_161, k175_171, k175_172, k175_173, k175_183, k175_184, k175_185, k175_192, k175_194, Option.toList_some, Option.toList_none, List.cons_append, List.nil_append, nl_i, nl_r, nl_l, nl_n, c1, c2, c3, not_false_eq_true, ↓reduceIte]
              exact hQ
        · intro k I1 J1 hk hG ih bt bb hbt
          have e0 : ¬ 48 ≤ k := by omega
          obtain ⟨bl, -⟩ := bst_le (op := opR (cc σ.1)) (W := Wk (cc σ.1)) (B := Bk (cc σ.1)) k (by omega)
          have e55 : I1 55 = cc σ.1 := hG.1.2.1
          have e57s : I1 57 (k / 4) = enc (slb (hnd (cc σ.1)) (k / 4)) := by rw [hG.1.2.2.2 (k / 4) (by omega), LB_s (by omega)]
          have e57m : I1 57 (12 + k % 4) = enc (lb (hnd (cc σ.1)) (k % 4)) := by rw [hG.1.2.2.2 (12 + k % 4) (by omega), LB_m]
          have s4 := slb_le4 (hnd (cc σ.1)) (k / 4)
          have m4 := lb_le4 (hnd (cc σ.1)) (k % 4)
          have skip : opR (cc σ.1) k = false → At 175 143 [some (.ref 49), some (.int x), some (.int (e48 (bst (opR (cc σ.1)) (Wk (cc σ.1)) (Bk (cc σ.1)) k))), some (.long (zL bt)), none, some (.long (zL bb)), none, some (.int (nI k))] [] I1 J1 Q := by
            intro qo
            have eb : bst (opR (cc σ.1)) (Wk (cc σ.1)) (Bk (cc σ.1)) (k + 1) = bst (opR (cc σ.1)) (Wk (cc σ.1)) (Bk (cc σ.1)) k := by rw [bst, if_neg (fun w => by rw [qo] at w; cases w.1)]
            rw [eb] at ih
            simp (disch := omega) only [k175_143, k175_146, Option.toList_some, Option.toList_none, List.cons_append, List.nil_append, nl_i, nl_r, nl_l, nl_n, nI_add]
            exact ih I1 J1 hG bt bb hbt
          have nope : ¬ (cc σ.1 k = -1 ∧ slb (hnd (cc σ.1)) (k / 4) ≠ 4 ∧ slb (hnd (cc σ.1)) (k / 4) = lb (hnd (cc σ.1)) (k % 4)) → opR (cc σ.1) k = false := by
            intro w
            cases q : opR (cc σ.1) k with
            | false => rfl
            | true => exact absurd (opR_t.mp q) w
          rw [k175_29]
          simp (disch := omega) only [k175_31, k175_33, k175_36, k175_37, k175_40, k175_42, k175_43, k175_44, Option.toList_some, Option.toList_none, List.cons_append, List.nil_append, nl_i, nl_r, nl_l, nl_n, nI_leI, e0, ↓reduceIte, nI_clamp, bnd, ly_55, Nat.reduceLT, true_and, and_true, e55]
          by_cases q1 : cc σ.1 k = -1
          · rw [if_neg (fun w => w q1)]
            simp (disch := omega) only [k175_47, k175_48, k175_51, k175_53, k175_54, k175_55, k175_56, k175_57, Option.toList_some, Option.toList_none, List.cons_append, List.nil_append, nl_i, nl_r, nl_l, nl_n, n4, not_false_eq_true, div4, nI_clamp, bnd, ly_57, Nat.reduceLT, true_and, and_true, e57s, enc_m1]
            by_cases q2 : slb (hnd (cc σ.1)) (k / 4) = 4
            · rw [if_pos q2]
              exact skip (nope (fun w => w.2.1 q2))
            · rw [if_neg q2]
              simp (disch := omega) only [k175_60, k175_61, k175_64, k175_66, k175_67, k175_68, k175_69, k175_70, k175_73, k175_75, k175_77, k175_78, k175_79, k175_80, k175_81, Option.toList_some, Option.toList_none, List.cons_append, List.nil_append, nl_i, nl_r, nl_l, nl_n, n4, not_false_eq_true, div4, rem4, rem4b, nI_add, nI_clamp, bnd, ly_57, Nat.reduceLT, true_and, and_true, e57s, e57m, enc_eq]
              by_cases q3 : slb (hnd (cc σ.1)) (k / 4) = lb (hnd (cc σ.1)) (k % 4)
              · rw [if_neg (fun w => w q3)]
                have qo : opR (cc σ.1) k = true := opR_t.mpr ⟨q1, q2, q3⟩
                obtain ⟨w1, w2, w3⟩ := opR_ws hk qo
                have hc2 : (va_up I1 55 (va_up (cc σ.1) k (nI 0))) 55 = va_up (cc σ.1) k 0 := va_up_s _ _ _
                have hL2 : ∀ j, j < 16 → (va_up I1 55 (va_up (cc σ.1) k (nI 0))) 57 j = enc (LB (hnd (va_up (cc σ.1) k 0)) j) := fun j hj => by rw [up_ne _ _ (by omega), w3 j hj]; exact hG.1.2.2.2 j hj
                obtain ⟨I2, J2, ⟨g1, g2, g3, g4, g5, g6, g7, g8⟩, hcal2⟩ := c172 (J := J1) hc2 hL2
                have g5' : J2 49 27 = zL (low (Wk (cc σ.1) k) (Bk (cc σ.1) k) 0) := g5
                have g6' : J2 49 28 = zL (low (Wk (cc σ.1) k) (Bk (cc σ.1) k) 1) := g6
                have i55 : I2 55 = va_up (cc σ.1) k (nI 0) := by rw [g1 55 (by decide) (by decide), va_up_s]
                have eback : va_up (va_up (cc σ.1) k (nI 0)) k (-1) = cc σ.1 := by rw [up_same, ← q1, up_id]
                have f : QF I1 J1 (va_up I2 55 (cc σ.1)) J2 := by
                  refine ⟨fun j hj => ?_, fun j hj => ?_, g3⟩
                  · rw [up_ne _ _ (by omega), g1 j (by omega) (by omega), up_ne _ _ (by omega)]
                  · rw [up_ne _ _ (by omega), g2 j (by omega) (by omega), up_ne _ _ (by omega)]
                have hG2 : RLd σ (va_up I2 55 (cc σ.1)) ∧ QF I J (va_up I2 55 (cc σ.1)) J2 := by
                  refine ⟨⟨RRb_qf hG.1.1 f, ?_, ?_, fun j hj => ?_⟩, QF_trans hG.2 f⟩
                  · rw [va_up_s]
                  · rw [up_ne _ _ (by omega), g1 56 (by decide) (by decide), up_ne _ _ (by omega)]; exact hG.1.2.2.1
                  · rw [up_ne _ _ (by omega), g1 57 (by decide) (by decide), up_ne _ _ (by omega)]; exact hG.1.2.2.2 j hj
                simp (disch := omega) only [k175_84, k175_85, k175_88, k175_90, k175_91, k175_92, k175_93, k175_96, k175_99, k175_100, k175_101, Option.toList_some, Option.toList_none, List.cons_append, List.nil_append, nl_i, nl_r, nl_l, nl_n, nI_clamp, bnd, ly_55, Nat.reduceLT, true_and, and_true, e55, hcal2, decide_eq_true w2, bI_0, Bool.true_eq_false, ↓reduceIte, e48_m1 bl]
                have fin : ∀ (bt' bb' : Int) (b' : Nat), bst (opR (cc σ.1)) (Wk (cc σ.1)) (Bk (cc σ.1)) (k + 1) = b' → (b' = 48 ∨ (bt' = low (Wk (cc σ.1) b') (Bk (cc σ.1) b') 0 ∧ bb' = low (Wk (cc σ.1) b') (Bk (cc σ.1) b') 1)) → At 175 135 [some (.ref 49), some (.int x), some (.int (e48 b')), some (.long (zL bt')), none, some (.long (zL bb')), none, some (.int (nI k))] [] I2 J2 Q := by
                  intro bt' bb' b' eb hbt'
                  rw [eb] at ih
                  simp (disch := omega) only [k175_135, k175_136, k175_139, k175_141, k175_142, k175_143, k175_146, Option.toList_some, Option.toList_none, List.cons_append, List.nil_append, nl_i, nl_r, nl_l, nl_n, nI_clamp, bnd, ly_55, Nat.reduceLT, true_and, and_true, i55, eback, nI_add]
                  exact ih _ J2 hG2 bt' bb' hbt'
                have take : (bst (opR (cc σ.1)) (Wk (cc σ.1)) (Bk (cc σ.1)) k = 48 ∨ Wk (cc σ.1) k * Bk (cc σ.1) (bst (opR (cc σ.1)) (Wk (cc σ.1)) (Bk (cc σ.1)) k) < Wk (cc σ.1) (bst (opR (cc σ.1)) (Wk (cc σ.1)) (Bk (cc σ.1)) k) * Bk (cc σ.1) k) → At 175 121 [some (.ref 49), some (.int x), some (.int (e48 (bst (opR (cc σ.1)) (Wk (cc σ.1)) (Bk (cc σ.1)) k))), some (.long (zL bt)), none, some (.long (zL bb)), none, some (.int (nI k))] [] I2 J2 Q := by
                  intro q5
                  have := fin _ _ k (by rw [bst, if_pos ⟨qo, q5⟩]) (Or.inr ⟨rfl, rfl⟩)
                  rw [e48_lt hk] at this
                  simp (disch := omega) only [k175_121, k175_123, k175_124, k175_125, k175_128, k175_129, k175_130, k175_133, Option.toList_some, Option.toList_none, List.cons_append, List.nil_append, nl_i, nl_r, nl_l, nl_n, g5', g6']
                  exact this
                by_cases q4 : bst (opR (cc σ.1)) (Wk (cc σ.1)) (Bk (cc σ.1)) k = 48
                · rw [if_pos q4]
                  exact take (Or.inl q4)
                · rw [if_neg q4]
                  obtain ⟨r1, r2⟩ := hbt.resolve_left q4
                  have pk := Bk_pos (cc σ.1) k
                  have pb := Bk_pos (cc σ.1) (bst (opR (cc σ.1)) (Wk (cc σ.1)) (Bk (cc σ.1)) k)
                  have lk := low_bd pk (Wk_bd (cc σ.1) k)
                  have lb' := low_bd pb (Wk_bd (cc σ.1) (bst (opR (cc σ.1)) (Wk (cc σ.1)) (Bk (cc σ.1)) k))
                  have bk1 : (Bk (cc σ.1) k).natAbs ≤ 15116544 := Bk_bd (cc σ.1) k
                  have bb1 : (Bk (cc σ.1) (bst (opR (cc σ.1)) (Wk (cc σ.1)) (Bk (cc σ.1)) k)).natAbs ≤ 15116544 := Bk_bd (cc σ.1) _
                  have oA : ok (low (Wk (cc σ.1) k) (Bk (cc σ.1) k) 0 * bb) := by rw [r2]; exact bd_ok (bd_mul lk.1 (bd_le lb'.2 bb1)) (by decide)
                  have oB : ok (bt * low (Wk (cc σ.1) k) (Bk (cc σ.1) k) 1) := by rw [r1]; exact bd_ok (bd_mul lb'.1 (bd_le lk.2 bk1)) (by decide)
                  have ll := low_lt2 (a := Wk (cc σ.1) k) (b := Wk (cc σ.1) (bst (opR (cc σ.1)) (Wk (cc σ.1)) (Bk (cc σ.1)) k)) pk pb
                  rw [← r1, ← r2] at ll
                  simp (disch := omega) only [k175_104, k175_105, k175_108, k175_110, k175_111, k175_112, k175_113, k175_116, k175_117, k175_118, Option.toList_some, Option.toList_none, List.cons_append, List.nil_append, nl_i, nl_r, nl_l, nl_n, g5', g6', zL_mul, lg_cmp_ge, zL_le oB oA]
                  by_cases q5 : bt * low (Wk (cc σ.1) k) (Bk (cc σ.1) k) 1 ≤ low (Wk (cc σ.1) k) (Bk (cc σ.1) k) 0 * bb
                  · rw [if_pos q5]
                    refine fin bt bb _ ?_ hbt
                    rw [bst, if_neg]
                    rintro ⟨-, w | w⟩
                    · exact q4 w
                    · have := ll.mpr w; omega
                  · rw [if_neg q5]
                    exact take (Or.inr (ll.mp (by omega)))
              · rw [if_pos q3]
                exact skip (nope (fun w => q3 w.2.2))
          · rw [if_pos q1]
            exact skip (nope (fun w => q1 w.1))
      exact outer I0 J ⟨h1, h3⟩ 0 1 (Or.inl rfl)
    obtain ⟨v, I', J', ⟨⟨g1, g2⟩, rfl⟩, hc2⟩ := Cal_ex main
    exact ⟨I', J', ⟨RL_RR g1, g2⟩, hc2⟩
  · refine ⟨I, J, ⟨hR, QF_refl⟩, fun Q => ?_⟩
    have hb' : inr x 4 = false := by simpa using hb
    rw [en175, show aNext (cc σ.1) x = _ from if_neg hb]
    simp (disch := omega) only [k175_0, k175_1, k175_2, k175_3, k175_6, k175_9, k175_11, k175_14, k175_15, k175_16, k175_19, k175_20, k175_21, k175_22, k175_23, k175_24, k175_26, k175_27, k175_31, k175_33, k175_36, k175_37, k175_40, k175_42, k175_43, k175_44, k175_47, k175_48, k175_51, k175_53, k175_54, k175_55, k175_56, k175_57, k175_60, k175_61, k175_64, k175_66, k175_67, k175_68, k175_69, k175_70, k175_73, k175_75, k175_77, k175_78, k175_79, k175_80, k175_81, k175_84, k175_85, k175_88, k175_90, k175_91, k175_92, k175_93, k175_96, k175_99, k175_100, k175_101, k175_104, k175_105, k175_108, k175_110, k175_111, k175_112, k175_113, k175_116, k175_117, k175_118, k175_121, k175_123, k175_124, k175_125, k175_128, k175_129, k175_130, k175_133, k175_135, k175_136, k175_139, k175_141, k175_142, k175_143, k175_146, k175_149, k175_150, k175_151, k175_154, k175_156, k175_159, k175_160, k175_161, k175_164, k175_165, k175_166, k175_167, k175_168, k175_171, k175_172, k175_173, k175_176, k175_177, k175_178, k175_179, k175_180, k175_183, k175_184, k175_185, k175_188, k175_189, k175_192, k175_194, Option.toList_some, Option.toList_none, List.cons_append, List.nil_append, nl_i, nl_r, nl_l, nl_n, c126, in03, c127, hb', bI_0, not_true_eq_false, ↓reduceIte, nO]
end RNX
