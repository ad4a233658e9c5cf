/-! CALLS: digest -/
def dg1 (σ : PS) : Nat → Int64
  | 0 => 17
  | i + 1 => 31 * dg1 σ i + (aCount σ (nI i)).toInt64
def dM (c : Nat → Int32) (s : Nat) (u : Int64) : Nat → Int64
  | 0 => u
  | m + 1 => 31 * dM c s u m + (c (4 * s + m)).toInt64
def dg2 (σ : PS) : Nat → Int64
  | 0 => dg1 σ 8
  | s + 1 => 31 * (31 * dM (cc σ.1) s (dg2 σ s) 4 + aWorthT (cc σ.1) s (nI 0)) + aWorthT (cc σ.1) s (nI 1)
def dg3 (σ : PS) : Nat → Int64
  | 0 => dg2 σ 12
  | m + 1 => 31 * (31 * dg3 σ m + aHardT (cc σ.1) m (nI 0)) + aHardT (cc σ.1) m (nI 1)
def dg4 (σ : PS) : Nat → Int64
  | 0 => dg3 σ 4
  | w + 1 => 31 * dg4 σ w + aWorstT (cc σ.1) (nI w)
def aDigest (σ : PS) : Int64 := 31 * (31 * dg4 σ 4 + (prs σ.2.2.1.1 σ.2.2.1.2).2.2.2.toInt64) + (aOdd (cc σ.1)).toInt64
theorem aHas_n {c : Nat → Int32} {s m : Nat} (hs : s < 12) (hm : m < 4) : aHas c (nI s) (nI m) = c (4 * s + m) := by
  rw [show aHas c (nI s) (nI m) = _ from if_pos ⟨inr_of hs (by decide), inr_of hm (by decide)⟩, tN_nI (by omega), tN_nI (by omega)]
theorem aWorth_n {c : Nat → Int32} {s w : Nat} (hs : s < 12) (hw : w < 2) : aWorth c (nI s) (nI w) = aWorthT c s (nI w) := by
  rw [show aWorth c (nI s) (nI w) = _ from if_pos ⟨inr_of hs (by decide), inr_of hw (by decide)⟩, tN_nI (by omega)]
theorem aHard_n {c : Nat → Int32} {s w : Nat} (hs : s < 4) (hw : w < 2) : aHard c (nI s) (nI w) = aHardT c s (nI w) := by
  rw [show aHard c (nI s) (nI w) = _ from if_pos ⟨inr_of hs (by decide), inr_of hw (by decide)⟩, tN_nI (by omega)]
theorem aWorst_n {c : Nat → Int32} {w : Nat} (hw : w < 4) : aWorst c (nI w) = aWorstT c (nI w) := if_pos (inr_of hw (by decide))
section DIG
variable {I : ab_I} {J : ab_J} {Q : Option Value → ab_I → ab_J → Prop} {σ : PS} {x x1 x2 x3 x4 : Int32}
set_option maxRecDepth 100000 in
theorem q109 (hR : RC σ I J) : ∃ I' J', (RC σ I' J' ∧ CF I J I' J') ∧ ∀ Q : Option Value → ab_I → ab_J → Prop, Cal 109 [.ref 0] I J Q ↔ Q (some (.long (aDigest σ))) I' J' := by
  have main : ∀ Q : Option Value → ab_I → ab_J → Prop, (∀ v I' J', ((RC σ I' J' ∧ CF I J I' J') ∧ v = some (.long (aDigest σ))) → Q v I' J') → Cal 109 [.ref 0] I J Q := by
    intro Q hQ
    rw [en109]
    simp (disch := omega) only [k109_0, k109_3, k109_4, k109_5, Option.toList_some, Option.toList_none, List.cons_append, List.nil_append, nl_i, nl_r, nl_l, nl_n]
    have l1 : ∀ I1 J1, (RC σ I1 J1 ∧ CF I J I1 J1) → At 109 6 [some (.ref 0), some (.long (dg1 σ 0)), none, some (.int (nI 0)), none] [] I1 J1 Q := by
      refine loop_ij (N := 8) (P := fun i I1 J1 => At 109 6 [some (.ref 0), some (.long (dg1 σ i)), none, some (.int (nI i)), none] [] I1 J1 Q) (G := fun _ I1 J1 => RC σ I1 J1 ∧ CF I J I1 J1) ?_ ?_
      · intro I1 J1 hG
        have c8 : nI 7 < nI 8 := by decide
        rw [k109_6]
        simp (disch := omega) only [k109_7, k109_9, k109_31, k109_32, Option.toList_some, Option.toList_none, List.cons_append, List.nil_append, nl_i, nl_r, nl_l, nl_n, c8, ↓reduceIte]
        have l2 : ∀ I1 J1, (RC σ I1 J1 ∧ CF I J I1 J1) → ∀ a4 : Option Value, At 109 33 [some (.ref 0), some (.long (dg2 σ 0)), none, some (.int (nI 0)), a4] [] I1 J1 Q := by
          refine loop_ij (N := 12) (P := fun s I1 J1 => ∀ a4 : Option Value, At 109 33 [some (.ref 0), some (.long (dg2 σ s)), none, some (.int (nI s)), a4] [] I1 J1 Q) (G := fun _ I1 J1 => RC σ I1 J1 ∧ CF I J I1 J1) ?_ ?_
          · intro I1 J1 hG a4
            rw [k109_33]
            simp (disch := omega) only [k109_34, k109_36, k109_101, k109_102, Option.toList_some, Option.toList_none, List.cons_append, List.nil_append, nl_i, nl_r, nl_l, nl_n, nI_leI, Nat.le_refl, ↓reduceIte]
            have l3 : ∀ I1 J1, (RC σ I1 J1 ∧ CF I J I1 J1) → ∀ a4 : Option Value, At 109 103 [some (.ref 0), some (.long (dg3 σ 0)), none, some (.int (nI 0)), a4] [] I1 J1 Q := by
              refine loop_ij (N := 4) (P := fun m I1 J1 => ∀ a4 : Option Value, At 109 103 [some (.ref 0), some (.long (dg3 σ m)), none, some (.int (nI m)), a4] [] I1 J1 Q) (G := fun _ I1 J1 => RC σ I1 J1 ∧ CF I J I1 J1) ?_ ?_
              · intro I1 J1 hG a4
                rw [k109_103]
                simp (disch := omega) only [k109_104, k109_105, k109_140, k109_141, Option.toList_some, Option.toList_none, List.cons_append, List.nil_append, nl_i, nl_r, nl_l, nl_n, nI_leI, Nat.le_refl, ↓reduceIte]
                have l4 : ∀ I1 J1, (RC σ I1 J1 ∧ CF I J I1 J1) → ∀ a4 : Option Value, At 109 142 [some (.ref 0), some (.long (dg4 σ 0)), none, some (.int (nI 0)), a4] [] I1 J1 Q := by
                  refine loop_ij (N := 4) (P := fun w I1 J1 => ∀ a4 : Option Value, At 109 142 [some (.ref 0), some (.long (dg4 σ w)), none, some (.int (nI w)), a4] [] I1 J1 Q) (G := fun _ I1 J1 => RC σ I1 J1 ∧ CF I J I1 J1) ?_ ?_
                  · intro I1 J1 hG a4
                    have c8 : nI 3 < nI 4 := by decide
                    obtain ⟨I2, J2, ⟨g1, g2⟩, hcal⟩ := q100 hG.1
                    rw [k109_142]
                    simp (disch := omega) only [k109_143, k109_144, k109_165, k109_168, k109_169, k109_170, k109_171, k109_174, k109_175, k109_176, k109_177, k109_180, k109_181, k109_182, k109_183, k109_186, k109_187, k109_188, Option.toList_some, Option.toList_none, List.cons_append, List.nil_append, nl_i, nl_r, nl_l, nl_n, c8, ↓reduceIte, q88 hG.1, hcal]
                    exact hQ _ _ _ ⟨⟨g1, CF_trans hG.2 g2⟩, rfl⟩
                  · intro w I1 J1 hw hG ih a4
                    have e0 : ¬ nI 3 < nI w := nI_nlt (by omega) (by decide)
                    obtain ⟨I2, J2, ⟨g1, g2⟩, hcal⟩ := q93 (x := nI w) hG.1
                    rw [aWorst_n hw] at hcal
                    rw [k109_142]
                    simp (disch := omega) only [k109_143, k109_144, k109_147, k109_150, k109_151, k109_152, k109_153, k109_154, k109_157, k109_158, k109_159, k109_162, Option.toList_some, Option.toList_none, List.cons_append, List.nil_append, nl_i, nl_r, nl_l, nl_n, e0, ↓reduceIte, hcal, nI_add]
                    exact ih I2 J2 ⟨g1, CF_trans hG.2 g2⟩ _
                exact l4 I1 J1 hG _
              · intro m I1 J1 hm hG ih a4
                have e0 : ¬ 4 ≤ m := by omega
                obtain ⟨I2, J2, ⟨g1, g2⟩, hcal⟩ := q81 (x := nI m) (x1 := nI 0) hG.1
                obtain ⟨I3, J3, ⟨g3, g4⟩, hcal2⟩ := q81 (x := nI m) (x1 := nI 1) g1
                rw [aHard_n hm (by omega)] at hcal hcal2
                rw [k109_103]
                simp (disch := omega) only [k109_104, k109_105, k109_108, k109_111, k109_112, k109_113, k109_114, k109_115, k109_116, k109_119, k109_120, k109_121, k109_124, k109_125, k109_126, k109_127, k109_128, k109_129, k109_132, k109_133, k109_134, k109_137, Option.toList_some, Option.toList_none, List.cons_append, List.nil_append, nl_i, nl_r, nl_l, nl_n, nI_leI, e0, ↓reduceIte, hcal, hcal2, nI_add]
                exact ih I3 J3 ⟨g3, CF_trans hG.2 (CF_trans g2 g4)⟩ _
            exact l3 I1 J1 hG _
          · intro s I1 J1 hs hG ih a4
            have e0 : ¬ 12 ≤ s := by omega
            rw [k109_33]
            simp (disch := omega) only [k109_34, k109_36, k109_39, k109_40, Option.toList_some, Option.toList_none, List.cons_append, List.nil_append, nl_i, nl_r, nl_l, nl_n, nI_leI, e0, ↓reduceIte]
            have lm : ∀ I1 J1, (RC σ I1 J1 ∧ CF I J I1 J1) → At 109 42 [some (.ref 0), some (.long (dM (cc σ.1) s (dg2 σ s) 0)), none, some (.int (nI s)), some (.int (nI 0))] [] I1 J1 Q := by
              refine loop_ij (N := 4) (P := fun m I1 J1 => At 109 42 [some (.ref 0), some (.long (dM (cc σ.1) s (dg2 σ s) m)), none, some (.int (nI s)), some (.int (nI m))] [] I1 J1 Q) (G := fun _ I1 J1 => RC σ I1 J1 ∧ CF I J I1 J1) ?_ ?_
              · intro I1 J1 hG
                obtain ⟨I2, J2, ⟨g1, g2⟩, hcal⟩ := q82 (x := nI s) (x1 := nI 0) hG.1
                obtain ⟨I3, J3, ⟨g3, g4⟩, hcal2⟩ := q82 (x := nI s) (x1 := nI 1) g1
                rw [aWorth_n hs (by omega)] at hcal hcal2
                rw [k109_42]
                simp (disch := omega) only [k109_44, k109_45, k109_69, k109_72, k109_73, k109_74, k109_75, k109_76, k109_77, k109_80, k109_81, k109_82, k109_85, k109_86, k109_87, k109_88, k109_89, k109_90, k109_93, k109_94, k109_95, k109_98, Option.toList_some, Option.toList_none, List.cons_append, List.nil_append, nl_i, nl_r, nl_l, nl_n, nI_leI, Nat.le_refl, ↓reduceIte, hcal, hcal2, nI_add]
                exact ih I3 J3 ⟨g3, CF_trans hG.2 (CF_trans g2 g4)⟩ _
              · intro m I1 J1 hm hG ihm
                have e1 : ¬ 4 ≤ m := by omega
                obtain ⟨I2, J2, ⟨g1, g2⟩, hcal⟩ := q79 (x := nI s) (x1 := nI m) hG.1
                rw [aHas_n hs hm] at hcal
                rw [k109_42]
                simp (disch := omega) only [k109_44, k109_45, k109_48, k109_51, k109_52, k109_53, k109_54, k109_55, k109_57, k109_60, k109_61, k109_62, k109_63, k109_66, Option.toList_some, Option.toList_none, List.cons_append, List.nil_append, nl_i, nl_r, nl_l, nl_n, nI_leI, e1, ↓reduceIte, hcal, nI_add]
                exact ihm I2 J2 ⟨g1, CF_trans hG.2 g2⟩
            exact lm I1 J1 hG
        exact l2 I1 J1 hG _
      · intro i I1 J1 hi hG ih
        have e0 : ¬ nI 7 < nI i := nI_nlt (by omega) (by decide)
        obtain ⟨I2, J2, ⟨g1, g2⟩, hcal⟩ := q108 (x := nI i) hG.1
        rw [k109_6]
        simp (disch := omega) only [k109_7, k109_9, k109_12, k109_15, k109_16, k109_17, k109_18, k109_19, k109_22, k109_23, k109_24, k109_25, k109_28, Option.toList_some, Option.toList_none, List.cons_append, List.nil_append, nl_i, nl_r, nl_l, nl_n, e0, ↓reduceIte, hcal, nI_add]
        exact ih I2 J2 ⟨g1, CF_trans hG.2 g2⟩
    exact l1 I J ⟨hR, CF_refl⟩
  obtain ⟨v, I', J', ⟨g1, rfl⟩, hc2⟩ := Cal_ex main
  exact ⟨I', J', g1, hc2⟩
set_option maxRecDepth 100000 in
theorem r201 (hR : RR σ I) : ∃ I' J', (RR σ I' ∧ QF I J I' J') ∧ ∀ Q : Option Value → ab_I → ab_J → Prop, Cal 201 [.ref 49] I J Q ↔ Q (some (.long (aDigest σ))) I' J' := by
  have main : ∀ Q : Option Value → ab_I → ab_J → Prop, (∀ v I' J', ((RR σ I' ∧ QF I J I' J') ∧ v = some (.long (aDigest σ))) → Q v I' J') → Cal 201 [.ref 49] I J Q := by
    intro Q hQ
    rw [en201]
    simp (disch := omega) only [k201_0, k201_3, k201_4, k201_5, Option.toList_some, Option.toList_none, List.cons_append, List.nil_append, nl_i, nl_r, nl_l, nl_n]
    have l1 : ∀ I1 J1, (RR σ I1 ∧ QF I J I1 J1) → At 201 6 [some (.ref 49), some (.long (dg1 σ 0)), none, some (.int (nI 0)), none] [] I1 J1 Q := by
      refine loop_ij (N := 8) (P := fun i I1 J1 => At 201 6 [some (.ref 49), some (.long (dg1 σ i)), none, some (.int (nI i)), none] [] I1 J1 Q) (G := fun _ I1 J1 => RR σ I1 ∧ QF I J I1 J1) ?_ ?_
      · intro I1 J1 hG
        obtain ⟨I2, ⟨h1, h3⟩, hcal⟩ := st138 (J := J1) hG.1
        rw [k201_6]
        simp (disch := omega) only [k201_7, k201_9, k201_31, k201_32, k201_35, k201_36, Option.toList_some, Option.toList_none, List.cons_append, List.nil_append, nl_i, nl_r, nl_l, nl_n, nI_leI, Nat.le_refl, ↓reduceIte, hcal]
        have l2 : ∀ I1 J1, (RLd σ I1 ∧ QF I J I1 J1) → ∀ a4 : Option Value, At 201 37 [some (.ref 49), some (.long (dg2 σ 0)), none, some (.int (nI 0)), a4] [] I1 J1 Q := by
          refine loop_ij (N := 12) (P := fun s I1 J1 => ∀ a4 : Option Value, At 201 37 [some (.ref 49), some (.long (dg2 σ s)), none, some (.int (nI s)), a4] [] I1 J1 Q) (G := fun _ I1 J1 => RLd σ I1 ∧ QF I J I1 J1) ?_ ?_
          · intro I1 J1 hG a4
            rw [k201_37]
            simp (disch := omega) only [k201_38, k201_40, k201_105, k201_106, Option.toList_some, Option.toList_none, List.cons_append, List.nil_append, nl_i, nl_r, nl_l, nl_n, nI_leI, Nat.le_refl, ↓reduceIte]
            have l3 : ∀ I1 J1, (RLd σ I1 ∧ QF I J I1 J1) → ∀ a4 : Option Value, At 201 107 [some (.ref 49), some (.long (dg3 σ 0)), none, some (.int (nI 0)), a4] [] I1 J1 Q := by
              refine loop_ij (N := 4) (P := fun m I1 J1 => ∀ a4 : Option Value, At 201 107 [some (.ref 49), some (.long (dg3 σ m)), none, some (.int (nI m)), a4] [] I1 J1 Q) (G := fun _ I1 J1 => RLd σ I1 ∧ QF I J I1 J1) ?_ ?_
              · intro I1 J1 hG a4
                rw [k201_107]
                simp (disch := omega) only [k201_108, k201_109, k201_144, k201_145, Option.toList_some, Option.toList_none, List.cons_append, List.nil_append, nl_i, nl_r, nl_l, nl_n, nI_leI, Nat.le_refl, ↓reduceIte]
                have l4 : ∀ I1 J1, (RLd σ I1 ∧ QF I J I1 J1) → ∀ a4 : Option Value, At 201 146 [some (.ref 49), some (.long (dg4 σ 0)), none, some (.int (nI 0)), a4] [] I1 J1 Q := by
                  refine loop_ij (N := 4) (P := fun w I1 J1 => ∀ a4 : Option Value, At 201 146 [some (.ref 49), some (.long (dg4 σ w)), none, some (.int (nI w)), a4] [] I1 J1 Q) (G := fun _ I1 J1 => RLd σ I1 ∧ QF I J I1 J1) ?_ ?_
                  · intro I1 J1 hG a4
                    obtain ⟨I2, ⟨⟨g1, g2, -⟩, f1⟩, hcal⟩ := r163 (J := J1) hG.1.1
                    have hL2 := RL_163 hG.1 g1 f1
                    obtain ⟨I3, J3, ⟨g3, g4⟩, hcal2⟩ := r185 (J := J1) hL2
                    rw [k201_146]
                    simp (disch := omega) only [k201_147, k201_148, k201_169, k201_172, k201_173, k201_174, k201_175, k201_178, k201_179, k201_180, k201_181, k201_184, k201_185, k201_186, k201_187, k201_190, k201_191, k201_192, Option.toList_some, Option.toList_none, List.cons_append, List.nil_append, nl_i, nl_r, nl_l, nl_n, nI_leI, Nat.le_refl, ↓reduceIte, hcal, hcal2]
                    exact hQ _ _ _ ⟨⟨RL_RR g3, QF_trans hG.2 (QF_trans g2 g4)⟩, rfl⟩
                  · intro w I1 J1 hw hG ih a4
                    have e0 : ¬ 4 ≤ w := by omega
                    obtain ⟨I2, J2, ⟨g1, g2⟩, hcal⟩ := r173 (J := J1) (x := nI w) hG.1 (inr_of hw (by decide))
                    rw [k201_146]
                    simp (disch := omega) only [k201_147, k201_148, k201_151, k201_154, k201_155, k201_156, k201_157, k201_158, k201_161, k201_162, k201_163, k201_166, Option.toList_some, Option.toList_none, List.cons_append, List.nil_append, nl_i, nl_r, nl_l, nl_n, nI_leI, e0, ↓reduceIte, hcal, nI_add]
                    exact ih I2 J2 ⟨g1, QF_trans hG.2 g2⟩ _
                exact l4 I1 J1 hG _
              · intro m I1 J1 hm hG ih a4
                have e0 : ¬ 4 ≤ m := by omega
                obtain ⟨I2, J2, ⟨g1, g2⟩, hcal⟩ := r149 (J := J1) (x1 := nI 0) hG.1 hm
                obtain ⟨I3, J3, ⟨g3, g4⟩, hcal2⟩ := r149 (J := J2) (x1 := nI 1) g1 hm
                rw [k201_107]
                simp (disch := omega) only [k201_108, k201_109, k201_112, k201_115, k201_116, k201_117, k201_118, k201_119, k201_120, k201_123, k201_124, k201_125, k201_128, k201_129, k201_130, k201_131, k201_132, k201_133, k201_136, k201_137, k201_138, k201_141, Option.toList_some, Option.toList_none, List.cons_append, List.nil_append, nl_i, nl_r, nl_l, nl_n, nI_leI, e0, ↓reduceIte, hcal, hcal2, nI_add]
                exact ih I3 J3 ⟨g3, QF_trans hG.2 (QF_trans g2 g4)⟩ _
            exact l3 I1 J1 hG _
          · intro s I1 J1 hs hG ih a4
            have e0 : ¬ 12 ≤ s := by omega
            rw [k201_37]
            simp (disch := omega) only [k201_38, k201_40, k201_43, k201_44, Option.toList_some, Option.toList_none, List.cons_append, List.nil_append, nl_i, nl_r, nl_l, nl_n, nI_leI, e0, ↓reduceIte]
            have lm : ∀ I1 J1, (RLd σ I1 ∧ QF I J I1 J1) → At 201 46 [some (.ref 49), some (.long (dM (cc σ.1) s (dg2 σ s) 0)), none, some (.int (nI s)), some (.int (nI 0))] [] I1 J1 Q := by
              refine loop_ij (N := 4) (P := fun m I1 J1 => At 201 46 [some (.ref 49), some (.long (dM (cc σ.1) s (dg2 σ s) m)), none, some (.int (nI s)), some (.int (nI m))] [] I1 J1 Q) (G := fun _ I1 J1 => RLd σ I1 ∧ QF I J I1 J1) ?_ ?_
              · intro I1 J1 hG
                obtain ⟨I2, J2, ⟨g1, g2⟩, hcal⟩ := r151 (J := J1) (x1 := nI 0) hG.1 hs
                obtain ⟨I3, J3, ⟨g3, g4⟩, hcal2⟩ := r151 (J := J2) (x1 := nI 1) g1 hs
                rw [k201_46]
                simp (disch := omega) only [k201_48, k201_49, k201_73, k201_76, k201_77, k201_78, k201_79, k201_80, k201_81, k201_84, k201_85, k201_86, k201_89, k201_90, k201_91, k201_92, k201_93, k201_94, k201_97, k201_98, k201_99, k201_102, Option.toList_some, Option.toList_none, List.cons_append, List.nil_append, nl_i, nl_r, nl_l, nl_n, nI_leI, Nat.le_refl, ↓reduceIte, hcal, hcal2, nI_add]
                exact ih I3 J3 ⟨g3, QF_trans hG.2 (QF_trans g2 g4)⟩ _
              · intro m I1 J1 hm hG ihm
                have e1 : ¬ 4 ≤ m := by omega
                have e55 : I1 55 = cc σ.1 := hG.1.2.1
                rw [k201_46]
                simp (disch := omega) only [k201_48, k201_49, k201_52, k201_55, k201_56, k201_57, k201_58, k201_59, k201_61, k201_64, k201_65, k201_66, k201_67, k201_70, Option.toList_some, Option.toList_none, List.cons_append, List.nil_append, nl_i, nl_r, nl_l, nl_n, nI_leI, e1, ↓reduceIte, c140 hs hm, e55, nI_add]
                exact ihm I1 J1 hG
            exact lm I1 J1 hG
        exact l2 I2 J1 ⟨h1, QF_trans hG.2 h3⟩ _
      · intro i I1 J1 hi hG ih
        have e0 : ¬ 8 ≤ i := by omega
        obtain ⟨I2, J2, ⟨g1, g2⟩, hcal⟩ := r200 (J := J1) (x := nI i) hG.1
        rw [k201_6]
        simp (disch := omega) only [k201_7, k201_9, k201_12, k201_15, k201_16, k201_17, k201_18, k201_19, k201_22, k201_23, k201_24, k201_25, k201_28, Option.toList_some, Option.toList_none, List.cons_append, List.nil_append, nl_i, nl_r, nl_l, nl_n, nI_leI, e0, ↓reduceIte, hcal, nI_add]
        exact ih I2 J2 ⟨g1, QF_trans hG.2 g2⟩
    exact l1 I J ⟨hR, QF_refl⟩
  obtain ⟨v, I', J', ⟨g1, rfl⟩, hc2⟩ := Cal_ex main
  exact ⟨I', J', g1, hc2⟩
end DIG
