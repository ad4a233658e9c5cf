/-! CALLS: the reference's tied -/
section RTY
variable {I : ab_I} {J : ab_J} {Q : Option Value → ab_I → ab_J → Prop} {σ : PS} {x x1 x2 x3 x4 : Int32}
theorem tD_out {pr c : Nat → Int32} (hc : ∀ k, 48 ≤ k → c k = 0) : ∀ i, (∀ j, j < i → tpk pr (tD pr c j) ≠ 48) → ∀ k, 48 ≤ k → tD pr c i k = 0
  | 0, _, k, hk => hc k hk
  | i + 1, h, k, hk => by
    have := (tpk_ok (h i (by omega))).1
    show va_up _ _ _ k = 0
    rw [va_up_n _ _ (by omega)]
    exact tD_out hc i (fun j hj => h j (by omega)) k hk
/-- one search of the cheapest -/
theorem s179 {c : Nat → Int32} {pr : Nat → Int32} {cost many : Int32} {a5 a6 a7 a8 : Option Value} (hL : ∀ k, k < 16 → I 57 k = enc (LB (hnd c) k)) (hp : ∀ m, m < 4 → I 54 m = pr m)
    (hk : ∀ a6 a7 a8 : Option Value, At 179 123 [some (.ref 49), some (.int x), some (.int cost), some (.int many), some (.int (nI 1)), some (.int (e48 (tpk pr c))), a6, a7, a8] [] I J Q) : At 179 19 [some (.ref 49), some (.int x), some (.int cost), some (.int many), some (.int (nI 1)), a5, a6, a7, a8] [] I J Q := by
  have n4 : ¬ nI 4 = 0 := by decide
  rw [k179_19]
  simp (disch := omega) only [k179_21, k179_24, k179_25, k179_27, k179_28, Option.toList_some, Option.toList_none, List.cons_append, List.nil_append, nl_i, nl_r, nl_l, nl_n, n10', ↓reduceIte]
  have key : ∀ a7 a8 : Option Value, At 179 30 [some (.ref 49), some (.int x), some (.int cost), some (.int many), some (.int (nI 1)), some (.int (e48 (chf (okT c) pr 0))), some (.int (nI 0)), a7, a8] [] I J Q := by
    refine loop_dn (N := 48) (P := fun k => ∀ a7 a8 : Option Value, At 179 30 [some (.ref 49), some (.int x), some (.int cost), some (.int many), some (.int (nI 1)), some (.int (e48 (chf (okT c) pr k))), some (.int (nI k)), a7, a8] [] I J Q) ?_ ?_
    · intro a7 a8
      rw [k179_30]
      simp (disch := omega) only [k179_32, k179_34, nI_leI, Nat.le_refl, ↓reduceIte]
      exact hk _ _ _
    · intro k hk ih a7 a8
      have e0 : ¬ 48 ≤ k := by omega
      have es : I 57 (k / 4) = enc (slb (hnd c) (k / 4)) := by rw [hL (k / 4) (by omega), LB_s (by omega)]
      have em : I 57 (12 + k % 4) = enc (lb (hnd c) (k % 4)) := by rw [hL (12 + k % 4) (by omega), LB_m]
      have s4 := slb_le4 (hnd c) (k / 4)
      have m4 := lb_le4 (hnd c) (k % 4)
      obtain ⟨bl, bl2⟩ := chf_le (ok := okT c) (pr := pr) k (by omega)
      rw [k179_30]
      simp (disch := omega) only [k179_32, k179_34, k179_37, k179_38, k179_41, k179_43, k179_44, k179_45, k179_46, k179_48, k179_49, k179_52, k179_54, k179_56, k179_57, k179_58, k179_59, k179_60, k179_62, k179_64, k179_65, Option.toList_some, Option.toList_none, List.cons_append, List.nil_append, nl_i, nl_r, nl_l, nl_n, nI_leI, e0, ↓reduceIte, n4, not_false_eq_true, div4, rem4, rem4b, nI_add, nI_clamp, bnd, ly_57, Nat.reduceLT, true_and, and_true, es, em, enc_m1]
      unfold chf at ih
      have skip : okT c k = false → ∀ a7 a8 : Option Value, At 179 117 [some (.ref 49), some (.int x), some (.int cost), some (.int many), some (.int (nI 1)), some (.int (e48 (chf (okT c) pr k))), some (.int (nI k)), a7, a8] [] I J Q := by
        intro q a7 a8
        rw [if_neg (fun w => by rw [q] at w; cases w.1)] at ih
        simp (disch := omega) only [k179_117, k179_120, Option.toList_some, Option.toList_none, List.cons_append, List.nil_append, nl_i, nl_r, nl_l, nl_n, nI_add]
        exact ih _ _
      by_cases q1 : slb (hnd c) (k / 4) = 4
      · rw [if_pos q1]
        exact skip (decide_eq_false (fun w => w.1 q1)) _ _
      · rw [if_neg q1]
        simp (disch := omega) only [k179_68, k179_70, k179_71, enc_m1]
        by_cases q2 : lb (hnd c) (k % 4) = 4
        · rw [if_pos q2]
          exact skip (decide_eq_false (fun w => w.2.1 q2)) _ _
        · rw [if_neg q2]
          simp (disch := omega) only [k179_74, k179_76, k179_78, enc_eq]
          by_cases q3 : slb (hnd c) (k / 4) = lb (hnd c) (k % 4)
          · rw [if_pos q3]
            exact skip (decide_eq_false (fun w => w.2.2 q3)) _ _
          · rw [if_neg q3]
            have qo : okT c k = true := decide_eq_true ⟨q1, q2, q3⟩
            simp (disch := omega) only [k179_81, k179_83, k179_84, Option.toList_some, Option.toList_none, List.cons_append, List.nil_append, nl_i, nl_r, nl_l, nl_n, e48_m1 bl]
            by_cases q4 : chf (okT c) pr k = 48
            · rw [if_pos ⟨qo, Or.inl q4⟩, e48_lt hk] at ih
              rw [if_pos q4]
              simp (disch := omega) only [k179_108, k179_110, k179_115, k179_117, k179_120, Option.toList_some, Option.toList_none, List.cons_append, List.nil_append, nl_i, nl_r, nl_l, nl_n, nI_add]
              exact ih _ _
            · rw [if_neg q4]
              have b48 : chf (okT c) pr k < 48 := by omega
              simp (disch := omega) only [k179_87, k179_88, k179_91, k179_93, k179_94, k179_95, k179_96, k179_97, k179_100, k179_102, k179_103, k179_104, k179_105, Option.toList_some, Option.toList_none, List.cons_append, List.nil_append, nl_i, nl_r, nl_l, nl_n, e48_lt b48, n4, not_false_eq_true, rem4, nI_clamp, bnd, ly_54, Nat.reduceLT, true_and, and_true, hp (k % 4) (by omega), hp (chf (okT c) pr k % 4) (by omega)]
              by_cases q5 : pr (chf (okT c) pr k % 4) ≤ pr (k % 4)
              · rw [if_neg (by rintro ⟨-, w | w⟩; exact q4 w; exact ge_lt.mpr w q5), e48_lt b48] at ih
                rw [if_pos q5]
                simp (disch := omega) only [k179_113, k179_115, k179_117, k179_120, Option.toList_some, Option.toList_none, List.cons_append, List.nil_append, nl_i, nl_r, nl_l, nl_n, nI_add]
                exact ih _ _
              · rw [if_pos ⟨qo, Or.inr (ge_lt.mp q5)⟩, e48_lt hk] at ih
                rw [if_neg q5]
                simp (disch := omega) only [k179_108, k179_110, k179_115, k179_117, k179_120, Option.toList_some, Option.toList_none, List.cons_append, List.nil_append, nl_i, nl_r, nl_l, nl_n, nI_add]
                exact ih _ _
  exact key _ _
set_option maxRecDepth 100000 in
theorem r179 (hR : RR σ I) : ∃ I' J', (RR σ I' ∧ QF I J I' J') ∧ ∀ Q : Option Value → ab_I → ab_J → Prop, Cal 179 [.ref 49, .int x] I J Q ↔ Q (some (.int (aTied σ x))) I' J' := by
  by_cases hb : x < -1
  · refine ⟨I, J, ⟨hR, QF_refl⟩, fun Q => ?_⟩
    rw [en179, show aTied σ x = -2 from if_pos hb]
    have hb' : ¬ (-1 : Int32) ≤ x := ge_lt.mpr hb
    simp only [k179_0, k179_1, k179_2, k179_5, k179_7, k179_8, k179_9, k179_12, k179_13, k179_14, k179_15, k179_16, k179_17, k179_21, k179_24, k179_25, k179_27, k179_28, k179_32, k179_34, k179_37, k179_38, k179_41, k179_43, k179_44, k179_45, k179_46, k179_48, k179_49, k179_52, k179_54, k179_56, k179_57, k179_58, k179_59, k179_60, k179_62, k179_64, k179_65, k179_68, k179_70, k179_71, k179_74, k179_76, k179_78, k179_81, k179_83, k179_84, k179_87, k179_88, k179_91, k179_93, k179_94, k179_95, k179_96, k179_97, k179_100, k179_102, k179_103, k179_104, k179_105, k179_108, k179_110, k179_113, k179_115, k179_117, k179_120, k179_123, k179_125, k179_126, k179_129, k179_130, k179_133, k179_134, k179_136, k179_138, k179_141, k179_142, k179_143, k179_146, k179_148, k179_149, k179_150, k179_151, k179_154, k179_156, k179_157, k179_158, k179_159, k179_160, k179_161, k179_164, k179_165, k179_168, k179_170, k179_171, k179_172, k179_173, k179_176, k179_179, k179_180, k179_181, k179_184, k179_185, k179_188, k179_189, Option.toList_some, Option.toList_none, List.cons_append, List.nil_append, nl_i, nl_r, nl_l, nl_n, hb', ↓reduceIte]
  · have hb' : (-1 : Int32) ≤ x := by rw [i_lt] at hb; rw [i_le]; omega
    have n4 : ¬ nI 4 = 0 := by decide
    obtain ⟨I0, ⟨h1, h3⟩, hcal⟩ := st138 (J := J) hR
    have main : ∀ Q : Option Value → ab_I → ab_J → Prop, (∀ v I' J', ((RR σ I' ∧ QF I J I' J') ∧ v = some (.int (aTied σ x))) → Q v I' J') → Cal 179 [.ref 49, .int x] I J Q := by
      intro Q hQ
      rw [en179]
      simp (disch := omega) only [k179_0, k179_1, k179_2, k179_8, k179_9, k179_12, k179_13, k179_14, k179_15, k179_16, k179_17, Option.toList_some, Option.toList_none, List.cons_append, List.nil_append, nl_i, nl_r, nl_l, nl_n, hb', ↓reduceIte, hcal]
      -- a state at the loop's head after j picks
      have stp : ∀ (j : Nat), j ≤ 3 → ∀ (ans : Int32), (∀ i, i < j → tpk σ.2.1 (tD σ.2.1 (cc σ.1) i) ≠ 48) → (tpk σ.2.1 (tD σ.2.1 (cc σ.1) j) = 48 → ans = if x = -1 then tC σ.2.1 (cc σ.1) j else -1) → (tpk σ.2.1 (tD σ.2.1 (cc σ.1) j) ≠ 48 → x = nI j → ans = nI (tpk σ.2.1 (tD σ.2.1 (cc σ.1) j))) → aTied σ x = ans →
          (∀ I1, RRb σ I1 → QF I J I1 J → I1 55 = tD σ.2.1 (cc σ.1) (j + 1) → (∀ k, 48 ≤ k → I1 56 k = 0) → (∀ k, k < 16 → I1 57 k = enc (LB (hnd (tD σ.2.1 (cc σ.1) (j + 1))) k)) → tpk σ.2.1 (tD σ.2.1 (cc σ.1) j) ≠ 48 → x ≠ nI j → ∀ a5 a6 a7 a8 : Option Value, At 179 19 [some (.ref 49), some (.int x), some (.int (tC σ.2.1 (cc σ.1) (j + 1))), some (.int (nI (j + 1))), some (.int (nI 1)), a5, a6, a7, a8] [] I1 J Q) →
          ∀ I1, RRb σ I1 → QF I J I1 J → I1 55 = tD σ.2.1 (cc σ.1) j → (∀ k, 48 ≤ k → I1 56 k = 0) → (∀ k, k < 16 → I1 57 k = enc (LB (hnd (tD σ.2.1 (cc σ.1) j)) k)) → ∀ a5 a6 a7 a8 : Option Value, At 179 19 [some (.ref 49), some (.int x), some (.int (tC σ.2.1 (cc σ.1) j)), some (.int (nI j)), some (.int (nI 1)), a5, a6, a7, a8] [] I1 J Q := by
        intro j hj ans hpre ha1 ha2 hans hnext I1 hB hF e55 e56 hL a5 a6 a7 a8
        have hQ' : ∀ I', RRb σ I' → QF I J I' J → I' 55 = tD σ.2.1 (cc σ.1) j → (∀ k, 48 ≤ k → I' 56 k = 0) → Q (some (.int ans)) I' J := by
          intro I' w1 w2 w3 w4
          refine hQ _ _ _ ⟨⟨⟨w1, fun k hk => ⟨?_, w4 k hk⟩⟩, w2⟩, by rw [hans]⟩
          rw [w3]
          exact tD_out (fun k hk => (cc_out hR.1.1 hk).1) j hpre k hk
        have tl : tpk σ.2.1 (tD σ.2.1 (cc σ.1) j) ≤ 48 := (chf_le 48 (Nat.le_refl _)).1
        refine s179 hL hB.2.2.1 (fun a6 a7 a8 => ?_)
        simp (disch := omega) only [k179_123, k179_125, k179_126, e48_m1 tl]
        by_cases w : tpk σ.2.1 (tD σ.2.1 (cc σ.1) j) = 48
        · have hQ' := hQ' I1 hB hF e55 e56
          rw [ha1 w] at hQ'
          rw [if_pos w]
          simp (disch := omega) only [k179_133, k179_134, k179_136, k179_138, k179_176, k179_19, k179_21, k179_179, k179_180, k179_181, Option.toList_some, Option.toList_none, List.cons_append, List.nil_append, nl_i, nl_r, nl_l, nl_n, n00', ↓reduceIte, w, e48_48]
          by_cases hx : x = -1
          · rw [if_pos hx] at hQ'
            rw [if_neg (fun v => v hx)]
            simp (disch := omega) only [k179_184, k179_185, k179_189]
            exact hQ'
          · rw [if_neg hx] at hQ'
            rw [if_pos hx]
            simp (disch := omega) only [k179_188, k179_189]
            exact hQ'
        · rw [if_neg w]
          obtain ⟨t1, t2, t3, t4⟩ := tpk_ok w
          simp (disch := omega) only [k179_129, k179_130, k179_134, k179_136, k179_138, k179_141, k179_142, k179_143, Option.toList_some, Option.toList_none, List.cons_append, List.nil_append, nl_i, nl_r, nl_l, nl_n, n10', ↓reduceIte, e48_lt t1]
          by_cases hx : nI j = x
          · have hQ' := hQ' I1 hB hF e55 e56
            rw [ha2 w hx.symm] at hQ'
            rw [if_neg (fun v => v hx)]
            simp (disch := omega) only [k179_146, k179_148]
            exact hQ'
          · rw [if_pos hx]
            have pm := hB.2.2.1 (tpk σ.2.1 (tD σ.2.1 (cc σ.1) j) % 4) (by omega)
            have ca : ∀ Q : Option Value → ab_I → ab_J → Prop, Cal 139 [.ref 49] (va_up I1 55 (va_up (tD σ.2.1 (cc σ.1) j) (tpk σ.2.1 (tD σ.2.1 (cc σ.1) j)) (nI 0))) J Q ↔ Q none (va_up (va_up I1 55 (tD σ.2.1 (cc σ.1) (j + 1))) 57 (fll (fun k => enc (LB (hnd (tD σ.2.1 (cc σ.1) (j + 1))) k)) (I1 57) 16)) J := by
              intro Q
              have := c139 (I := va_up I1 55 (tD σ.2.1 (cc σ.1) (j + 1))) (J := J) (Q := Q) (c := tD σ.2.1 (cc σ.1) (j + 1)) (va_up_s _ _ _)
              rw [up_ne _ _ (by omega)] at this
              exact this
            simp (disch := omega) only [k179_149, k179_150, k179_151, k179_154, k179_156, k179_157, k179_158, k179_159, k179_160, k179_161, k179_164, k179_165, k179_168, k179_170, k179_171, k179_172, k179_173, k179_176, Option.toList_some, Option.toList_none, List.cons_append, List.nil_append, nl_i, nl_r, nl_l, nl_n, n4, not_false_eq_true, rem4, nI_clamp, bnd, ly_54, ly_55, Nat.reduceLT, true_and, and_true, pm, nI_add, e55, ca]
            have f : QF I1 J (va_up (va_up I1 55 (tD σ.2.1 (cc σ.1) (j + 1))) 57 (fll (fun k => enc (LB (hnd (tD σ.2.1 (cc σ.1) (j + 1))) k)) (I1 57) 16)) J := ⟨fun k hk => by simp (disch := omega) only [up_ne], fun j _ => by simp (disch := omega) only [up_ne], fun _ _ => rfl⟩
            refine hnext _ (RRb_qf hB f) (QF_trans hF f) ?_ ?_ ?_ w (fun v => hx v.symm) _ _ _ _
            · simp (disch := omega) only [up_ne, va_up_s]
            · simp (disch := omega) only [up_ne]; exact e56
            · intro k hk; rw [va_up_s]; exact fll_lt hk
      have hA := show aTied σ x = _ from if_neg hb
      have c0 : ∀ p : tpk σ.2.1 (tD σ.2.1 (cc σ.1) 0) = 48, aTied σ x = if x = -1 then tC σ.2.1 (cc σ.1) 0 else -1 := fun p => by rw [hA, if_pos p]
      have d0 : ∀ p : tpk σ.2.1 (tD σ.2.1 (cc σ.1) 0) ≠ 48, x = nI 0 → aTied σ x = nI (tpk σ.2.1 (tD σ.2.1 (cc σ.1) 0)) := fun p v => by rw [hA, if_neg p, if_pos v]
      refine stp 0 (by omega) _ (fun i hi => by omega) c0 d0 rfl ?_ I0 h1.1 h3 h1.2.1 (fun k hk => by rw [h1.2.2.1]; exact (cc_out hR.1.1 hk).2) h1.2.2.2 _ _ _ _
      intro I1 hB1 hF1 u55 u56 uL w0 v0
      have hA1 := hA.trans ((if_neg w0).trans (if_neg v0))
      refine stp 1 (by omega) _ (fun i hi => by have : i = 0 := by omega
                                                subst this; exact w0) (fun p => by rw [hA1, if_pos p]) (fun p v => by rw [hA1, if_neg p, if_pos v]) rfl ?_ I1 hB1 hF1 u55 u56 uL
      intro I2 hB2 hF2 u55 u56 uL w1 v1
      have hA2 := hA1.trans ((if_neg w1).trans (if_neg v1))
      refine stp 2 (by omega) _ (fun i hi => by have : i = 0 ∨ i = 1 := by omega
                                                rcases this with r | r <;> subst r
                                                · exact w0
                                                · exact w1) (fun p => by rw [hA2, if_pos p]) (fun p v => by rw [hA2, if_neg p, if_pos v]) rfl ?_ I2 hB2 hF2 u55 u56 uL
      intro I3 hB3 hF3 u55 u56 uL w2 v2
      have hA3 := hA2.trans ((if_neg w2).trans (if_neg v2))
      have e3 := t_end w0 w1 w2
      refine stp 3 (by omega) _ (fun i hi => by have : i = 0 ∨ i = 1 ∨ i = 2 := by omega
                                                rcases this with r | r | r <;> subst r
                                                · exact w0
                                                · exact w1
                                                · exact w2) (fun _ => hA3) (fun p => absurd e3 p) rfl (fun I4 _ _ _ _ _ w3 => absurd e3 w3) I3 hB3 hF3 u55 u56 uL
    obtain ⟨v, I', J', ⟨g1, rfl⟩, hc2⟩ := Cal_ex main
    exact ⟨I', J', g1, hc2⟩
end RTY
