/-! CONTRACTS: solves, whole -/
section SLVC
variable {I : ab_I} {J : ab_J} {Q : Option Value → ab_I → ab_J → Prop} {x x1 x2 : Int32} {u : Int64}
/-- what solves leaves: over and levels, by a factor K the class's -/
def Solved (h : Nat → Nat) (b : Nat) (fz : Nat → Int) (K ov : Int) (lev : Nat → Int) : Prop := 0 < K ∧ 0 < ov ∧ whZ (Mz h 12) = K * ov ∧ (∀ m, m < 4 → lb h m = b → solZ (Mz h 12) (fun j => if fre h (j + 1) then fz (j + 1) else 0) m = K * lev m) ∧ (∀ m, m < 4 → lb h m ≠ b → lev m = 0) ∧ lev b = 0
set_option maxRecDepth 100000 in
theorem s145_40 {c : Nat → Int32} {b n : Nat} {g : Nat → Nat} {fz : Nat → Int} {a3 a4 a5 a6 a7 : Option Value} (hc : I 55 = c) (hb : b < 4) (hL : ∀ k, k < 16 → I 57 k = enc (LB (hnd c) k)) (hbb : lb (hnd c) b = b) (H : isAm (hnd c) b n g) (hA : ∀ r, r < n → I 58 r = nI (g r)) (hf : ∀ m, m < 4 → lb (hnd c) m = b → J 60 m = zL (fz m)) (hfb : ∀ m, m < 4 → bd (fz m) 100000)
    (hQ : ∀ (t' l' : Nat → Int64) (K ov : Int) (lev : Nat → Int), Solved (hnd c) b fz K ov lev → (∀ m, m < 4 → l' m = zL (lev m)) → Q none I (va_up (va_up (va_up J 49 (va_up (J 49) 14 (zL ov))) 59 t') 61 l')) : At 145 40 [some (.ref 49), some (.int (nI b)), some (.int (nI n)), a3, a4, a5, a6, a7] [] I J Q := by
  have hn := H.1
  have hg := H.2.2.1
  have hh : ∀ s, s < 12 → hnd c s < 16 := fun s _ => hnd_lt c s
  simp only [k145_40, k145_41, Option.toList_some, Option.toList_none, List.cons_append, List.nil_append, nl_i, nl_r, nl_l, nl_n]
  have key : At 145 42 [some (.ref 49), some (.int (nI b)), some (.int (nI n)), some (.int (nI 0)), a4, a5, a6, a7] [] I (va_up J 59 (fil 0 (J 59) 0)) Q := by
    refine loop_dn (N := 12) (P := fun k => At 145 42 [some (.ref 49), some (.int (nI b)), some (.int (nI n)), some (.int (nI k)), a4, a5, a6, a7] [] I (va_up J 59 (fil 0 (J 59) k)) Q) ?_ ?_
    · rw [k145_42]
      simp (disch := omega) only [k145_43, k145_45, nI_leI, Nat.le_refl, ↓reduceIte]
      refine s145_61 (f := fil 0 (J 59) 12) hc hb hL H hA (va_up_s _ _ _) ?_ (fun r c' hr hc' => by unfold fil; rw [if_pos (by omega)])
      intro a3 a4 a5 a6 a7
      rw [up_same]
      simp only [k145_215, k145_216, Option.toList_some, Option.toList_none, List.cons_append, List.nil_append, nl_i, nl_r, nl_l, nl_n]
      have fl : At 145 217 [some (.ref 49), some (.int (nI b)), some (.int (nI n)), some (.int (nI 0)), a4, a5, a6, a7] [] I (va_up J 59 (tabF (fun r => zL (fz (g r))) 0 (tab n (fun r c' => zL (Tz (hnd c) g 12 r c')) (fil 0 (J 59) 12)))) Q := by
        refine loop_dn (N := n) (P := fun r => At 145 217 [some (.ref 49), some (.int (nI b)), some (.int (nI n)), some (.int (nI r)), a4, a5, a6, a7] [] I (va_up J 59 (tabF (fun r => zL (fz (g r))) r (tab n (fun r c' => zL (Tz (hnd c) g 12 r c')) (fil 0 (J 59) 12)))) Q) ?_ ?_
        · rw [k145_217]
          simp (disch := omega) only [k145_218, k145_219, k145_249, k145_250, k145_251, nI_leI, Nat.le_refl, ↓reduceIte]
          -- the elimination
          have hp : ∀ j, j < 3 → fre (hnd c) (j + 1) = false → (fun j => if fre (hnd c) (j + 1) then fz (j + 1) else 0) j = 0 := by
            intro j _ q
            dsimp only
            rw [q]
            rfl
          obtain ⟨K, k1, k2, k3, k4, k5, k6⟩ := am_core hh hb hbb H (fun j => if fre (hnd c) (j + 1) then fz (j + 1) else 0) hp
          have hPD := Mz_PD hh
          have hpg : ∀ r, r < n → (if fre (hnd c) (g r - 1 + 1) then fz (g r - 1 + 1) else 0) = fz (g r) := by
            intro r hr
            rw [show g r - 1 + 1 = g r by have := hg r; omega, am_fre H hr]
            rfl
          have cv := clr_val (t := tabF (fun r => zL (fz (g r))) n (tab n (fun r c' => zL (Tz (hnd c) g 12 r c')) (fil 0 (J 59) 12))) (n := n) (T := fun r c' => Mz (hnd c) 12 (3 * (g r - 1) + (g c' - 1))) (F := fun r => if fre (hnd c) (g r - 1 + 1) then fz (g r - 1 + 1) else 0) hn
            (fun r c' hr hc' => by
              unfold tabF tab
              rw [if_neg (by omega), show (4 * r + c') / 4 = r by omega, show (4 * r + c') % 4 = c' by omega, if_pos ⟨hr, hc'⟩]
              exact congrArg zL (am_Tz H hr hc'))
            (fun r hr => by
              unfold tabF
              rw [if_pos (by omega), show (4 * r + 3) / 4 = r by omega, hpg r hr])
            (fun r c' => Mz_bd hh (by have := hg r; have := hg c'; omega))
            (fun r => by
              have := hg r
              split
              · exact hfb _ (by omega)
              · exact Nat.zero_le _)
            (fun h1 => by
              have g0 := hg 0
              obtain ⟨-, ⟨d0, d4, d8⟩, -⟩ := hPD
              have : g 0 = 1 ∨ g 0 = 2 ∨ g 0 = 3 := by omega
              rcases this with e | e | e <;> rw [e] <;> simp only [Nat.reduceAdd, Nat.reduceSub, Nat.reduceMul] <;> omega)
            (fun h2 => by
              have g0 := hg 0
              have g2 := hg 2
              have i0 := am_inj H (show 0 < 1 by omega) (by omega)
              have i1 := am_inj H (show 1 < 2 by omega) (by omega)
              obtain ⟨⟨s3, -, -⟩, -, ⟨m1, -, -⟩, -⟩ := hPD
              rw [show g 0 = 1 by omega, show g 1 = 2 by omega]
              simp only [Nat.reduceAdd, Nat.reduceSub, Nat.reduceMul]
              rw [s3, Int.mul_comm (Mz (hnd c) 12 4)]
              omega)
          obtain ⟨cv1, cv2, cv3⟩ := cv
          have cv1' : ∀ k, k < n → ¬ (elN ((va_up J 59 (tabF (fun r => zL (fz (g r))) n (tab n (fun r c' => zL (Tz (hnd c) g 12 r c')) (fil 0 (J 59) 12)))) 59) n k).2 = 0 := by
            rw [va_up_s]
            exact cv1
          refine (c144 hn cv1').mpr ?_
          rw [va_up_s, up_same]
          generalize elN (tabF (fun r => zL (fz (g r))) n (tab n (fun r c' => zL (Tz (hnd c) g 12 r c')) (fil 0 (J 59) 12))) n n = E at cv2 cv3 ⊢
          obtain ⟨t', la⟩ := E
          dsimp only at cv2 cv3 ⊢
          -- over
          have ov1 : ∀ a3 : Option Value, At 145 272 [some (.ref 49), some (.int (nI b)), some (.int (nI n)), a3, a4, a5, a6, a7] [] I (va_up (va_up J 49 (va_up (J 49) 14 (zL (ovZ (fun r c' => Mz (hnd c) 12 (3 * (g r - 1) + (g c' - 1))) n)))) 59 t') Q := by
            intro a3
            simp only [k145_272, k145_273, Option.toList_some, Option.toList_none, List.cons_append, List.nil_append, nl_i, nl_r, nl_l, nl_n]
            have l5 : At 145 274 [some (.ref 49), some (.int (nI b)), some (.int (nI n)), some (.int (nI 0)), a4, a5, a6, a7] [] I (va_up (va_up (va_up J 49 (va_up (J 49) 14 (zL (ovZ (fun r c' => Mz (hnd c) 12 (3 * (g r - 1) + (g c' - 1))) n)))) 59 t') 61 (fil 0 (J 61) 0)) Q := by
              refine loop_dn (N := 4) (P := fun m => At 145 274 [some (.ref 49), some (.int (nI b)), some (.int (nI n)), some (.int (nI m)), a4, a5, a6, a7] [] I (va_up (va_up (va_up J 49 (va_up (J 49) 14 (zL (ovZ (fun r c' => Mz (hnd c) 12 (3 * (g r - 1) + (g c' - 1))) n)))) 59 t') 61 (fil 0 (J 61) m)) Q) ?_ ?_
              · rw [k145_274]
                simp (disch := omega) only [k145_275, k145_276, k145_292, k145_293, Option.toList_some, Option.toList_none, List.cons_append, List.nil_append, nl_i, nl_r, nl_l, nl_n, nI_leI, Nat.le_refl, ↓reduceIte]
                have l6 : At 145 294 [some (.ref 49), some (.int (nI b)), some (.int (nI n)), some (.int (nI 0)), a4, a5, a6, a7] [] I (va_up (va_up (va_up J 49 (va_up (J 49) 14 (zL (ovZ (fun r c' => Mz (hnd c) 12 (3 * (g r - 1) + (g c' - 1))) n)))) 59 t') 61 (lvJ g (lvZ (fun r c' => Mz (hnd c) 12 (3 * (g r - 1) + (g c' - 1))) (fun r => if fre (hnd c) (g r - 1 + 1) then fz (g r - 1 + 1) else 0) n) (J 61) 0)) Q := by
                  refine loop_dn (N := n) (P := fun r => At 145 294 [some (.ref 49), some (.int (nI b)), some (.int (nI n)), some (.int (nI r)), a4, a5, a6, a7] [] I (va_up (va_up (va_up J 49 (va_up (J 49) 14 (zL (ovZ (fun r c' => Mz (hnd c) 12 (3 * (g r - 1) + (g c' - 1))) n)))) 59 t') 61 (lvJ g (lvZ (fun r c' => Mz (hnd c) 12 (3 * (g r - 1) + (g c' - 1))) (fun r => if fre (hnd c) (g r - 1 + 1) then fz (g r - 1 + 1) else 0) n) (J 61) r)) Q) ?_ ?_
                  · rw [k145_294]
                    simp (disch := omega) only [k145_295, k145_296, k145_326, nI_leI, Nat.le_refl, ↓reduceIte]
                    exact hQ t' _ K _ _ ⟨k1, k2, k3, k4, k5, k6⟩ (fun m hm => lvJ_S hm n)
                  · intro r hr ih
                    have e1 : ¬ n ≤ r := by omega
                    have hAr := hA r hr
                    have hgr := (hg r).2
                    have v3 := cv3 r hr
                    rw [lvJ, ← v3] at ih
                    rw [k145_294]
                    simp (disch := omega) only [k145_0, k145_1, k145_2, k145_3, k145_4, k145_5, k145_7, k145_8, k145_11, k145_12, k145_15, k145_17, k145_18, k145_19, k145_20, k145_21, k145_24, k145_25, k145_28, k145_29, k145_30, k145_31, k145_34, k145_37, k145_40, k145_41, k145_43, k145_45, k145_48, k145_49, k145_52, k145_53, k145_54, k145_55, k145_58, k145_61, k145_62, k145_64, k145_66, k145_69, k145_70, k145_73, k145_74, k145_75, k145_76, k145_79, k145_80, k145_81, k145_84, k145_87, k145_88, k145_90, k145_91, k145_95, k145_96, k145_99, k145_101, k145_104, k145_105, k145_109, k145_110, k145_113, k145_114, k145_115, k145_116, k145_119, k145_121, k145_122, k145_125, k145_126, k145_129, k145_130, k145_131, k145_132, k145_135, k145_137, k145_138, k145_141, k145_142, k145_145, k145_146, k145_149, k145_150, k145_152, k145_153, k145_156, k145_157, k145_159, k145_160, k145_162, k145_163, k145_164, k145_165, k145_167, k145_170, k145_172, k145_174, k145_177, k145_180, k145_183, k145_184, k145_186, k145_188, k145_189, k145_190, k145_191, k145_194, k145_195, k145_196, k145_197, k145_200, k145_203, k145_206, k145_209, k145_212, k145_215, k145_216, k145_218, k145_219, k145_222, k145_223, k145_226, k145_227, k145_228, k145_229, k145_230, k145_231, k145_232, k145_235, k145_236, k145_239, k145_240, k145_241, k145_242, k145_243, k145_246, k145_249, k145_250, k145_251, k145_254, k145_255, k145_256, k145_259, k145_260, k145_263, k145_264, k145_267, k145_268, k145_269, k145_272, k145_273, k145_275, k145_276, k145_279, k145_280, k145_283, k145_284, k145_285, k145_286, k145_289, k145_292, k145_293, k145_295, k145_296, k145_299, k145_300, k145_303, k145_304, k145_307, k145_308, k145_309, k145_310, k145_313, k145_314, k145_315, k145_316, k145_317, k145_318, k145_319, k145_320, k145_323, k145_326, Option.toList_some, Option.toList_none, List.cons_append, List.nil_append, nl_i, nl_r, nl_l, nl_n, nI_leI, e1, ↓reduceIte, pk_mul, nI_add, nI_clamp, bnd, ly_58, ly_59, ly_61, Nat.reduceLT, true_and, and_true, hAr, va_up_s, up_ne, up_same]
                    exact ih
                exact l6
              · intro m hm ih
                have e1 : ¬ 4 ≤ m := by omega
                rw [k145_274]
                simp (disch := omega) only [k145_275, k145_276, k145_279, k145_280, k145_283, k145_284, k145_285, k145_286, k145_289, Option.toList_some, Option.toList_none, List.cons_append, List.nil_append, nl_i, nl_r, nl_l, nl_n, nI_leI, e1, ↓reduceIte, nI_add, nI_clamp, bnd, ly_61, Nat.reduceLT, true_and, and_true, va_up_s, up_ne, up_same, fil_s]
                exact ih
            rw [fil_0] at l5
            have e2 : va_up (va_up (va_up J 49 (va_up (J 49) 14 (zL (ovZ (fun r c' => Mz (hnd c) 12 (3 * (g r - 1) + (g c' - 1))) n)))) 59 t') 61 (J 61) = va_up (va_up J 49 (va_up (J 49) 14 (zL (ovZ (fun r c' => Mz (hnd c) 12 (3 * (g r - 1) + (g c' - 1))) n)))) 59 t' := by
              have := up_id (va_up (va_up J 49 (va_up (J 49) 14 (zL (ovZ (fun r c' => Mz (hnd c) 12 (3 * (g r - 1) + (g c' - 1))) n)))) 59 t') 61
              rwa [up_ne _ _ (by omega), up_ne _ _ (by omega)] at this
            rw [e2] at l5
            exact l5
          by_cases hn0 : n = 0
          · subst hn0
            simp (disch := omega) only [k145_254, k145_255, k145_256, k145_259, k145_260, k145_269, Option.toList_some, Option.toList_none, List.cons_append, List.nil_append, nl_i, nl_r, nl_l, nl_n, eq0, not_true_eq_false, ↓reduceIte, up_ne, va_up_s, up_same, up_cm, id_eq]
            have := ov1 (some (.int (nI 0)))
            simp only [ovZ, ↓reduceIte, ← zL_1] at this
            exact this
          · have c2 := cv2 (by omega)
            simp (disch := omega) only [k145_254, k145_255, k145_256, k145_263, k145_264, k145_267, k145_268, k145_269, Option.toList_some, Option.toList_none, List.cons_append, List.nil_append, nl_i, nl_r, nl_l, nl_n, eq0, hn0, not_false_eq_true, ↓reduceIte, nI_clamp, bnd, ly_59, Nat.reduceLT, true_and, and_true, up_ne, va_up_s, up_same, up_cm, id_eq, c2]
            exact ov1 _
        · intro r hr ih
          have e1 : ¬ n ≤ r := by omega
          have hAr := hA r hr
          have hgr := (hg r).2
          have hfr := hf (g r) hgr (H.2.1 r hr).2
          rw [← tabF_s] at ih
          rw [k145_217]
          simp (disch := omega) only [k145_218, k145_219, k145_222, k145_223, k145_226, k145_227, k145_228, k145_229, k145_230, k145_231, k145_232, k145_235, k145_236, k145_239, k145_240, k145_241, k145_242, k145_243, k145_246, Option.toList_some, Option.toList_none, List.cons_append, List.nil_append, nl_i, nl_r, nl_l, nl_n, nI_leI, e1, ↓reduceIte, pk_mul, nI_add, nI_clamp, bnd, ly_58, ly_59, ly_60, Nat.reduceLT, true_and, and_true, hAr, hfr, va_up_s, up_ne, up_same]
          exact ih
      rw [tabF_0] at fl
      exact fl
    · intro k hk ih
      have e0 : ¬ 12 ≤ k := by omega
      rw [k145_42]
      simp (disch := omega) only [k145_43, k145_45, k145_48, k145_49, k145_52, k145_53, k145_54, k145_55, k145_58, Option.toList_some, Option.toList_none, List.cons_append, List.nil_append, nl_i, nl_r, nl_l, nl_n, nI_leI, e0, ↓reduceIte, nI_add, nI_clamp, bnd, ly_59, Nat.reduceLT, true_and, and_true, va_up_s, up_same, fil_s]
      exact ih
  rw [fil_0, up_id] at key
  exact key
set_option maxRecDepth 100000 in
theorem c145 {c : Nat → Int32} {b : Nat} {fz : Nat → Int} (hc : I 55 = c) (hb : b < 4) (hL : ∀ k, k < 16 → I 57 k = enc (LB (hnd c) k)) (hbb : lb (hnd c) b = b) (hf : ∀ m, m < 4 → lb (hnd c) m = b → J 60 m = zL (fz m)) (hfb : ∀ m, m < 4 → bd (fz m) 100000) :
    ∃ (a' : Nat → Int32) (t' l' : Nat → Int64) (K ov : Int) (lev : Nat → Int), (Solved (hnd c) b fz K ov lev ∧ (∀ m, m < 4 → l' m = zL (lev m))) ∧ ∀ Q : Option Value → ab_I → ab_J → Prop, Cal 145 [.ref 49, .int (nI b)] I J Q ↔ Q none (va_up I 58 a') (va_up (va_up (va_up J 49 (va_up (J 49) 14 (zL ov))) 59 t') 61 l') := by
  have main : ∀ Q : Option Value → ab_I → ab_J → Prop, (∀ v I' J', (∃ (a' : Nat → Int32) (t' l' : Nat → Int64) (K ov : Int) (lev : Nat → Int), (Solved (hnd c) b fz K ov lev ∧ (∀ m, m < 4 → l' m = zL (lev m))) ∧ v = none ∧ I' = va_up I 58 a' ∧ J' = va_up (va_up (va_up J 49 (va_up (J 49) 14 (zL ov))) 59 t') 61 l') → Q v I' J') → Cal 145 [.ref 49, .int (nI b)] I J Q := by
    intro Q hQ
    rw [en145]
    simp (disch := omega) only [k145_0, k145_1, k145_2, k145_3, k145_4, k145_5, Option.toList_some, Option.toList_none, List.cons_append, List.nil_append, nl_i, nl_r, nl_l, nl_n, nI_add]
    have key : ∀ z : Nat × (Nat → Nat) × (Nat → Int32), (z.1 ≤ 0 ∧ (∀ r, r < z.1 → z.2.2 r = nI (z.2.1 r) ∧ b < z.2.1 r ∧ z.2.1 r < b + 1 + 0 ∧ lb (hnd c) (z.2.1 r) = b) ∧ (∀ r, 1 ≤ z.2.1 r ∧ z.2.1 r < 4) ∧ (∀ r, r + 1 < z.1 → z.2.1 r < z.2.1 (r + 1)) ∧ ∀ m, b < m → m < b + 1 + 0 → lb (hnd c) m = b → ∃ r, r < z.1 ∧ z.2.1 r = m) → At 145 6 [some (.ref 49), some (.int (nI b)), some (.int (nI z.1)), some (.int (nI (b + 1 + 0))), none, none, none, none] [] (va_up I 58 z.2.2) J Q := by
      refine loop_st (α := Nat × (Nat → Nat) × (Nat → Int32)) (N := 3 - b) (P := fun i z => At 145 6 [some (.ref 49), some (.int (nI b)), some (.int (nI z.1)), some (.int (nI (b + 1 + i))), none, none, none, none] [] (va_up I 58 z.2.2) J Q) (G := fun i z => z.1 ≤ i ∧ (∀ r, r < z.1 → z.2.2 r = nI (z.2.1 r) ∧ b < z.2.1 r ∧ z.2.1 r < b + 1 + i ∧ lb (hnd c) (z.2.1 r) = b) ∧ (∀ r, 1 ≤ z.2.1 r ∧ z.2.1 r < 4) ∧ (∀ r, r + 1 < z.1 → z.2.1 r < z.2.1 (r + 1)) ∧ ∀ m, b < m → m < b + 1 + i → lb (hnd c) m = b → ∃ r, r < z.1 ∧ z.2.1 r = m) ?_ ?_
      · rintro ⟨n, g, a'⟩ ⟨h1, h2, h3, h4, h5⟩
        dsimp only at h1 h2 h3 h4 h5 ⊢
        have e4 : 4 ≤ b + 1 + (3 - b) := by omega
        rw [k145_6]
        simp (disch := omega) only [k145_7, k145_8, nI_leI, e4, ↓reduceIte]
        have H : isAm (hnd c) b n g := ⟨by omega, fun r hr => ⟨(h2 r hr).2.1, (h2 r hr).2.2.2⟩, h3, h4, fun m hm hm4 hl => h5 m hm (by omega) hl⟩
        refine s145_40 (c := c) (fz := fz) ?_ hb ?_ hbb H ?_ hf hfb ?_
        · rw [up_ne _ _ (by omega)]; exact hc
        · intro k hk
          rw [up_ne _ _ (by omega)]
          exact hL k hk
        · intro r hr
          rw [va_up_s]
          exact (h2 r hr).1
        · intro t' l' K ov lev hS hl
          exact hQ _ _ _ ⟨a', t', l', K, ov, lev, ⟨hS, hl⟩, rfl, rfl, rfl⟩
      · rintro i ⟨n, g, a'⟩ hi ⟨h1, h2, h3, h4, h5⟩ ih
        dsimp only at h1 h2 h3 h4 h5 ⊢
        have e4 : ¬ 4 ≤ b + 1 + i := by omega
        have hLm := hL (12 + (b + 1 + i)) (by omega)
        have hLB : LB (hnd c) (12 + (b + 1 + i)) = lb (hnd c) (b + 1 + i) := by unfold LB; rw [if_neg (by omega), show 12 + (b + 1 + i) - 12 = b + 1 + i by omega]
        rw [hLB] at hLm
        have henc : (enc (lb (hnd c) (b + 1 + i)) = nI b) = (lb (hnd c) (b + 1 + i) = b) := by rw [← enc_lt hb]; exact enc_eq (lb_le4 _ _) (by omega)
        rw [k145_6]
        simp (disch := omega) only [k145_7, k145_8, k145_11, k145_12, k145_15, k145_17, k145_18, k145_19, k145_20, k145_21, Option.toList_some, Option.toList_none, List.cons_append, List.nil_append, nl_i, nl_r, nl_l, nl_n, nI_leI, e4, ↓reduceIte, nI_add, nI_clamp, bnd, ly_57, Nat.reduceLT, true_and, and_true, up_ne, hLm, henc]
        by_cases hl : lb (hnd c) (b + 1 + i) = b
        · rw [if_neg (show ¬ ¬ lb (hnd c) (b + 1 + i) = b from fun q => q hl)]
          simp (disch := omega) only [k145_24, k145_25, k145_28, k145_29, k145_30, k145_31, k145_34, k145_37, Option.toList_some, Option.toList_none, List.cons_append, List.nil_append, nl_i, nl_r, nl_l, nl_n, nI_add, nI_clamp, bnd, ly_58, Nat.reduceLT, true_and, and_true, va_up_s, up_same]
          have := ih (n + 1, va_up g n (b + 1 + i), va_up a' n (nI (b + 1 + i))) ⟨by omega, fun r hr => ?_, fun r => ?_, fun r hr => ?_, fun m h6 h7 h8 => ?_⟩
          · exact this
          · dsimp only at hr ⊢
            by_cases e : r = n
            · subst e
              rw [va_up_s, va_up_s]
              exact ⟨rfl, by omega, by omega, hl⟩
            · rw [va_up_n _ _ e, va_up_n _ _ e]
              have := h2 r (by omega)
              exact ⟨this.1, this.2.1, by omega, this.2.2.2⟩
          · dsimp only
            by_cases e : r = n
            · subst e; rw [va_up_s]; omega
            · rw [va_up_n _ _ e]; exact h3 r
          · dsimp only at hr ⊢
            by_cases e : r + 1 = n
            · subst e
              rw [va_up_s, va_up_n _ _ (by omega)]
              have := (h2 r (by omega)).2.2.1
              omega
            · rw [va_up_n _ _ e, va_up_n _ _ (by omega)]
              exact h4 r (by omega)
          · dsimp only
            by_cases e : m = b + 1 + i
            · exact ⟨n, by omega, by rw [va_up_s]; exact e.symm⟩
            · obtain ⟨r, hr, hgr⟩ := h5 m h6 (by omega) h8
              exact ⟨r, by omega, by rw [va_up_n _ _ (by omega)]; exact hgr⟩
        · rw [if_pos hl]
          simp (disch := omega) only [k145_34, k145_37, Option.toList_some, Option.toList_none, List.cons_append, List.nil_append, nl_i, nl_r, nl_l, nl_n, nI_add]
          refine ih (n, g, a') ⟨by dsimp only; omega, fun r hr => ?_, h3, h4, fun m h6 h7 h8 => ?_⟩
          · have := h2 r hr
            exact ⟨this.1, this.2.1, by have := this.2.2.1; dsimp only; omega, this.2.2.2⟩
          · by_cases e : m = b + 1 + i
            · subst e; exact absurd h8 hl
            · exact h5 m h6 (by omega) h8
    have := key (0, fun _ => 1, I 58) ⟨Nat.le_refl _, fun r hr => (by cases hr), fun r => ⟨Nat.le_refl _, (by show 1 < 4; decide)⟩, fun r hr => (by cases hr), fun m h1 h2 _ => by omega⟩
    dsimp only at this
    rw [up_id] at this
    exact this
  obtain ⟨v, I', J', ⟨a', t', l', K, ov, lev, hS, rfl, rfl, rfl⟩, hc2⟩ := Cal_ex main
  exact ⟨a', t', l', K, ov, lev, hS, hc2⟩
end SLVC
