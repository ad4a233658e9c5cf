/-! CALLS: read, sheet, lose, put, get, copy, write -/
def setF (σ : PS) (f : Int32) : PS := (σ.1, σ.2.1, σ.2.2.1, σ.2.2.2.1, f)
def setS (σ : PS) (z : (Nat → Int32) × (Nat → Nat) × (Nat → Int32)) : PS := (σ.1, σ.2.1, σ.2.2.1, z, σ.2.2.2.2)
/-- types, sizes, items -/
def ty (σ : PS) : Nat → Int32 := σ.2.2.2.1.1
def sz (σ : PS) : Nat → Nat := σ.2.2.2.1.2.1
def it (σ : PS) : Nat → Int32 := σ.2.2.2.1.2.2
def rdT (f0 : Nat → Int32) (s : Nat) (tm : Int32) : Nat → Nat → TT → Nat × TT
  | 0, i, T => (i, T)
  | f + 1, i, T => if mOK T (f0 (48 * s + 3 * i)) (f0 (48 * s + (3 * i + 1))) (f0 (48 * s + (3 * i + 2))) tm = true ∧ T.1 ≠ 100 then rdT f0 s tm f (i + 1) (addT T (f0 (48 * s + 3 * i)) (f0 (48 * s + (3 * i + 1))) (f0 (48 * s + (3 * i + 2))) tm) else (i, T)
def aRead (σ : PS) (x x1 : Int32) : Int32 := if inr x 4 = true ∧ inL σ.1 x1 = true then (if ty σ (tN x) = -1 then -10 - nI 1 else nI (rdT (it σ) (tN x) x1 (sz σ (tN x) / 3) 0 σ.1).1) else -2
def sRead (σ : PS) (x x1 : Int32) : PS := if inr x 4 = true ∧ inL σ.1 x1 = true then (if ty σ (tN x) = -1 then setF σ (nI 1) else setT σ (rdT (it σ) (tN x) x1 (sz σ (tN x) / 3) 0 σ.1).2) else σ
theorem m2l : ((0 : Int32) ≤ -2) = False := by decide
theorem m4l : ((0 : Int32) ≤ -4) = False := by decide
theorem m2g : ((-2 : Int32) ≤ 0) = True := by decide
theorem m4g : ((-4 : Int32) ≤ 0) = True := by decide
section SCALL
variable {I : ab_I} {J : ab_J} {Q : Option Value → ab_I → ab_J → Prop} {σ : PS} {x x1 x2 x3 x4 : Int32}
theorem RC_find (h : RC σ I J) : RC (setF σ x) (va_up I 0 (va_up (I 0) 11 x)) J := by
  have eI : ∀ k, k ≠ 0 → va_up I 0 (va_up (I 0) 11 x) k = I k := fun k hk => va_up_n _ _ hk
  have e0 : va_up I 0 (va_up (I 0) 11 x) 0 10 = I 0 10 := by simp (disch := omega) only [va_up_s, up_ne]
  obtain ⟨⟨h1, ⟨a1, a2, a3, a4⟩, h3, ⟨b1, b2, b3, b4, b5, b6, b7, b8⟩, ⟨c1, c2⟩, h6⟩, hZ, hS⟩ := h
  refine ⟨⟨h1, ⟨?_, ?_, ?_, ?_⟩, ?_, ⟨b1, b2, ?_, ?_, b5, ?_, ?_, ?_⟩, ⟨?_, ?_⟩, ?_⟩, ?_, ?_⟩
  · rw [eI 1 (by omega)]; exact a1
  · rw [eI 2 (by omega), eI 3 (by omega), eI 4 (by omega)]; exact a2
  · rw [eI 1 (by omega)]; exact a3
  · rw [eI 1 (by omega)]; exact a4
  · rw [eI 48 (by omega)]; exact h3
  · rw [eI 39 (by omega)]; exact b3
  · rw [eI 40 (by omega)]; exact b4
  · rw [eI 39 (by omega)]; exact b6
  · rw [eI 41 (by omega), eI 42 (by omega)]; exact b7
  · rw [eI 39 (by omega)]; exact b8
  · rw [eI 45 (by omega), eI 46 (by omega)]; exact c1
  · rw [eI 44 (by omega)]; exact c2
  · rw [va_up_s, va_up_s]; rfl
  · unfold Z6; rw [eI 6 (by omega), eI 47 (by omega), eI 18 (by omega)]; exact hZ
  · show _ ∨ SetOK (cc σ.1) (oo σ.1) _ J
    unfold SetOK TieOK WsOK StOK at hS ⊢
    rw [e0, eI (5 + 1) (by omega), eI (5 + 2) (by omega), eI (5 + 4) (by omega), eI (5 + 5) (by omega), eI (5 + 6) (by omega), eI 5 (by omega), eI 47 (by omega), eI 29 (by omega)]
    exact hS
theorem RR_find (h : RR σ I) : RR (setF σ x) (va_up I 49 (va_up (I 49) 40 x)) := by
  have eI : ∀ k, k ≠ 49 → va_up I 49 (va_up (I 49) 40 x) k = I k := fun k hk => va_up_n _ _ hk
  obtain ⟨⟨h1, ⟨a1, a2, a3⟩, h3, ⟨b1, b2, b3, b4⟩, ⟨c1, c2⟩, h6⟩, hZ⟩ := h
  refine ⟨⟨h1, ⟨?_, ?_, ?_⟩, ?_, ⟨b1, b2, ?_, ?_⟩, ⟨?_, ?_⟩, ?_⟩, ?_⟩
  · simp (disch := omega) only [va_up_s, up_ne]; exact a1
  · rw [eI 50 (by omega), eI 51 (by omega), eI 52 (by omega), eI 53 (by omega)]; exact a2
  · simp (disch := omega) only [va_up_s, up_ne]; exact a3
  · rw [eI 54 (by omega)]; exact h3
  · simp (disch := omega) only [va_up_s, up_ne]; exact b3
  · rw [eI 64 (by omega)]; exact b4
  · rw [eI 70 (by omega), eI 71 (by omega), eI 72 (by omega)]; exact c1
  · rw [eI 73 (by omega)]; exact c2
  · rw [va_up_s, va_up_s]; rfl
  · unfold Z55; rw [eI 55 (by omega), eI 56 (by omega)]; exact hZ
theorem RC_sheet {z : (Nat → Int32) × (Nat → Nat) × (Nat → Int32)} {I' : ab_I} (h : RC σ I J) (f : ∀ k, ¬ (44 ≤ k ∧ k ≤ 46) → I' k = I k) (hz : SCk z I') : RC (setS σ z) I' J := by
  obtain ⟨⟨h1, ⟨a1, a2, a3, a4⟩, h3, ⟨b1, b2, b3, b4, b5, b6, b7, b8⟩, -, h6⟩, hZ, hS⟩ := h
  refine ⟨⟨h1, ⟨?_, ?_, ?_, ?_⟩, ?_, ⟨b1, b2, ?_, ?_, b5, ?_, ?_, ?_⟩, hz, ?_⟩, ?_, ?_⟩
  · rw [f 1 (by omega)]; exact a1
  · rw [f 2 (by omega), f 3 (by omega), f 4 (by omega)]; exact a2
  · rw [f 1 (by omega)]; exact a3
  · rw [f 1 (by omega)]; exact a4
  · rw [f 48 (by omega)]; exact h3
  · rw [f 39 (by omega)]; exact b3
  · rw [f 40 (by omega)]; exact b4
  · rw [f 39 (by omega)]; exact b6
  · rw [f 41 (by omega), f 42 (by omega)]; exact b7
  · rw [f 39 (by omega)]; exact b8
  · rw [f 0 (by omega)]; exact h6
  · unfold Z6; rw [f 6 (by omega), f 47 (by omega), f 18 (by omega)]; exact hZ
  · show _ ∨ SetOK (cc σ.1) (oo σ.1) _ J
    unfold SetOK TieOK WsOK StOK at hS ⊢
    rw [f 0 (by omega), f (5 + 1) (by omega), f (5 + 2) (by omega), f (5 + 4) (by omega), f (5 + 5) (by omega), f (5 + 6) (by omega), f 5 (by omega), f 47 (by omega), f 29 (by omega)]
    exact hS
theorem RR_sheet {z : (Nat → Int32) × (Nat → Nat) × (Nat → Int32)} {I' : ab_I} (h : RR σ I) (f : ∀ k, ¬ (70 ≤ k ∧ k ≤ 74) → I' k = I k) (hz : SRk z I') : RR (setS σ z) I' := by
  obtain ⟨⟨h1, ⟨a1, a2, a3⟩, h3, ⟨b1, b2, b3, b4⟩, -, h6⟩, hZ⟩ := h
  refine ⟨⟨h1, ⟨?_, ?_, ?_⟩, ?_, ⟨b1, b2, ?_, ?_⟩, hz, ?_⟩, ?_⟩
  · rw [f 49 (by omega)]; exact a1
  · rw [f 50 (by omega), f 51 (by omega), f 52 (by omega), f 53 (by omega)]; exact a2
  · rw [f 49 (by omega)]; exact a3
  · rw [f 54 (by omega)]; exact h3
  · rw [f 49 (by omega)]; exact b3
  · rw [f 64 (by omega)]; exact b4
  · rw [f 49 (by omega)]; exact h6
  · unfold Z55; rw [f 55 (by omega), f 56 (by omega)]; exact hZ
theorem Hi_refl : Hi I J I J := fun _ _ => ⟨rfl, rfl⟩
theorem Lo_refl : Lo I J I J := fun _ _ => ⟨rfl, rfl⟩
theorem Hi_trans {I1 I2 : ab_I} {J1 J2 : ab_J} (h : Hi I J I1 J1) (h' : Hi I1 J1 I2 J2) : Hi I J I2 J2 := fun k hk => ⟨(h' k hk).1.trans (h k hk).1, (h' k hk).2.trans (h k hk).2⟩
theorem Lo_trans {I1 I2 : ab_I} {J1 J2 : ab_J} (h : Lo I J I1 J1) (h' : Lo I1 J1 I2 J2) : Lo I J I2 J2 := fun k hk => ⟨(h' k hk).1.trans (h k hk).1, (h' k hk).2.trans (h k hk).2⟩
theorem Hi_find : Hi I J (va_up I 0 (va_up (I 0) 11 x)) J := fun k hk => ⟨up_ne _ _ (by omega), rfl⟩
theorem Lo_find : Lo I J (va_up I 49 (va_up (I 49) 40 x)) J := fun k hk => ⟨up_ne _ _ (by omega), rfl⟩
theorem n3 : ¬ nI 3 = 0 := by decide
theorem dv3 {a : Nat} (h : a < 2 ^ 31) : nI a / nI 3 = nI (a / 3) := pk_div h (by decide) (by decide)
set_option maxRecDepth 100000 in
theorem l77 {s w : Nat} {I0 : ab_I} {J0 : ab_J} {z : (Nat → Int32) × (Nat → Nat) × (Nat → Int32)} (hs : s < 4) (hw : w ≤ 16) : ∀ (f i : Nat) (σ : PS) (I : ab_I) (J : ab_J), i + f = w → σ.2.2.2.1 = z → RC σ I J → Hi I0 J0 I J → (∀ I' J', RC (setT σ (rdT z.2.2 s x f i σ.1).2) I' J' → Hi I0 J0 I' J' → Q (some (.int (nI (rdT z.2.2 s x f i σ.1).1))) I' J') → ∀ a5 a6 : Option Value, At 77 53 [some (.ref 0), some (.int (nI s)), some (.int x), some (.int (nI w)), some (.int (nI i)), a5, a6] [] I J Q
  | 0, i, σ, I, J, hf, hz, hR, hH, hQ, a5, a6 => by
    have e0 : w ≤ i := by omega
    have e1 : i = w := by omega
    rw [k77_53]
    simp (disch := omega) only [k77_55, k77_56, k77_124, k77_125, nI_leI, e0, ↓reduceIte]
    rw [← e1]
    exact hQ I J hR hH
  | f + 1, i, σ, I, J, hf, hz, hR, hH, hQ, a5, a6 => by
    have e0 : ¬ w ≤ i := by omega
    have hit : ∀ k, k < 192 → I 44 k = z.2.2 k := by rw [← hz]; exact hR.1.2.2.2.2.1.2
    have i0 := hit (48 * s + 3 * i) (by omega)
    have i1 := hit (48 * s + (3 * i + 1)) (by omega)
    have i2 := hit (48 * s + (3 * i + 2)) (by omega)
    obtain ⟨I1, J1, ⟨g1, g2⟩, hcal⟩ := q76 (x := z.2.2 (48 * s + 3 * i)) (x1 := z.2.2 (48 * s + (3 * i + 1))) (x2 := z.2.2 (48 * s + (3 * i + 2))) (x3 := x) hR
    have hn := hR.1.1.1
    rw [k77_53]
    simp (disch := omega) only [k77_55, k77_56, k77_59, k77_60, k77_63, k77_64, k77_65, k77_67, k77_68, k77_71, k77_73, k77_74, k77_77, k77_78, k77_79, k77_81, k77_82, k77_83, k77_84, k77_87, k77_89, k77_90, k77_92, k77_94, k77_95, k77_98, k77_99, k77_100, k77_102, k77_103, k77_104, k77_105, k77_108, k77_109, Option.toList_some, Option.toList_none, List.cons_append, List.nil_append, nl_i, nl_r, nl_l, nl_n, nI_leI, e0, ↓reduceIte, pk_mul, nI_add, c58 hs (show 3 * i < 48 by omega), c58 hs (show 3 * i + 1 < 48 by omega), c58 hs (show 3 * i + 2 < 48 by omega), i0, i1, i2, hcal]
    unfold rdT at hQ
    by_cases q : mOK σ.1 (z.2.2 (48 * s + 3 * i)) (z.2.2 (48 * s + (3 * i + 1))) (z.2.2 (48 * s + (3 * i + 2))) x = true ∧ σ.1.1 ≠ 100
    · simp only [if_pos q] at hQ
      have ea : aMark σ.1 (z.2.2 (48 * s + 3 * i)) (z.2.2 (48 * s + (3 * i + 1))) (z.2.2 (48 * s + (3 * i + 2))) x = nI (σ.1.1 + 1) := (if_pos q.1).trans (if_neg q.2)
      have es : sMark σ.1 (z.2.2 (48 * s + 3 * i)) (z.2.2 (48 * s + (3 * i + 1))) (z.2.2 (48 * s + (3 * i + 2))) x = addT σ.1 (z.2.2 (48 * s + 3 * i)) (z.2.2 (48 * s + (3 * i + 1))) (z.2.2 (48 * s + (3 * i + 2))) x := if_pos q
      have c1 : (0 : Int32) ≤ nI (σ.1.1 + 1) := nI_pos' (by omega)
      rw [es] at g1
      simp (disch := omega) only [k77_112, k77_118, k77_121, ea, c1, ↓reduceIte, Option.toList_some, Option.toList_none, List.cons_append, List.nil_append, nl_i, nl_r, nl_l, nl_n, nI_add]
      exact l77 hs hw f (i + 1) (setT σ (addT σ.1 (z.2.2 (48 * s + 3 * i)) (z.2.2 (48 * s + (3 * i + 1))) (z.2.2 (48 * s + (3 * i + 2))) x)) I1 J1 (by omega) hz g1 (Hi_trans hH g2) hQ _ _
    · simp only [if_neg q] at hQ
      have es : sMark σ.1 (z.2.2 (48 * s + 3 * i)) (z.2.2 (48 * s + (3 * i + 1))) (z.2.2 (48 * s + (3 * i + 2))) x = σ.1 := if_neg q
      rw [es] at g1
      have hQ := hQ I1 J1 g1 (Hi_trans hH g2)
      by_cases q1 : mOK σ.1 (z.2.2 (48 * s + 3 * i)) (z.2.2 (48 * s + (3 * i + 1))) (z.2.2 (48 * s + (3 * i + 2))) x = true
      · have q2 : σ.1.1 = 100 := Classical.byContradiction (fun w => q ⟨q1, w⟩)
        have ea : aMark σ.1 (z.2.2 (48 * s + 3 * i)) (z.2.2 (48 * s + (3 * i + 1))) (z.2.2 (48 * s + (3 * i + 2))) x = -4 := (if_pos q1).trans (if_pos q2)
        simp (disch := omega) only [k77_112, k77_115, k77_117, ea, m4l, ↓reduceIte, Option.toList_some, Option.toList_none, List.cons_append, List.nil_append, nl_i, nl_r, nl_l, nl_n]
        exact hQ
      · have ea : aMark σ.1 (z.2.2 (48 * s + 3 * i)) (z.2.2 (48 * s + (3 * i + 1))) (z.2.2 (48 * s + (3 * i + 2))) x = -2 := if_neg q1
        simp (disch := omega) only [k77_112, k77_115, k77_117, ea, m2l, ↓reduceIte, Option.toList_some, Option.toList_none, List.cons_append, List.nil_append, nl_i, nl_r, nl_l, nl_n]
        exact hQ
set_option maxRecDepth 100000 in
theorem q77 (hR : RC σ I J) : ∃ I' J', (RC (sRead σ x x1) I' J' ∧ Hi I J I' J') ∧ ∀ Q : Option Value → ab_I → ab_J → Prop, Cal 77 [.ref 0, .int x, .int x1] I J Q ↔ Q (some (.int (aRead σ x x1))) I' J' := by
  obtain ⟨t1, t2, t3, t4⟩ := hR.1.2.1
  have c67' : ∀ Q : Option Value → ab_I → ab_J → Prop, Cal 67 [.ref 1, .int x1] I J Q ↔ Q (some (.int (bI (inL σ.1 x1)))) I J := by
    intro Q
    rw [c67, t3, inLc]
  by_cases hb : inr x 4 = true ∧ inL σ.1 x1 = true
  · obtain ⟨s, hs, rfl⟩ := inr_nI hb.1
    obtain ⟨z1, z2, z3⟩ := hR.1.2.2.2.2.1.1 s hs
    have e45 : I 45 s = ty σ s := z2
    have e46 : I 46 s = nI (sz σ s) := z3
    have zl : sz σ s ≤ 48 := z1
    rw [show aRead σ (nI s) x1 = _ from if_pos hb, show sRead σ (nI s) x1 = _ from if_pos hb, tN_nI (by omega)]
    by_cases q : ty σ s = -1
    · rw [if_pos q, if_pos q]
      refine ⟨_, J, ⟨RC_find hR, Hi_find⟩, fun Q => ?_⟩
      rw [en77]
      simp (disch := omega) only [k77_0, k77_1, k77_4, k77_7, k77_8, k77_11, k77_12, k77_15, k77_18, k77_20, k77_21, k77_22, k77_25, k77_26, k77_29, k77_32, k77_33, k77_34, k77_37, k77_38, k77_39, k77_42, k77_45, k77_46, k77_47, k77_48, k77_49, k77_50, k77_51, k77_55, k77_56, k77_59, k77_60, k77_63, k77_64, k77_65, k77_67, k77_68, k77_71, k77_73, k77_74, k77_77, k77_78, k77_79, k77_81, k77_82, k77_83, k77_84, k77_87, k77_89, k77_90, k77_92, k77_94, k77_95, k77_98, k77_99, k77_100, k77_102, k77_103, k77_104, k77_105, k77_108, k77_109, k77_112, k77_115, k77_117, k77_118, k77_121, k77_124, k77_125, Option.toList_some, Option.toList_none, List.cons_append, List.nil_append, nl_i, nl_r, nl_l, nl_n, c118, hb.1, hb.2, c67', bI_0, Bool.true_eq_false, not_false_eq_true, ↓reduceIte, c53 hs, e45, q, decide_true, c111]
    · rw [if_neg q, if_neg q]
      have main : ∀ Q : Option Value → ab_I → ab_J → Prop, (∀ v I' J', ((RC (setT σ (rdT (it σ) s x1 (sz σ s / 3) 0 σ.1).2) I' J' ∧ Hi I J I' J') ∧ v = some (.int (nI (rdT (it σ) s x1 (sz σ s / 3) 0 σ.1).1))) → Q v I' J') → Cal 77 [.ref 0, .int (nI s), .int x1] I J Q := by
        intro Q hQ
        rw [en77]
        simp (disch := omega) only [k77_0, k77_1, k77_4, k77_7, k77_8, k77_11, k77_12, k77_15, k77_21, k77_22, k77_25, k77_26, k77_29, k77_38, k77_39, k77_42, k77_45, k77_46, k77_47, k77_48, k77_49, k77_50, k77_51, Option.toList_some, Option.toList_none, List.cons_append, List.nil_append, nl_i, nl_r, nl_l, nl_n, c118, hb.1, hb.2, c67', bI_0, Bool.true_eq_false, not_false_eq_true, ↓reduceIte, c53 hs, e45, q, decide_false, nI_clamp, bnd, ly_46, Nat.reduceLT, true_and, and_true, e46, n3, dv3]
        exact l77 hs (by omega) (sz σ s / 3) 0 σ I J (by omega) rfl hR Hi_refl (fun I' J' h1 h2 => hQ _ _ _ ⟨⟨h1, h2⟩, rfl⟩) _ _
      obtain ⟨v, I', J', ⟨h1, rfl⟩, hc2⟩ := Cal_ex main
      exact ⟨I', J', h1, hc2⟩
  · refine ⟨I, J, ⟨?_, Hi_refl⟩, fun Q => ?_⟩
    · rw [show sRead σ x x1 = σ from if_neg hb]; exact hR
    · rw [en77, show aRead σ x x1 = _ from if_neg hb]
      cases q1 : inr x 4
      · simp only [k77_0, k77_1, k77_4, k77_7, k77_8, k77_11, k77_12, k77_15, k77_18, k77_20, k77_21, k77_22, k77_25, k77_26, k77_29, k77_32, k77_33, k77_34, k77_37, k77_38, k77_39, k77_42, k77_45, k77_46, k77_47, k77_48, k77_49, k77_50, k77_51, k77_55, k77_56, k77_59, k77_60, k77_63, k77_64, k77_65, k77_67, k77_68, k77_71, k77_73, k77_74, k77_77, k77_78, k77_79, k77_81, k77_82, k77_83, k77_84, k77_87, k77_89, k77_90, k77_92, k77_94, k77_95, k77_98, k77_99, k77_100, k77_102, k77_103, k77_104, k77_105, k77_108, k77_109, k77_112, k77_115, k77_117, k77_118, k77_121, k77_124, k77_125, Option.toList_some, Option.toList_none, List.cons_append, List.nil_append, nl_i, nl_r, nl_l, nl_n, c118, q1, bI_0, ↓reduceIte]
      · cases q2 : inL σ.1 x1
        · simp only [k77_0, k77_1, k77_4, k77_7, k77_8, k77_11, k77_12, k77_15, k77_18, k77_20, k77_21, k77_22, k77_25, k77_26, k77_29, k77_32, k77_33, k77_34, k77_37, k77_38, k77_39, k77_42, k77_45, k77_46, k77_47, k77_48, k77_49, k77_50, k77_51, k77_55, k77_56, k77_59, k77_60, k77_63, k77_64, k77_65, k77_67, k77_68, k77_71, k77_73, k77_74, k77_77, k77_78, k77_79, k77_81, k77_82, k77_83, k77_84, k77_87, k77_89, k77_90, k77_92, k77_94, k77_95, k77_98, k77_99, k77_100, k77_102, k77_103, k77_104, k77_105, k77_108, k77_109, k77_112, k77_115, k77_117, k77_118, k77_121, k77_124, k77_125, Option.toList_some, Option.toList_none, List.cons_append, List.nil_append, nl_i, nl_r, nl_l, nl_n, c118, c67', q1, q2, bI_0, Bool.true_eq_false, not_true_eq_false, ↓reduceIte]
        · exact absurd ⟨q1, q2⟩ hb
set_option maxRecDepth 100000 in
theorem l136 {s w : Nat} {I0 : ab_I} {J0 : ab_J} {z : (Nat → Int32) × (Nat → Nat) × (Nat → Int32)} (hs : s < 4) (hw : z.2.1 s / 3 = w) (hty : z.1 s ≠ -1) : ∀ (f i : Nat) (σ : PS) (I : ab_I) (J : ab_J), i + f = w → σ.2.2.2.1 = z → RR σ I → Lo I0 J0 I J → (∀ I' J', RR (setT σ (rdT z.2.2 s x f i σ.1).2) I' → Lo I0 J0 I' J' → Q (some (.int (nI (rdT z.2.2 s x f i σ.1).1))) I' J') → At 136 41 [some (.ref 49), some (.int (nI s)), some (.int x), some (.int (nI i))] [] I J Q
  | f, i, σ, I, J, hf, hz, hR, hH, hQ => by
    obtain ⟨y1, y2, y3⟩ := hR.1.2.2.2.2.1.1 s hs
    rw [hz] at y1 y3
    have e72 := (y3 hty).2
    rw [k136_41]
    cases f with
    | zero =>
      have e0 : z.2.1 s ≤ 3 * i + 2 := by omega
      simp (disch := omega) only [k136_42, k136_43, k136_44, k136_45, k136_46, k136_47, k136_50, k136_51, k136_52, k136_112, k136_113, Option.toList_some, Option.toList_none, List.cons_append, List.nil_append, nl_i, nl_r, nl_l, nl_n, pk_mul, nI_add, nI_clamp, bnd, ly_72, Nat.reduceLT, true_and, and_true, e72, nI_leI, e0, ↓reduceIte]
      exact hQ I J hR hH
    | succ f =>
      have e0 : ¬ z.2.1 s ≤ 3 * i + 2 := by omega
      have hit : ∀ k, k < 192 → I 73 k = z.2.2 k := by rw [← hz]; exact hR.1.2.2.2.2.1.2
      have i0 := hit (48 * s + 3 * i) (by omega)
      have i1 := hit (48 * s + (3 * i + 1)) (by omega)
      have i2 := hit (48 * s + (3 * i + 2)) (by omega)
      obtain ⟨I1, J1, ⟨g1, g2⟩, hcal⟩ := r134 (J := J) (x := z.2.2 (48 * s + 3 * i)) (x1 := z.2.2 (48 * s + (3 * i + 1))) (x2 := z.2.2 (48 * s + (3 * i + 2))) (x3 := x) hR
      have hn := hR.1.1.1
      simp (disch := omega) only [k136_42, k136_43, k136_44, k136_45, k136_46, k136_47, k136_50, k136_51, k136_52, k136_55, k136_56, k136_57, k136_60, k136_62, k136_63, k136_64, k136_65, k136_66, k136_67, k136_68, k136_69, k136_70, k136_73, k136_75, k136_76, k136_77, k136_78, k136_79, k136_80, k136_81, k136_82, k136_83, k136_84, k136_85, k136_88, k136_90, k136_91, k136_92, k136_93, k136_94, k136_95, k136_96, k136_97, k136_98, k136_99, k136_100, Option.toList_some, Option.toList_none, List.cons_append, List.nil_append, nl_i, nl_r, nl_l, nl_n, pk_mul, nI_add, nI_clamp, bnd, ly_72, ly_73, Nat.reduceLT, true_and, and_true, e72, nI_leI, e0, ↓reduceIte, Nat.add_assoc, i0, i1, i2, hcal]
      unfold rdT at hQ
      by_cases q : mOK σ.1 (z.2.2 (48 * s + 3 * i)) (z.2.2 (48 * s + (3 * i + 1))) (z.2.2 (48 * s + (3 * i + 2))) x = true ∧ σ.1.1 ≠ 100
      · simp only [if_pos q] at hQ
        have ea : aMark σ.1 (z.2.2 (48 * s + 3 * i)) (z.2.2 (48 * s + (3 * i + 1))) (z.2.2 (48 * s + (3 * i + 2))) x = nI (σ.1.1 + 1) := (if_pos q.1).trans (if_neg q.2)
        have es : sMark σ.1 (z.2.2 (48 * s + 3 * i)) (z.2.2 (48 * s + (3 * i + 1))) (z.2.2 (48 * s + (3 * i + 2))) x = addT σ.1 (z.2.2 (48 * s + 3 * i)) (z.2.2 (48 * s + (3 * i + 1))) (z.2.2 (48 * s + (3 * i + 2))) x := if_pos q
        have c1 : (nI (σ.1.1 + 1) ≤ 0) = (σ.1.1 + 1 = 0) := le0 (by omega)
        have c2 : ¬ σ.1.1 + 1 = 0 := by omega
        rw [es] at g1
        simp (disch := omega) only [k136_103, k136_106, k136_109, ea, c1, c2, ↓reduceIte, Option.toList_some, Option.toList_none, List.cons_append, List.nil_append, nl_i, nl_r, nl_l, nl_n, nI_add]
        exact l136 hs hw hty f (i + 1) (setT σ (addT σ.1 (z.2.2 (48 * s + 3 * i)) (z.2.2 (48 * s + (3 * i + 1))) (z.2.2 (48 * s + (3 * i + 2))) x)) I1 J1 (by omega) hz g1 (Lo_trans hH g2) hQ
      · simp only [if_neg q] at hQ
        have es : sMark σ.1 (z.2.2 (48 * s + 3 * i)) (z.2.2 (48 * s + (3 * i + 1))) (z.2.2 (48 * s + (3 * i + 2))) x = σ.1 := if_neg q
        rw [es] at g1
        have hQ := hQ I1 J1 g1 (Lo_trans hH g2)
        by_cases q1 : mOK σ.1 (z.2.2 (48 * s + 3 * i)) (z.2.2 (48 * s + (3 * i + 1))) (z.2.2 (48 * s + (3 * i + 2))) x = true
        · have q2 : σ.1.1 = 100 := Classical.byContradiction (fun w => q ⟨q1, w⟩)
          have ea : aMark σ.1 (z.2.2 (48 * s + 3 * i)) (z.2.2 (48 * s + (3 * i + 1))) (z.2.2 (48 * s + (3 * i + 2))) x = -4 := (if_pos q1).trans (if_pos q2)
          simp (disch := omega) only [k136_103, k136_112, k136_113, ea, m4g, ↓reduceIte, Option.toList_some, Option.toList_none, List.cons_append, List.nil_append, nl_i, nl_r, nl_l, nl_n]
          exact hQ
        · have ea : aMark σ.1 (z.2.2 (48 * s + 3 * i)) (z.2.2 (48 * s + (3 * i + 1))) (z.2.2 (48 * s + (3 * i + 2))) x = -2 := if_neg q1
          simp (disch := omega) only [k136_103, k136_112, k136_113, ea, m2g, ↓reduceIte, Option.toList_some, Option.toList_none, List.cons_append, List.nil_append, nl_i, nl_r, nl_l, nl_n]
          exact hQ
theorem c133T (hR : RR σ I) : Cal 133 [.ref 49] I J Q ↔ Q (some (.int (la σ.1))) I J := by
  obtain ⟨t1, t2, t3⟩ := hR.1.2.1
  rw [c133 t1 hR.1.1.1]
  unfold la
  by_cases q : σ.1.1 = 0
  · rw [if_pos q, if_pos q]
  · rw [if_neg q, if_neg q, (t2 (σ.1.1 - 1) (by omega)).2.2.2]
set_option maxRecDepth 100000 in
theorem r136 (hR : RR σ I) : ∃ I' J', (RR (sRead σ x x1) I' ∧ Lo I J I' J') ∧ ∀ Q : Option Value → ab_I → ab_J → Prop, Cal 136 [.ref 49, .int x, .int x1] I J Q ↔ Q (some (.int (aRead σ x x1))) I' J' := by
  by_cases hb : inr x 4 = true ∧ inL σ.1 x1 = true
  · obtain ⟨s, hs, rfl⟩ := inr_nI hb.1
    obtain ⟨z1, z2, z3⟩ := hR.1.2.2.2.2.1.1 s hs
    have e70 : I 70 s = bI (decide (ty σ s ≠ -1)) := z2
    rw [show aRead σ (nI s) x1 = _ from if_pos hb, show sRead σ (nI s) x1 = _ from if_pos hb, tN_nI (by omega)]
    by_cases q : ty σ s = -1
    · rw [if_pos q, if_pos q]
      refine ⟨_, J, ⟨RR_find hR, Lo_find⟩, fun Q => ?_⟩
      rw [decide_eq_false (fun w => w q)] at e70
      rw [en136]
      simp (disch := omega) only [k136_0, k136_1, k136_4, k136_7, k136_8, k136_9, k136_12, k136_15, k136_18, k136_21, k136_23, k136_24, k136_25, k136_28, k136_29, k136_30, k136_33, k136_34, k136_35, k136_38, k136_39, k136_40, k136_42, k136_43, k136_44, k136_45, k136_46, k136_47, k136_50, k136_51, k136_52, k136_55, k136_56, k136_57, k136_60, k136_62, k136_63, k136_64, k136_65, k136_66, k136_67, k136_68, k136_69, k136_70, k136_73, k136_75, k136_76, k136_77, k136_78, k136_79, k136_80, k136_81, k136_82, k136_83, k136_84, k136_85, k136_88, k136_90, k136_91, k136_92, k136_93, k136_94, k136_95, k136_96, k136_97, k136_98, k136_99, k136_100, k136_103, k136_106, k136_109, k136_112, k136_113, Option.toList_some, Option.toList_none, List.cons_append, List.nil_append, nl_i, nl_r, nl_l, nl_n, c189, c133T hR, c126, inLr, hb.1, hb.2, bI_0, Bool.true_eq_false, not_false_eq_true, not_true_eq_false, ↓reduceIte, nI_clamp, bnd, ly_70, Nat.reduceLT, true_and, and_true, e70, c188]
    · rw [if_neg q, if_neg q]
      rw [decide_eq_true q] at e70
      have main : ∀ Q : Option Value → ab_I → ab_J → Prop, (∀ v I' J', ((RR (setT σ (rdT (it σ) s x1 (sz σ s / 3) 0 σ.1).2) I' ∧ Lo I J I' J') ∧ v = some (.int (nI (rdT (it σ) s x1 (sz σ s / 3) 0 σ.1).1))) → Q v I' J') → Cal 136 [.ref 49, .int (nI s), .int x1] I J Q := by
        intro Q hQ
        rw [en136]
        simp (disch := omega) only [k136_0, k136_1, k136_4, k136_7, k136_8, k136_9, k136_12, k136_15, k136_18, k136_24, k136_25, k136_28, k136_29, k136_30, k136_39, k136_40, Option.toList_some, Option.toList_none, List.cons_append, List.nil_append, nl_i, nl_r, nl_l, nl_n, c189, c133T hR, c126, inLr, hb.1, hb.2, bI_0, Bool.true_eq_false, not_false_eq_true, not_true_eq_false, ↓reduceIte, nI_clamp, bnd, ly_70, Nat.reduceLT, true_and, and_true, e70]
        exact l136 hs rfl q (sz σ s / 3) 0 σ I J (Nat.zero_add _) rfl hR Lo_refl (fun I' J' h1 h2 => hQ _ _ _ ⟨⟨h1, h2⟩, rfl⟩)
      obtain ⟨v, I', J', ⟨h1, rfl⟩, hc2⟩ := Cal_ex main
      exact ⟨I', J', h1, hc2⟩
  · refine ⟨I, J, ⟨?_, Lo_refl⟩, fun Q => ?_⟩
    · rw [show sRead σ x x1 = σ from if_neg hb]; exact hR
    · rw [en136, show aRead σ x x1 = _ from if_neg hb]
      cases q1 : inr x 4
      · simp only [k136_0, k136_1, k136_4, k136_7, k136_8, k136_9, k136_12, k136_15, k136_18, k136_21, k136_23, k136_24, k136_25, k136_28, k136_29, k136_30, k136_33, k136_34, k136_35, k136_38, k136_39, k136_40, k136_42, k136_43, k136_44, k136_45, k136_46, k136_47, k136_50, k136_51, k136_52, k136_55, k136_56, k136_57, k136_60, k136_62, k136_63, k136_64, k136_65, k136_66, k136_67, k136_68, k136_69, k136_70, k136_73, k136_75, k136_76, k136_77, k136_78, k136_79, k136_80, k136_81, k136_82, k136_83, k136_84, k136_85, k136_88, k136_90, k136_91, k136_92, k136_93, k136_94, k136_95, k136_96, k136_97, k136_98, k136_99, k136_100, k136_103, k136_106, k136_109, k136_112, k136_113, Option.toList_some, Option.toList_none, List.cons_append, List.nil_append, nl_i, nl_r, nl_l, nl_n, c189, q1, bI_0, ↓reduceIte]
      · cases q2 : inL σ.1 x1
        · simp only [k136_0, k136_1, k136_4, k136_7, k136_8, k136_9, k136_12, k136_15, k136_18, k136_21, k136_23, k136_24, k136_25, k136_28, k136_29, k136_30, k136_33, k136_34, k136_35, k136_38, k136_39, k136_40, k136_42, k136_43, k136_44, k136_45, k136_46, k136_47, k136_50, k136_51, k136_52, k136_55, k136_56, k136_57, k136_60, k136_62, k136_63, k136_64, k136_65, k136_66, k136_67, k136_68, k136_69, k136_70, k136_73, k136_75, k136_76, k136_77, k136_78, k136_79, k136_80, k136_81, k136_82, k136_83, k136_84, k136_85, k136_88, k136_90, k136_91, k136_92, k136_93, k136_94, k136_95, k136_96, k136_97, k136_98, k136_99, k136_100, k136_103, k136_106, k136_109, k136_112, k136_113, Option.toList_some, Option.toList_none, List.cons_append, List.nil_append, nl_i, nl_r, nl_l, nl_n, c189, c133T hR, c126, inLr, q1, q2, bI_0, Bool.true_eq_false, not_true_eq_false, ↓reduceIte]
        · exact absurd ⟨q1, q2⟩ hb
end SCALL
