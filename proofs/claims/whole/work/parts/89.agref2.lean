/-! CALLS: the reference's agree -/
section AGS
variable {I : ab_I} {J : ab_J} {Q : Option Value → ab_I → ab_J → Prop} {σ : PS} {x x1 x2 x3 x4 : Int32}
theorem scO_cg {f1 f2 : Nat → Int32} {n : Nat} {o o' : Nat → Nat} (h : ∀ i, i < n → o i = o' i) : scO f1 f2 n o = scO f1 f2 n o' := by
  have e := fun o => sI_Lo (Fm_symm f1 f2 o) n
  unfold scO
  rw [e o, e o']
  refine Lo_cg n (fun p q hp hq => ?_)
  unfold Fm
  rw [h p hp, h q (by omega)]
theorem OS_cg {f1 f2 : Nat → Int32} {n : Nat} {o o' : Nat → Nat} (h : ∀ i, i < n → o i = o' i) (hO : OS n f1 f2 o I) : OS n f1 f2 o' I := ⟨hO.1, fun i hi => ⟨(hO.2 i hi).1, by rw [← h i hi]; exact (hO.2 i hi).2⟩⟩
/-- what agree leaves -/
def GF (I I' : ab_I) : Prop := (∀ k, k ≠ 49 → k ≠ 67 → k ≠ 68 → k ≠ 69 → I' k = I k) ∧ ∀ j, j ≠ 31 → I' 49 j = I 49 j
set_option maxRecDepth 100000 in
theorem l184 {n : Nat} {f1 f2 : Nat → Int32} {I0 : ab_I} {a b h : Int32} (h2 : 2 ≤ n) (hn : n ≤ 7) (hV : VS n f1 f2) : ∀ (l : List (Nat → Nat)) (A M : Nat) (I : ab_I), A + l.length ≤ 5040 → M ≤ A → ckF n l = true → GF I0 I → (∃ o r, l = o :: r ∧ OS n f1 f2 o I) → (∀ I' a5 a6, GF I0 I' → At 184 217 [some (.ref 49), some (.int a), some (.int b), some (.int h), some (.int (scO f1 f2 n (fun i => i))), some (.long (zL (A + l.length : Nat))), none, some (.long (zL (M + l.countP (fun o => decide (scO f1 f2 n (fun i => i) ≤ scO f1 f2 n o)) : Nat))), a5, a6] [] I' J Q) → At 184 178 [some (.ref 49), some (.int a), some (.int b), some (.int h), some (.int (scO f1 f2 n (fun i => i))), some (.long (zL (A : Nat))), none, some (.long (zL (M : Nat))), none, some (.int (nI 1))] [] I J Q
  | [], A, M, I, _, _, _, _, hex, _ => by obtain ⟨o, r, w, -⟩ := hex; cases w
  | o :: r, A, M, I, hA, hMA, hck, hF, hex, hQ => by
    obtain ⟨o', r', w, hO⟩ := hex
    obtain ⟨rfl, rfl⟩ := List.cons.inj w
    rw [List.length_cons] at hA
    have eA : zL ((A : Nat) : Int) + 1 = zL ((A + 1 : Nat) : Int) := by rw [zL_1, zL_add]; rfl
    obtain ⟨t1, t2⟩ := r183 (J := J) h2 hn hO
    have cnt1 : (o :: r).countP (fun o => decide (scO f1 f2 n (fun i => i) ≤ scO f1 f2 n o)) = r.countP (fun o => decide (scO f1 f2 n (fun i => i) ≤ scO f1 f2 n o)) + (if scO f1 f2 n (fun i => i) ≤ scO f1 f2 n o then 1 else 0) := by
      rw [List.countP_cons]
      by_cases q : scO f1 f2 n (fun i => i) ≤ scO f1 f2 n o
      · simp [q]
      · simp [q]
    rw [k184_178]
    simp (disch := omega) only [k184_180, k184_183, k184_185, k184_186, k184_187, k184_189, k184_191, k184_192, k184_195, k184_197, Option.toList_some, Option.toList_none, List.cons_append, List.nil_append, nl_i, nl_r, nl_l, nl_n, n10', ↓reduceIte, eA, r182 (show n ≤ 12 by omega) hO hV]
    -- behind the comparison
    have rest : ∀ M' : Nat, M' ≤ A + 1 → (∀ I' a5 a6, GF I0 I' → At 184 217 [some (.ref 49), some (.int a), some (.int b), some (.int h), some (.int (scO f1 f2 n (fun i => i))), some (.long (zL ((A + 1) + r.length : Nat))), none, some (.long (zL (M' + r.countP (fun o => decide (scO f1 f2 n (fun i => i) ≤ scO f1 f2 n o)) : Nat))), a5, a6] [] I' J Q) → At 184 206 [some (.ref 49), some (.int a), some (.int b), some (.int h), some (.int (scO f1 f2 n (fun i => i))), some (.long (zL (A + 1 : Nat))), none, some (.long (zL (M : Nat))), none, some (.int (nI 1))] [.long (zL (M' : Nat))] I J Q := by
      intro M' hM' hQ2
      cases r with
      | nil =>
        have tn0 : tn n o = none := by
          unfold ckF at hck
          exact Option.isNone_iff_eq_none.mp hck
        simp (disch := omega) only [k184_206, k184_208, k184_209, k184_212, k184_214, k184_178, k184_180, Option.toList_some, Option.toList_none, List.cons_append, List.nil_append, nl_i, nl_r, nl_l, nl_n, t1 tn0, n00', ↓reduceIte]
        exact hQ2 I _ _ hF
      | cons o2 r2 =>
        have hck2 : tnE n o o2 = true ∧ ckF n (o2 :: r2) = true := by
          unfold ckF at hck
          rw [Bool.and_eq_true] at hck
          exact hck
        obtain ⟨t, ht, te⟩ : ∃ t, tn n o = some t ∧ eqv n t o2 = true := by
          have q := hck2.1
          unfold tnE at q
          split at q
          · rename_i t ht; exact ⟨t, ht, q⟩
          · cases q
        obtain ⟨d, hd, hcal⟩ := t2 t ht
        simp (disch := omega) only [k184_206, k184_208, k184_209, k184_212, k184_214, Option.toList_some, Option.toList_none, List.cons_append, List.nil_append, nl_i, nl_r, nl_l, nl_n, hcal]
        refine l184 h2 hn hV (o2 :: r2) (A + 1) M' (va_up I 69 d) (by rw [List.length_cons] at hA ⊢; omega) hM' hck2.2 ⟨fun k h1 h2 h3 h4 => ?_, fun j hj => ?_⟩ ⟨o2, r2, rfl, OS_cg (fun i hi => eqv_i te hi) hd⟩ hQ2
        · rw [va_up_n _ _ h4]; exact hF.1 k h1 h2 h3 h4
        · rw [up_ne _ _ (by omega)]; exact hF.2 j hj
    rw [cnt1, List.length_cons] at hQ
    by_cases q : scO f1 f2 n o < scO f1 f2 n (fun i => i)
    · have q' : ¬ scO f1 f2 n (fun i => i) ≤ scO f1 f2 n o := ge_lt.mpr q
      rw [if_neg q', Nat.add_zero] at hQ
      rw [if_pos q]
      have e0 : zL ((M : Nat) : Int) + 0 = zL ((M : Nat) : Int) := by rw [zL_0, zL_add, Int.add_zero]
      simp (disch := omega) only [k184_204, k184_205, Option.toList_some, Option.toList_none, List.cons_append, List.nil_append, nl_i, nl_r, nl_l, nl_n, e0]
      refine rest M (by omega) ?_
      rw [show A + 1 + r.length = A + (r.length + 1) by omega]
      exact hQ
    · have q' : scO f1 f2 n (fun i => i) ≤ scO f1 f2 n o := by rw [i_lt] at q; rw [i_le]; omega
      rw [if_pos q'] at hQ
      rw [if_neg q]
      have e0 : zL ((M : Nat) : Int) + 1 = zL ((M + 1 : Nat) : Int) := by rw [zL_1, zL_add]; rfl
      simp (disch := omega) only [k184_200, k184_201, k184_205, Option.toList_some, Option.toList_none, List.cons_append, List.nil_append, nl_i, nl_r, nl_l, nl_n, e0]
      refine rest (M + 1) (by omega) ?_
      rw [show A + 1 + r.length = A + (r.length + 1) by omega, show M + 1 + r.countP (fun o => decide (scO f1 f2 n (fun i => i) ≤ scO f1 f2 n o)) = M + (r.countP (fun o => decide (scO f1 f2 n (fun i => i) ≤ scO f1 f2 n o)) + 1) by omega]
      exact hQ
theorem GF_RR {I' : ab_I} (h : RLd σ I) (f : GF I I') : RR σ I' ∧ QF I J I' J := by
  have q : QF I J I' J := ⟨fun k hk => f.1 k (by omega) (by omega) (by omega) (by omega), fun j hj => f.2 j (by omega), fun _ _ => rfl⟩
  refine ⟨⟨RRb_qf h.1 q, ?_⟩, q⟩
  intro k hk
  rw [f.1 55 (by omega) (by omega) (by omega) (by omega), f.1 56 (by omega) (by omega) (by omega) (by omega)]
  exact (RL_RR h).2 k hk
set_option maxRecDepth 100000 in
theorem r184 (hR : RR σ I) : ∃ I' J', (RR σ I' ∧ QF I J I' J') ∧ ∀ Q : Option Value → ab_I → ab_J → Prop, Cal 184 [.ref 49, .int x, .int x1, .int x2] I J Q ↔ Q (some (.int (aAgree (cc σ.1) x x1 x2))) I' J' := by
  by_cases hb : inr x 4 = true ∧ inr x1 4 = true ∧ x ≠ x1 ∧ inr x2 2 = true
  · obtain ⟨hb1, hb2, hb3, hb4⟩ := id hb
    obtain ⟨a, ha, rfl⟩ := inr_nI hb1
    obtain ⟨b, hbl, rfl⟩ := inr_nI hb2
    obtain ⟨I1, ⟨h1, h3⟩, hcal⟩ := st138 (J := J) hR
    have e55 : I1 55 = cc σ.1 := h1.2.1
    have hM := cc_MK hR.1.1
    have hV : VS (gP (cc σ.1) a b 12).1 (gP (cc σ.1) a b 12).2.1 (gP (cc σ.1) a b 12).2.2 := fun i hi => gP_v hM ha hbl 12 (Nat.le_refl _) i hi
    have nl := gP_le (cc σ.1) a b 12
    have main : ∀ Q : Option Value → ab_I → ab_J → Prop, (∀ v I' J', ((RR σ I' ∧ QF I J I' J') ∧ v = some (.int (aAgree (cc σ.1) (nI a) (nI b) x2))) → Q v I' J') → Cal 184 [.ref 49, .int (nI a), .int (nI b), .int x2] I J Q := by
      intro Q hQ
      have hQ : ∀ I', GF I1 I' → Q (some (.int (aAgree (cc σ.1) (nI a) (nI b) x2))) I' J := by
        intro I' hG
        obtain ⟨w1, w2⟩ := GF_RR (J := J) h1 hG
        exact hQ _ _ _ ⟨⟨w1, QF_trans h3 w2⟩, rfl⟩
      rw [show aAgree (cc σ.1) (nI a) (nI b) x2 = _ from if_pos hb, tN_nI (show a < 2 ^ 31 by omega), tN_nI (show b < 2 ^ 31 by omega)] at hQ
      rw [en184]
      simp (disch := omega) only [k184_0, k184_1, k184_4, k184_7, k184_8, k184_11, k184_14, k184_15, k184_16, k184_19, k184_20, k184_21, k184_22, k184_25, k184_31, k184_32, k184_35, k184_36, k184_37, k184_40, k184_41, Option.toList_some, Option.toList_none, List.cons_append, List.nil_append, nl_i, nl_r, nl_l, nl_n, c132, c126, in01, hb1, hb2, hb3, hb4, bI_0, Bool.true_eq_false, not_false_eq_true, ↓reduceIte, hcal]
      have outer : ∀ I2 J2, (J2 = J ∧ GF I1 I2 ∧ OS (gP (cc σ.1) a b 0).1 (gP (cc σ.1) a b 0).2.1 (gP (cc σ.1) a b 0).2.2 (fun i => i) I2) → At 184 43 [some (.ref 49), some (.int (nI a)), some (.int (nI b)), some (.int x2), some (.int (nI 0)), none, none, none, none, none] [] I2 J2 Q := by
        refine loop_ij (N := 12) (P := fun s I2 J2 => At 184 43 [some (.ref 49), some (.int (nI a)), some (.int (nI b)), some (.int x2), some (.int (nI s)), none, none, none, none, none] [] I2 J2 Q) (G := fun s I2 J2 => J2 = J ∧ GF I1 I2 ∧ OS (gP (cc σ.1) a b s).1 (gP (cc σ.1) a b s).2.1 (gP (cc σ.1) a b s).2.2 (fun i => i) I2) ?_ ?_
        · rintro I2 J2 ⟨rfl, hG, hO⟩
          have h31 := hO.1
          generalize gP (cc σ.1) a b 12 = z at *
          rw [k184_43]
          simp (disch := omega) only [k184_45, k184_47, k184_133, k184_134, k184_137, k184_138, Option.toList_some, Option.toList_none, List.cons_append, List.nil_append, nl_i, nl_r, nl_l, nl_n, nI_leI, Nat.le_refl, ↓reduceIte, h31]
          by_cases q1 : z.1 < 2
          · rw [if_pos q1] at hQ
            rw [if_neg (by omega)]
            simp (disch := omega) only [k184_141, k184_143]
            exact hQ I2 hG
          · rw [if_neg q1] at hQ
            rw [if_pos (by omega)]
            simp (disch := omega) only [k184_144, k184_145, k184_148, k184_150, k184_151, Option.toList_some, Option.toList_none, List.cons_append, List.nil_append, nl_i, nl_r, nl_l, nl_n, r182 nl hO hV]
            rcases inr2.mp hb4 with r | r
            · subst r
              rw [if_pos rfl] at hQ
              simp (disch := omega) only [k184_154, k184_156, n00', not_true_eq_false, ↓reduceIte]
              exact hQ I2 hG
            · subst r
              rw [if_neg (by decide)] at hQ
              simp (disch := omega) only [k184_157, k184_158, k184_161, k184_163, n10', not_false_eq_true, ↓reduceIte, h31, nI_leI]
              by_cases q7 : 7 < z.1
              · rw [if_pos q7] at hQ
                rw [if_neg (by omega)]
                simp (disch := omega) only [k184_166, k184_168]
                exact hQ I2 hG
              · rw [if_neg q7] at hQ
                rw [if_pos (by omega)]
                obtain ⟨c1, c2, c3, o0, r0, c4, c5⟩ := ckAll (n := z.1) (by omega) (by omega)
                obtain ⟨fb1, fb2⟩ := fac_b (n := z.1) (by omega)
                have cl := cnt_le z.2.1 z.2.2 (n := z.1) (by omega) (by omega)
                have o1 : ok ((fac z.1 : Nat) : Int) := okN (by omega)
                have d0 : ¬ zL ((fac z.1 : Nat) : Int) = 0 := by rw [zL_0, zL_eq o1 ok_0]; omega
                have ez : (1000000 : Int64) = zL 1000000 := by decide
                simp (disch := omega) only [k184_169, k184_170, k184_172, k184_173, k184_175, k184_176, Option.toList_some, Option.toList_none, List.cons_append, List.nil_append, nl_i, nl_r, nl_l, nl_n]
                refine l184 (h2 := by omega) (hn := by omega) hV (pms z.1) 0 0 I2 (by rw [c3]; omega) (Nat.le_refl _) c1 hG ⟨o0, r0, c4, OS_cg (fun i hi => (eqv_i c5 hi).symm) hO⟩ (fun I' a5 a6 hG' => ?_)
                rw [Nat.zero_add, Nat.zero_add, c3]
                simp (disch := omega) only [k184_217, k184_220, k184_222, k184_223, k184_225, k184_226, k184_227, Option.toList_some, Option.toList_none, List.cons_append, List.nil_append, nl_i, nl_r, nl_l, nl_n, ez, d0, not_false_eq_true, true_and]
                exact hQ I' hG'
        · rintro s I2 J2 hs ⟨rfl, hG, hO⟩ ih
          have e0 : ¬ 12 ≤ s := by omega
          have e55' : I2 55 = cc σ.1 := by rw [hG.1 55 (by decide) (by decide) (by decide) (by decide)]; exact e55
          have hl := gP_le (cc σ.1) a b s
          have h31 := hO.1
          rw [k184_43]
          simp (disch := omega) only [k184_45, k184_47, k184_50, k184_51, k184_53, k184_54, k184_57, k184_58, Option.toList_some, Option.toList_none, List.cons_append, List.nil_append, nl_i, nl_r, nl_l, nl_n, nI_leI, e0, ↓reduceIte, c140 hs ha, e55']
          unfold gP at ih
          by_cases q1 : cc σ.1 (4 * s + a) = -1
          · simp only [if_pos (Or.inl q1 : cc σ.1 (4 * s + a) = -1 ∨ cc σ.1 (4 * s + b) = -1)] at ih
            rw [if_pos q1]
            simp (disch := omega) only [k184_127, k184_130, Option.toList_some, Option.toList_none, List.cons_append, List.nil_append, nl_i, nl_r, nl_l, nl_n, nI_add]
            exact ih I2 J2 ⟨rfl, hG, hO⟩
          · rw [if_neg q1]
            simp (disch := omega) only [k184_61, k184_62, k184_64, k184_65, k184_68, k184_69, Option.toList_some, Option.toList_none, List.cons_append, List.nil_append, nl_i, nl_r, nl_l, nl_n, c140 hs hbl, e55']
            by_cases q2 : cc σ.1 (4 * s + b) = -1
            · simp only [if_pos (Or.inr q2 : cc σ.1 (4 * s + a) = -1 ∨ cc σ.1 (4 * s + b) = -1)] at ih
              rw [if_pos q2]
              simp (disch := omega) only [k184_127, k184_130, Option.toList_some, Option.toList_none, List.cons_append, List.nil_append, nl_i, nl_r, nl_l, nl_n, nI_add]
              exact ih I2 J2 ⟨rfl, hG, hO⟩
            · have q3 : ¬ (cc σ.1 (4 * s + a) = -1 ∨ cc σ.1 (4 * s + b) = -1) := by rintro (w | w); exact q1 w; exact q2 w
              simp only [if_neg q3] at ih
              rw [if_neg q2]
              simp (disch := omega) only [k184_72, k184_73, k184_76, k184_77, k184_80, k184_81, k184_83, k184_84, k184_87, k184_88, k184_89, k184_92, k184_93, k184_96, k184_97, k184_99, k184_100, k184_103, k184_104, k184_105, k184_108, k184_109, k184_112, k184_113, k184_116, k184_117, k184_118, k184_119, k184_122, k184_123, k184_124, k184_127, k184_130, Option.toList_some, Option.toList_none, List.cons_append, List.nil_append, nl_i, nl_r, nl_l, nl_n, h31, c140 hs ha, c140 hs hbl, nI_clamp, bnd, ly_67, ly_68, ly_69, Nat.reduceLT, true_and, and_true, up_ne, e55', nI_add]
              refine ih _ _ ⟨rfl, ⟨fun k w1 w2 w3 w4 => ?_, fun j hj => ?_⟩, ?_, fun i hi => ?_⟩
              · simp (disch := omega) only [up_ne]; exact hG.1 k w1 w2 w3 w4
              · simp (disch := omega) only [up_ne, va_up_s]; exact hG.2 j hj
              · simp (disch := omega) only [up_ne, va_up_s]
              · dsimp only at hi ⊢
                simp (disch := omega) only [up_ne, va_up_s]
                by_cases e : i = (gP (cc σ.1) a b s).1
                · subst e; rw [va_up_s, va_up_s, va_up_s, va_up_s, va_up_s]; exact ⟨⟨rfl, rfl⟩, rfl, hi⟩
                · rw [va_up_n _ _ e, va_up_n _ _ e, va_up_n _ _ e, va_up_n _ _ e, va_up_n _ _ e]
                  obtain ⟨w1, w2, w3⟩ := hO.2 i (by omega)
                  exact ⟨w1, w2, hi⟩
      refine outer _ _ ⟨rfl, ⟨fun k w1 _ _ _ => ?_, fun j hj => ?_⟩, ?_, fun i hi => absurd hi (Nat.not_lt_zero _)⟩
      · rw [va_up_n _ _ w1]
      · simp (disch := omega) only [up_ne, va_up_s]
      · simp (disch := omega) only [va_up_s]; rfl
    obtain ⟨v, I', J', ⟨g1, rfl⟩, hc2⟩ := Cal_ex main
    exact ⟨I', J', g1, hc2⟩
  · refine ⟨I, J, ⟨hR, QF_refl⟩, fun Q => ?_⟩
    rw [en184, show aAgree (cc σ.1) x x1 x2 = _ from if_neg hb]
    cases q1 : inr x 4
    · simp only [k184_0, k184_1, k184_4, k184_7, k184_8, k184_11, k184_14, k184_15, k184_16, k184_19, k184_20, k184_21, k184_22, k184_25, k184_28, k184_30, k184_31, k184_32, k184_35, k184_36, k184_37, k184_40, k184_41, k184_45, k184_47, k184_50, k184_51, k184_53, k184_54, k184_57, k184_58, k184_61, k184_62, k184_64, k184_65, k184_68, k184_69, k184_72, k184_73, k184_76, k184_77, k184_80, k184_81, k184_83, k184_84, k184_87, k184_88, k184_89, k184_92, k184_93, k184_96, k184_97, k184_99, k184_100, k184_103, k184_104, k184_105, k184_108, k184_109, k184_112, k184_113, k184_116, k184_117, k184_118, k184_119, k184_122, k184_123, k184_124, k184_127, k184_130, k184_133, k184_134, k184_137, k184_138, k184_141, k184_143, k184_144, k184_145, k184_148, k184_150, k184_151, k184_154, k184_156, k184_157, k184_158, k184_161, k184_163, k184_166, k184_168, k184_169, k184_170, k184_172, k184_173, k184_175, k184_176, k184_180, k184_183, k184_185, k184_186, k184_187, k184_189, k184_191, k184_192, k184_195, k184_197, k184_200, k184_201, k184_204, k184_205, k184_206, k184_208, k184_209, k184_212, k184_214, k184_217, k184_220, k184_222, k184_223, k184_225, k184_226, k184_227, Option.toList_some, Option.toList_none, List.cons_append, List.nil_append, nl_i, nl_r, nl_l, nl_n, c132, q1, bI_0, ↓reduceIte]
    · cases q2 : inr x1 4
      · simp only [k184_0, k184_1, k184_4, k184_7, k184_8, k184_11, k184_14, k184_15, k184_16, k184_19, k184_20, k184_21, k184_22, k184_25, k184_28, k184_30, k184_31, k184_32, k184_35, k184_36, k184_37, k184_40, k184_41, k184_45, k184_47, k184_50, k184_51, k184_53, k184_54, k184_57, k184_58, k184_61, k184_62, k184_64, k184_65, k184_68, k184_69, k184_72, k184_73, k184_76, k184_77, k184_80, k184_81, k184_83, k184_84, k184_87, k184_88, k184_89, k184_92, k184_93, k184_96, k184_97, k184_99, k184_100, k184_103, k184_104, k184_105, k184_108, k184_109, k184_112, k184_113, k184_116, k184_117, k184_118, k184_119, k184_122, k184_123, k184_124, k184_127, k184_130, k184_133, k184_134, k184_137, k184_138, k184_141, k184_143, k184_144, k184_145, k184_148, k184_150, k184_151, k184_154, k184_156, k184_157, k184_158, k184_161, k184_163, k184_166, k184_168, k184_169, k184_170, k184_172, k184_173, k184_175, k184_176, k184_180, k184_183, k184_185, k184_186, k184_187, k184_189, k184_191, k184_192, k184_195, k184_197, k184_200, k184_201, k184_204, k184_205, k184_206, k184_208, k184_209, k184_212, k184_214, k184_217, k184_220, k184_222, k184_223, k184_225, k184_226, k184_227, Option.toList_some, Option.toList_none, List.cons_append, List.nil_append, nl_i, nl_r, nl_l, nl_n, c132, q1, q2, bI_0, Bool.true_eq_false, ↓reduceIte]
      · by_cases q3 : x = x1
        · simp only [k184_0, k184_1, k184_4, k184_7, k184_8, k184_11, k184_14, k184_15, k184_16, k184_19, k184_20, k184_21, k184_22, k184_25, k184_28, k184_30, k184_31, k184_32, k184_35, k184_36, k184_37, k184_40, k184_41, k184_45, k184_47, k184_50, k184_51, k184_53, k184_54, k184_57, k184_58, k184_61, k184_62, k184_64, k184_65, k184_68, k184_69, k184_72, k184_73, k184_76, k184_77, k184_80, k184_81, k184_83, k184_84, k184_87, k184_88, k184_89, k184_92, k184_93, k184_96, k184_97, k184_99, k184_100, k184_103, k184_104, k184_105, k184_108, k184_109, k184_112, k184_113, k184_116, k184_117, k184_118, k184_119, k184_122, k184_123, k184_124, k184_127, k184_130, k184_133, k184_134, k184_137, k184_138, k184_141, k184_143, k184_144, k184_145, k184_148, k184_150, k184_151, k184_154, k184_156, k184_157, k184_158, k184_161, k184_163, k184_166, k184_168, k184_169, k184_170, k184_172, k184_173, k184_175, k184_176, k184_180, k184_183, k184_185, k184_186, k184_187, k184_189, k184_191, k184_192, k184_195, k184_197, k184_200, k184_201, k184_204, k184_205, k184_206, k184_208, k184_209, k184_212, k184_214, k184_217, k184_220, k184_222, k184_223, k184_225, k184_226, k184_227, Option.toList_some, Option.toList_none, List.cons_append, List.nil_append, nl_i, nl_r, nl_l, nl_n, c132, q1, q2, bI_0, Bool.true_eq_false, q3, ↓reduceIte]
        · cases q4 : inr x2 2
          · simp only [k184_0, k184_1, k184_4, k184_7, k184_8, k184_11, k184_14, k184_15, k184_16, k184_19, k184_20, k184_21, k184_22, k184_25, k184_28, k184_30, k184_31, k184_32, k184_35, k184_36, k184_37, k184_40, k184_41, k184_45, k184_47, k184_50, k184_51, k184_53, k184_54, k184_57, k184_58, k184_61, k184_62, k184_64, k184_65, k184_68, k184_69, k184_72, k184_73, k184_76, k184_77, k184_80, k184_81, k184_83, k184_84, k184_87, k184_88, k184_89, k184_92, k184_93, k184_96, k184_97, k184_99, k184_100, k184_103, k184_104, k184_105, k184_108, k184_109, k184_112, k184_113, k184_116, k184_117, k184_118, k184_119, k184_122, k184_123, k184_124, k184_127, k184_130, k184_133, k184_134, k184_137, k184_138, k184_141, k184_143, k184_144, k184_145, k184_148, k184_150, k184_151, k184_154, k184_156, k184_157, k184_158, k184_161, k184_163, k184_166, k184_168, k184_169, k184_170, k184_172, k184_173, k184_175, k184_176, k184_180, k184_183, k184_185, k184_186, k184_187, k184_189, k184_191, k184_192, k184_195, k184_197, k184_200, k184_201, k184_204, k184_205, k184_206, k184_208, k184_209, k184_212, k184_214, k184_217, k184_220, k184_222, k184_223, k184_225, k184_226, k184_227, Option.toList_some, Option.toList_none, List.cons_append, List.nil_append, nl_i, nl_r, nl_l, nl_n, c132, c126, in01, q1, q2, q3, q4, bI_0, Bool.true_eq_false, not_true_eq_false, ↓reduceIte]
          · exact absurd ⟨q1, q2, q3, q4⟩ hb
end AGS
