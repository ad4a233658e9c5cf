/-! CALLS: odd, drift -/
def e48 (n : Nat) : Int32 := if n = 48 then -1 else nI n
theorem e48_48 : e48 48 = -1 := rfl
theorem e48_lt {n : Nat} (h : n < 48) : e48 n = nI n := by unfold e48; rw [if_neg (by omega)]
theorem e48_m1 {n : Nat} (h : n ≤ 48) : (e48 n = -1) = (n = 48) := by
  unfold e48
  by_cases q : n = 48
  · rw [if_pos q]; exact propext ⟨fun _ => q, fun _ => rfl⟩
  · rw [if_neg q]; exact propext ⟨fun w => absurd w (nI_m1 (by omega)), fun w => absurd w q⟩
def odI (c : Nat → Int32) : Nat → Nat
  | 0 => 48
  | k + 1 => if c k ≠ -1 ∧ (odI c k = 48 ∨ (ftC c (odI c k)).natAbs < (ftC c k).natAbs) then k else odI c k
theorem odI_le (c : Nat → Int32) : ∀ k, k ≤ 48 → odI c k ≤ 48 ∧ (odI c k = 48 ∨ odI c k < k)
  | 0, _ => ⟨Nat.le_refl _, Or.inl rfl⟩
  | k + 1, hk => by
    have ih := odI_le c k (by omega)
    unfold odI
    split <;> omega
def aOdd (c : Nat → Int32) : Int32 := e48 (odI c 48)
def most (c : Nat → Int32) (n : Nat) : Int := if n = 48 then -1 else ((ftC c n).natAbs : Int)
section ODD
variable {I : ab_I} {J : ab_J} {Q : Option Value → ab_I → ab_J → Prop} {σ : PS} {x x1 x2 x3 x4 : Int32}
theorem abIf {u : Int64} : (if 0 < u then u else -u) = abL u := rfl
theorem ftN_bd {c : Nat → Int32} (hM : MK c) {k : Nat} (hk : k < 48) : bd (((ftC c k).natAbs : Nat) : Int) 68024448000 := by
  have := ft_bd hM hk
  unfold bd at *
  omega
set_option maxRecDepth 100000 in
theorem q100 (hR : RC σ I J) : ∃ I' J', (RC σ I' J' ∧ CF I J I' J') ∧ ∀ Q : Option Value → ab_I → ab_J → Prop, Cal 100 [.ref 0] I J Q ↔ Q (some (.int (aOdd (cc σ.1)))) I' J' := by
  obtain ⟨I1, J1, ⟨h1, hS, h3⟩, hcal⟩ := st110 hR
  have hM := cc_MK hR.1.1
  have e6 : I1 6 = cc σ.1 := hS.2.1.1
  refine ⟨I1, J1, ⟨h1, h3⟩, fun Q => Cal_of (fun Q hQ => ?_)⟩
  rw [en100]
  simp (disch := omega) only [k100_0, k100_1, k100_4, k100_5, k100_6, k100_9, k100_10, k100_11, Option.toList_some, Option.toList_none, List.cons_append, List.nil_append, nl_i, nl_r, nl_l, nl_n, hcal]
  have key : At 100 13 [some (.ref 0), some (.int (e48 (odI (cc σ.1) 0))), some (.long (zL (most (cc σ.1) (odI (cc σ.1) 0)))), none, some (.int (nI 0))] [] I1 J1 Q := by
    refine loop_dn (N := 48) (P := fun k => At 100 13 [some (.ref 0), some (.int (e48 (odI (cc σ.1) k))), some (.long (zL (most (cc σ.1) (odI (cc σ.1) k)))), none, some (.int (nI k))] [] I1 J1 Q) ?_ ?_
    · rw [k100_13]
      simp (disch := omega) only [k100_15, k100_17, k100_73, k100_74, nI_leI, Nat.le_refl, ↓reduceIte]
      exact hQ
    · intro k hk ih
      have e0 : ¬ 48 ≤ k := by omega
      obtain ⟨l1, l2⟩ := odI_le (cc σ.1) k (by omega)
      rw [k100_13]
      simp (disch := omega) only [k100_15, k100_17, k100_20, k100_21, k100_24_5, k100_27, k100_29, k100_30, k100_31, Option.toList_some, Option.toList_none, List.cons_append, List.nil_append, nl_i, nl_r, nl_l, nl_n, nI_leI, e0, ↓reduceIte, nI_clamp, bnd, ly_6, Nat.reduceLT, true_and, and_true, e6]
      unfold odI at ih
      by_cases q1 : cc σ.1 k = -1
      · rw [if_neg (fun w => w.1 q1)] at ih
        rw [if_pos q1]
        simp (disch := omega) only [k100_67, k100_70, Option.toList_some, Option.toList_none, List.cons_append, List.nil_append, nl_i, nl_r, nl_l, nl_n, nI_add]
        exact ih
      · rw [if_neg q1]
        have o1 := bd_ok (ft_bd hM hk) (by decide)
        have o2 := bd_ok (ftN_bd hM hk) (by decide)
        have o3 : ok (most (cc σ.1) (odI (cc σ.1) k)) := by
          unfold most
          split
          · unfold ok; omega
          · exact bd_ok (ftN_bd hM (by omega)) (by decide)
        simp (disch := omega) only [k100_34, k100_35, k100_38, k100_40_5, k100_43, k100_46, k100_47, k100_48, Option.toList_some, Option.toList_none, List.cons_append, List.nil_append, nl_i, nl_r, nl_l, nl_n, d30_5 hM hS.2.1 hS.2.2.1 hk q1, abIf, abL_z o1, lg_cmp_le, zL_le o2 o3]
        by_cases q2 : ((ftC (cc σ.1) k).natAbs : Int) ≤ most (cc σ.1) (odI (cc σ.1) k)
        · have q3 : ¬ (cc σ.1 k ≠ -1 ∧ (odI (cc σ.1) k = 48 ∨ (ftC (cc σ.1) (odI (cc σ.1) k)).natAbs < (ftC (cc σ.1) k).natAbs)) := by
            rintro ⟨-, w | w⟩
            · unfold most at q2; rw [if_pos w] at q2; omega
            · unfold most at q2
              by_cases w2 : odI (cc σ.1) k = 48
              · rw [if_pos w2] at q2; omega
              · rw [if_neg w2] at q2; omega
          rw [if_neg q3] at ih
          rw [if_pos q2]
          simp (disch := omega) only [k100_67, k100_70, Option.toList_some, Option.toList_none, List.cons_append, List.nil_append, nl_i, nl_r, nl_l, nl_n, nI_add]
          exact ih
        · have q3 : cc σ.1 k ≠ -1 ∧ (odI (cc σ.1) k = 48 ∨ (ftC (cc σ.1) (odI (cc σ.1) k)).natAbs < (ftC (cc σ.1) k).natAbs) := by
            refine ⟨q1, ?_⟩
            by_cases w2 : odI (cc σ.1) k = 48
            · exact Or.inl w2
            · unfold most at q2; rw [if_neg w2] at q2; exact Or.inr (by omega)
          rw [if_pos q3, e48_lt hk, show most (cc σ.1) k = ((ftC (cc σ.1) k).natAbs : Int) from if_neg (by omega)] at ih
          rw [if_neg q2]
          simp (disch := omega) only [k100_51, k100_52, k100_55, k100_57_5, k100_60, k100_63, k100_64, k100_66, k100_67, k100_70, Option.toList_some, Option.toList_none, List.cons_append, List.nil_append, nl_i, nl_r, nl_l, nl_n, d30_5 hM hS.2.1 hS.2.2.1 hk q1, abIf, abL_z o1, nI_add]
          exact ih
  exact key
set_option maxRecDepth 100000 in
theorem r185 (h : RLd σ I) : ∃ I' J', (RLd σ I' ∧ QF I J I' J') ∧ ∀ Q : Option Value → ab_I → ab_J → Prop, Cal 185 [.ref 49] I J Q ↔ Q (some (.int (aOdd (cc σ.1)))) I' J' := by
  have hM := cc_MK h.1.1
  have hw : 0 < 12 * whC (cc σ.1) := by have := wh_pos (cc σ.1); omega
  have b12 : (12 * whC (cc σ.1)).natAbs ≤ 15116544 := by have := wh_le (cc σ.1); omega
  have main : ∀ Q : Option Value → ab_I → ab_J → Prop, (∀ v I' J', ((RLd σ I' ∧ QF I J I' J') ∧ v = some (.int (aOdd (cc σ.1)))) → Q v I' J') → Cal 185 [.ref 49] I J Q := by
    intro Q hQ
    rw [en185]
    simp (disch := omega) only [k185_0, k185_1, k185_2, k185_3, k185_4, k185_5, k185_7, k185_8, Option.toList_some, Option.toList_none, List.cons_append, List.nil_append, nl_i, nl_r, nl_l, nl_n]
    have outer : ∀ I1 J1, (RLd σ I1 ∧ QF I J I1 J1) → ∀ (a7 a8 a9 a10 : Option Value) (bt bb : Int), (odI (cc σ.1) 0 = 48 ∨ (bt = low ((ftC (cc σ.1) (odI (cc σ.1) 0)).natAbs : Nat) (12 * whC (cc σ.1)) 0 ∧ bb = low ((ftC (cc σ.1) (odI (cc σ.1) 0)).natAbs : Nat) (12 * whC (cc σ.1)) 1)) → At 185 10 [some (.ref 49), some (.int (e48 (odI (cc σ.1) 0))), some (.long (zL bt)), none, some (.long (zL bb)), none, some (.int (nI 0)), a7, a8, a9, a10] [] I1 J1 Q := by
      refine loop_ij (N := 48) (P := fun k I1 J1 => ∀ (a7 a8 a9 a10 : Option Value) (bt bb : Int), (odI (cc σ.1) k = 48 ∨ (bt = low ((ftC (cc σ.1) (odI (cc σ.1) k)).natAbs : Nat) (12 * whC (cc σ.1)) 0 ∧ bb = low ((ftC (cc σ.1) (odI (cc σ.1) k)).natAbs : Nat) (12 * whC (cc σ.1)) 1)) → At 185 10 [some (.ref 49), some (.int (e48 (odI (cc σ.1) k))), some (.long (zL bt)), none, some (.long (zL bb)), none, some (.int (nI k)), a7, a8, a9, a10] [] I1 J1 Q) (G := fun _ I1 J1 => RLd σ I1 ∧ QF I J I1 J1) ?_ ?_
      · intro I1 J1 hG a7 a8 a9 a10 bt bb _
        rw [k185_10]
        simp (disch := omega) only [k185_12, k185_14, k185_125, k185_126, nI_leI, Nat.le_refl, ↓reduceIte]
        exact hQ _ _ _ ⟨hG, rfl⟩
      · intro k I1 J1 hk hG ih a7 a8 a9 a10 bt bb hbt
        have e0 : ¬ 48 ≤ k := by omega
        obtain ⟨l1, l2⟩ := odI_le (cc σ.1) k (by omega)
        have e55 : I1 55 = cc σ.1 := hG.1.2.1
        have e57 : I1 57 (k / 4) = enc (slb (hnd (cc σ.1)) (k / 4)) := by rw [hG.1.2.2.2 (k / 4) (by omega), LB_s (by omega)]
        have n4 : ¬ nI 4 = 0 := by decide
        rw [k185_10]
        simp (disch := omega) only [k185_12, k185_14, k185_17, k185_18, k185_21, k185_23, k185_24, k185_25, Option.toList_some, Option.toList_none, List.cons_append, List.nil_append, nl_i, nl_r, nl_l, nl_n, nI_leI, e0, ↓reduceIte, nI_clamp, bnd, ly_55, Nat.reduceLT, true_and, and_true, e55]
        unfold odI at ih
        by_cases q1 : cc σ.1 k = -1
        · have q3 : ¬ (cc σ.1 k ≠ -1 ∧ (odI (cc σ.1) k = 48 ∨ (ftC (cc σ.1) (odI (cc σ.1) k)).natAbs < (ftC (cc σ.1) k).natAbs)) := fun w => w.1 q1
          simp only [if_neg q3] at ih
          rw [if_pos q1]
          simp (disch := omega) only [k185_119, k185_122, Option.toList_some, Option.toList_none, List.cons_append, List.nil_append, nl_i, nl_r, nl_l, nl_n, nI_add]
          exact ih I1 J1 hG _ _ _ _ _ _ hbt
        · rw [if_neg q1]
          have hb1 : (hnd (cc σ.1) (k / 4)).testBit (k % 4) = true := by rw [hnd_b1]; exact decide_eq_true q1
          have s4 := slb_lt (h := hnd (cc σ.1)) (show k / 4 < 12 by omega) (show k % 4 < 4 by omega) hb1
          obtain ⟨f1, f2⟩ := slb_fix (c := cc σ.1) (s := k / 4) (by omega) (by omega)
          obtain ⟨a', J', K, ov, hz, wz, ⟨hW, hj⟩, hcal⟩ := wk146 (J := J1) hG.1.2 hM f1 f2
          obtain ⟨p1, p2, p3⟩ := wk_pos hW
          have e6 := fz_K hW hk q1 rfl
          have o1 : ok (fzR (cc σ.1) ov hz wz k) := bd_ok (bd_K (ft_bd hM hk) e6 hW.1) (by decide)
          have e7 : (((ftC (cc σ.1) k).natAbs : Nat) : Int) = K * (((fzR (cc σ.1) ov hz wz k).natAbs : Nat) : Int) := by
            rw [e6, Int.natAbs_mul, Int.natCast_mul, Int.natAbs_of_nonneg (Int.le_of_lt hW.1)]
          have o2 : ok (((fzR (cc σ.1) ov hz wz k).natAbs : Nat) : Int) := bd_ok (bd_K (ftN_bd hM hk) e7 hW.1) (by decide)
          obtain ⟨g1, g2⟩ := RL_58 (a' := a') hG.1 hj
          have hG2 : RLd σ (va_up I1 58 a') ∧ QF I J (va_up I1 58 a') J' := ⟨g1, QF_trans hG.2 g2⟩
          have hL' := g1.2
          have kl := fun w => K_low (w := w) hW.1 hW.2.1 hW.2.2.1 e7
          simp (disch := omega) only [k185_28, k185_29, k185_30, k185_33, k185_35, k185_36, k185_37, k185_38, k185_41, k185_42, k185_44, k185_45, k185_46, k185_48, k185_49, k185_50, k185_53, k185_56, k185_57, k185_60, k185_61, k185_64, k185_66, k185_67, k185_69, k185_70, k185_71, k185_73, k185_74, k185_75, k185_78, k185_81, k185_82, k185_85, k185_86, k185_89, k185_91, k185_92, k185_93, Option.toList_some, Option.toList_none, List.cons_append, List.nil_append, nl_i, nl_r, nl_l, nl_n, n4, not_false_eq_true, true_and, and_true, div4, rem4b, nI_clamp, bnd, ly_57, Nat.reduceLT, e57, enc_lt f1, hcal, f148 hL' hM hW hk q1 rfl rfl rfl, c128, am_abL, abL_z o1, hW.2.2.2.1, c130 o2 p2 p1, kl, e48_m1 l1]
          have take : At 185 109 [some (.ref 49), some (.int (e48 (odI (cc σ.1) k))), some (.long (zL bt)), none, some (.long (zL bb)), none, some (.int (nI k)), some (.long (zL (low ((ftC (cc σ.1) k).natAbs : Nat) (12 * whC (cc σ.1)) (nI 0)))), none, some (.long (zL (low ((ftC (cc σ.1) k).natAbs : Nat) (12 * whC (cc σ.1)) (nI 1)))), none] [] (va_up I1 58 a') J' Q ∨ ¬ (cc σ.1 k ≠ -1 ∧ (odI (cc σ.1) k = 48 ∨ (ftC (cc σ.1) (odI (cc σ.1) k)).natAbs < (ftC (cc σ.1) k).natAbs)) := by
            by_cases q3 : cc σ.1 k ≠ -1 ∧ (odI (cc σ.1) k = 48 ∨ (ftC (cc σ.1) (odI (cc σ.1) k)).natAbs < (ftC (cc σ.1) k).natAbs)
            · simp only [if_pos q3, e48_lt hk] at ih
              refine Or.inl ?_
              simp (disch := omega) only [k185_109, k185_111, k185_112, k185_114, k185_115, k185_117, k185_119, k185_122, Option.toList_some, Option.toList_none, List.cons_append, List.nil_append, nl_i, nl_r, nl_l, nl_n, nI_add]
              exact ih _ J' hG2 _ _ _ _ _ _ (Or.inr ⟨rfl, rfl⟩)
            · exact Or.inr q3
          by_cases q4 : odI (cc σ.1) k = 48
          · rw [if_pos q4]
            rcases take with w | w
            · exact w
            · exact absurd ⟨q1, Or.inl q4⟩ w
          · rw [if_neg q4]
            have hk2 : odI (cc σ.1) k < 48 := by omega
            obtain ⟨r1, r2⟩ : bt = low ((ftC (cc σ.1) (odI (cc σ.1) k)).natAbs : Nat) (12 * whC (cc σ.1)) 0 ∧ bb = low ((ftC (cc σ.1) (odI (cc σ.1) k)).natAbs : Nat) (12 * whC (cc σ.1)) 1 := by
              rcases hbt with w | w
              · exact absurd w q4
              · exact w
            have lk := low_bd hw (ftN_bd hM hk)
            have lb' := low_bd hw (ftN_bd hM hk2)
            have c0 : ∀ a b : Int, low a b (nI 0) = low a b 0 := fun _ _ => rfl
            have c1 : ∀ a b : Int, low a b (nI 1) = low a b 1 := fun _ _ => rfl
            have oA : ok (low ((ftC (cc σ.1) k).natAbs : Nat) (12 * whC (cc σ.1)) (nI 0) * bb) := by rw [c0, r2]; exact bd_ok (bd_mul lk.1 (bd_le lb'.2 b12)) (by decide)
            have oB : ok (bt * low ((ftC (cc σ.1) k).natAbs : Nat) (12 * whC (cc σ.1)) (nI 1)) := by rw [c1, r1]; exact bd_ok (bd_mul lb'.1 (bd_le lk.2 b12)) (by decide)
            simp (disch := omega) only [k185_96, k185_98, k185_100, k185_101, k185_102, k185_104, k185_105, k185_106, Option.toList_some, Option.toList_none, List.cons_append, List.nil_append, nl_i, nl_r, nl_l, nl_n, zL_mul, lg_cmp_le, zL_le oA oB]
            have ll := low_lt (a := (((ftC (cc σ.1) k).natAbs : Nat) : Int)) (b := (((ftC (cc σ.1) (odI (cc σ.1) k)).natAbs : Nat) : Int)) hw
            by_cases q5 : low ((ftC (cc σ.1) k).natAbs : Nat) (12 * whC (cc σ.1)) (nI 0) * bb ≤ bt * low ((ftC (cc σ.1) k).natAbs : Nat) (12 * whC (cc σ.1)) (nI 1)
            · rw [if_pos q5]
              have q3 : ¬ (cc σ.1 k ≠ -1 ∧ (odI (cc σ.1) k = 48 ∨ (ftC (cc σ.1) (odI (cc σ.1) k)).natAbs < (ftC (cc σ.1) k).natAbs)) := by
                rintro ⟨-, w | w⟩
                · exact q4 w
                · have := ll.mpr (by omega)
                  rw [c0, c1, r1, r2] at q5
                  omega
              simp only [if_neg q3] at ih
              simp (disch := omega) only [k185_119, k185_122, Option.toList_some, Option.toList_none, List.cons_append, List.nil_append, nl_i, nl_r, nl_l, nl_n, nI_add]
              exact ih _ J' hG2 _ _ _ _ _ _ hbt
            · rw [if_neg q5]
              rcases take with w | w
              · exact w
              · refine absurd ⟨q1, Or.inr ?_⟩ w
                have := ll.mp (by rw [c0, c1, r1, r2] at q5; omega)
                omega
    exact outer I J ⟨h, QF_refl⟩ _ _ _ _ 0 1 (Or.inl rfl)
  obtain ⟨v, I', J', ⟨h1, rfl⟩, hc2⟩ := Cal_ex main
  exact ⟨I', J', h1, hc2⟩
set_option maxRecDepth 100000 in
theorem r186 (hR : RR σ I) : ∃ I' J', (RR σ I' ∧ QF I J I' J') ∧ ∀ Q : Option Value → ab_I → ab_J → Prop, Cal 186 [.ref 49] I J Q ↔ Q (some (.int (aOdd (cc σ.1)))) I' J' := by
  obtain ⟨I1, ⟨h1, h3⟩, hcal⟩ := st138 (J := J) hR
  obtain ⟨I2, J2, ⟨g1, g2⟩, hcal2⟩ := r185 (J := J) h1
  refine ⟨I2, J2, ⟨RL_RR g1, QF_trans h3 g2⟩, fun Q => ?_⟩
  rw [en186]
  simp (disch := omega) only [k186_0, k186_1, k186_4, k186_5, k186_8, Option.toList_some, Option.toList_none, List.cons_append, List.nil_append, nl_i, nl_r, nl_l, nl_n, hcal, hcal2]
end ODD
