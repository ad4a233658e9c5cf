/-! CONTRACTS: worsts -/
theorem low_0 {b : Int} (hb : 0 < b) : low 0 b 0 = 0 ∧ low 0 b 1 = 1 := by
  unfold low
  rw [if_pos rfl, if_neg (by decide), Int.gcd_zero_left, Int.natAbs_of_nonneg (by omega)]
  exact ⟨Int.zero_tdiv _, Int.tdiv_self (by omega)⟩
/-- which of two fractions over one divisor is more, by their lowest terms -/
theorem low_lt {a b w : Int} (hw : 0 < w) : (low b w 0 * low a w 1 < low a w 0 * low b w 1) ↔ b < a := by
  obtain ⟨p1, -, e1, -⟩ := low_b (a := a) hw
  obtain ⟨p2, -, e2, -⟩ := low_b (a := b) hw
  have pp : 0 < low a w 1 * low b w 1 := Int.mul_pos p1 p2
  have f1 : w * (low a w 0 * low b w 1) = (low a w 1 * low b w 1) * a := by
    have : w * (low a w 0 * low b w 1) = (low a w 0 * w) * low b w 1 := by ac_rfl
    rw [this, ← e1]; ac_rfl
  have f2 : w * (low b w 0 * low a w 1) = (low a w 1 * low b w 1) * b := by
    have : w * (low b w 0 * low a w 1) = (low b w 0 * w) * low a w 1 := by ac_rfl
    rw [this, ← e2]; ac_rfl
  constructor
  · intro h
    have := Int.mul_lt_mul_of_pos_left h hw
    rw [f1, f2] at this
    exact Int.lt_of_mul_lt_mul_left this (Int.le_of_lt pp)
  · intro h
    have := Int.mul_lt_mul_of_pos_left h pp
    rw [← f1, ← f2] at this
    exact Int.lt_of_mul_lt_mul_left this (Int.le_of_lt hw)
theorem wzB_nn {D : Nat → Nat → Int} {a : Nat} {z : Int × Int32 × Int32} (hz : 0 ≤ z.1) : ∀ k, 0 ≤ (wzB D a z k).1
  | 0 => hz
  | k + 1 => by
    have ih := wzB_nn (D := D) (a := a) hz k
    unfold wzB
    split
    · exact ih
    · dsimp only; omega
theorem wzA_nn {D : Nat → Nat → Int} : ∀ a, 0 ≤ (wzA D a).1
  | 0 => Int.le_refl _
  | a + 1 => by unfold wzA; exact wzB_nn (wzA_nn a) _
theorem low_bd {a w : Int} {A : Nat} (hw : 0 < w) (ha : bd a A) : bd (low a w 0) A ∧ bd (low a w 1) w.natAbs := by
  obtain ⟨p1, p2, -, p4⟩ := low_b (a := a) hw
  unfold bd at *
  exact ⟨by omega, by omega⟩
def WG (wh : Int) (I : ab_I) (J : ab_J) (z : Int × Int32 × Int32) (I' : ab_I) (J' : ab_J) : Prop := (∀ k, k ≠ 49 → k ≠ 58 → I' k = I k) ∧ (∀ j, j ≠ 29 → j ≠ 30 → I' 49 j = I 49 j) ∧ (∀ k, k < 49 → J' k = J k) ∧ (∀ j, j ≠ 14 → j ≠ 25 → j ≠ 26 → j ≠ 27 → j ≠ 28 → J' 49 j = J 49 j) ∧ J' 49 27 = zL (low z.1 (12 * wh) 0) ∧ J' 49 28 = zL (low z.1 (12 * wh) 1) ∧ I' 49 29 = z.2.1 ∧ (z.2.1 = -1 ∨ I' 49 30 = z.2.2)
theorem loop_ij {P G : Nat → ab_I → ab_J → Prop} {N : Nat} (hN : ∀ I J, G N I J → P N I J) (hs : ∀ i I J, i < N → G i I J → (∀ I' J', G (i + 1) I' J' → P (i + 1) I' J') → P i I J) : ∀ I J, G 0 I J → P 0 I J := by
  have := loop_st (α := ab_I × ab_J) (N := N) (P := fun i z => P i z.1 z.2) (G := fun i z => G i z.1 z.2) (fun z h => hN z.1 z.2 h) (fun i z hi hg k => hs i z.1 z.2 hi hg (fun I' J' h => k (I', J') h))
  intro I J h
  exact this (I, J) h
section RWST
variable {I : ab_I} {J : ab_J} {Q : Option Value → ab_I → ab_J → Prop} {x x1 x2 : Int32} {u : Int64}
set_option maxRecDepth 100000 in
theorem c172 {c : Nat → Int32} (hc : I 55 = c) (hL : ∀ k, k < 16 → I 57 k = enc (LB (hnd c) k)) :
    ∃ (I' : ab_I) (J' : ab_J), WG (whC c) I J (wsC (hnd c)) I' J' ∧ ∀ Q : Option Value → ab_I → ab_J → Prop, Cal 172 [.ref 49] I J Q ↔ Q (some (.int (bI (decide (¬ (wsC (hnd c)).2.1 = -1))))) I' J' := by
  have hw : 0 < 12 * whC c := by have := wh_pos c; omega
  have main : ∀ Q : Option Value → ab_I → ab_J → Prop, (∀ v I' J', (WG (whC c) I J (wsC (hnd c)) I' J' ∧ v = some (.int (bI (decide (¬ (wsC (hnd c)).2.1 = -1))))) → Q v I' J') → Cal 172 [.ref 49] I J Q := by
    intro Q hQ
    rw [en172]
    simp (disch := omega) only [k172_0, k172_1, k172_2, k172_5, k172_6, k172_7, k172_10, k172_11, k172_12, k172_15, k172_16, Option.toList_some, Option.toList_none, List.cons_append, List.nil_append, nl_i, nl_r, nl_l, nl_n]
    have outer : ∀ I1 J1, WG (whC c) I J (wzA (dzD (hnd c)) 0) I1 J1 → ∀ a2 : Option Value, At 172 17 [some (.ref 49), some (.int (nI 0)), a2] [] I1 J1 Q := by
      refine loop_ij (N := 12) (P := fun a I1 J1 => ∀ a2 : Option Value, At 172 17 [some (.ref 49), some (.int (nI a)), a2] [] I1 J1 Q) (G := fun a I1 J1 => WG (whC c) I J (wzA (dzD (hnd c)) a) I1 J1) ?_ ?_
      · intro I1 J1 hG a2
        have e29 : I1 49 29 = (wsC (hnd c)).2.1 := hG.2.2.2.2.2.2.1
        rw [k172_17]
        simp (disch := omega) only [k172_18, k172_20, k172_124, k172_125, k172_128, k172_129, nI_leI, Nat.le_refl, ↓reduceIte, e29]
        by_cases q : (wsC (hnd c)).2.1 = -1
        · rw [if_pos q]
          simp (disch := omega) only [k172_136, k172_137, z00, true_and]
          exact hQ _ _ _ ⟨hG, by rw [decide_eq_false (fun w => w q)]; rfl⟩
        · rw [if_neg q]
          simp (disch := omega) only [k172_132, k172_133, k172_137, z10, true_and]
          exact hQ _ _ _ ⟨hG, by rw [decide_eq_true q]; rfl⟩
      · intro a I1 J1 ha hG ih a2
        have e0 : ¬ 12 ≤ a := by omega
        rw [k172_17]
        simp (disch := omega) only [k172_18, k172_20, k172_23, k172_24, k172_25, k172_26, Option.toList_some, Option.toList_none, List.cons_append, List.nil_append, nl_i, nl_r, nl_l, nl_n, nI_leI, e0, ↓reduceIte, nI_add]
        have inner : ∀ I2 J2, WG (whC c) I J (wzB (dzD (hnd c)) a (wzA (dzD (hnd c)) a) 0) I2 J2 → At 172 27 [some (.ref 49), some (.int (nI a)), some (.int (nI (a + 1 + 0)))] [] I2 J2 Q := by
          refine loop_ij (N := 11 - a) (P := fun k I2 J2 => At 172 27 [some (.ref 49), some (.int (nI a)), some (.int (nI (a + 1 + k)))] [] I2 J2 Q) (G := fun k I2 J2 => WG (whC c) I J (wzB (dzD (hnd c)) a (wzA (dzD (hnd c)) a) k) I2 J2) ?_ ?_
          · intro I2 J2 hG2
            have e1 : 12 ≤ a + 1 + (11 - a) := by omega
            rw [k172_27]
            simp (disch := omega) only [k172_28, k172_30, k172_118, k172_121, Option.toList_some, Option.toList_none, List.cons_append, List.nil_append, nl_i, nl_r, nl_l, nl_n, nI_leI, e1, ↓reduceIte, nI_add]
            exact ih I2 J2 hG2 _
          · intro k I2 J2 hk hG2 ih2
            have e1 : ¬ 12 ≤ a + 1 + k := by omega
            obtain ⟨g1, g2, g3, g4, g5, g6, g7, g8⟩ := id hG2
            have hc2 : I2 55 = c := by rw [g1 55 (by decide) (by decide)]; exact hc
            have hL2 : ∀ k, k < 16 → I2 57 k = enc (LB (hnd c) k) := fun k hk => by rw [g1 57 (by decide) (by decide)]; exact hL k hk
            have la : I2 57 a = enc (slb (hnd c) a) := by rw [hL2 a (by omega)]; unfold LB; rw [if_pos ha]
            have lb' : I2 57 (a + 1 + k) = enc (slb (hnd c) (a + 1 + k)) := by rw [hL2 _ (by omega)]; unfold LB; rw [if_pos (by omega)]
            have s4a := slb_le4 (hnd c) a
            have s4b := slb_le4 (hnd c) (a + 1 + k)
            have nn : 0 ≤ (wzB (dzD (hnd c)) a (wzA (dzD (hnd c)) a) k).1 := wzB_nn (wzA_nn a) k
            rw [k172_27]
            simp (disch := omega) only [k172_28, k172_30, k172_33, k172_34, k172_37, k172_38, k172_39, k172_40, Option.toList_some, Option.toList_none, List.cons_append, List.nil_append, nl_i, nl_r, nl_l, nl_n, nI_leI, e1, ↓reduceIte, nI_clamp, bnd, ly_57, Nat.reduceLT, true_and, and_true, la, enc_m1]
            by_cases q1 : slb (hnd c) a = 4
            · rw [if_pos q1]
              simp (disch := omega) only [k172_112, k172_115, Option.toList_some, Option.toList_none, List.cons_append, List.nil_append, nl_i, nl_r, nl_l, nl_n, nI_add]
              refine ih2 I2 J2 ?_
              unfold wzB
              have : dzD (hnd c) a (a + 1 + k) = 0 := by unfold dzD; rw [if_neg (fun w => w.1 q1)]
              rw [this, if_pos nn]
              exact hG2
            · rw [if_neg q1]
              simp (disch := omega) only [k172_43, k172_44, k172_47, k172_48, k172_49, k172_50, k172_53, k172_54, k172_55, Option.toList_some, Option.toList_none, List.cons_append, List.nil_append, nl_i, nl_r, nl_l, nl_n, nI_clamp, bnd, ly_57, Nat.reduceLT, true_and, and_true, la, lb', enc_eq]
              by_cases q2 : slb (hnd c) a = slb (hnd c) (a + 1 + k)
              · rw [if_neg (show ¬ ¬ slb (hnd c) a = slb (hnd c) (a + 1 + k) from fun w => w q2)]
                simp (disch := omega) only [k172_58, k172_59, k172_60, k172_61, Option.toList_some, Option.toList_none, List.cons_append, List.nil_append, nl_i, nl_r, nl_l, nl_n]
                obtain ⟨a', J3, ⟨f1, f2, f3, f4⟩, hcal⟩ := c170 (I := I2) (J := J2) hc2 hL2 ha (show a + 1 + k < 12 by omega) (show slb (hnd c) a < 4 by omega) q2.symm
                rw [hcal]
                have hD : dzD (hnd c) a (a + 1 + k) = dbC (hnd c) a (a + 1 + k) := by unfold dzD; rw [if_pos ⟨q1, q2⟩]
                have bD := db_bd (fun s _ => hnd_lt c s) ha (show a + 1 + k < 12 by omega)
                have bZ := wzB_bd (z := wzA (dzD (hnd c)) a) ha (fun a b ha hb => dzD_bd (fun s _ => hnd_lt c s) ha hb) (wzA_bd (fun a b ha hb => dzD_bd (fun s _ => hnd_lt c s) ha hb) a (by omega)) k (by omega)
                have b12 : (12 * whC c).natAbs ≤ 15116544 := by have := wh_le c; omega
                obtain ⟨l1, l2⟩ := low_bd hw bD
                obtain ⟨l3, l4⟩ := low_bd hw bZ
                have o1 : ok (low (dbC (hnd c) a (a + 1 + k)) (12 * whC c) 0 * low (wzB (dzD (hnd c)) a (wzA (dzD (hnd c)) a) k).1 (12 * whC c) 1) := bd_ok (bd_mul l1 (bd_le l4 b12)) (by decide)
                have o2 : ok (low (wzB (dzD (hnd c)) a (wzA (dzD (hnd c)) a) k).1 (12 * whC c) 0 * low (dbC (hnd c) a (a + 1 + k)) (12 * whC c) 1) := bd_ok (bd_mul l3 (bd_le l2 b12)) (by decide)
                have f27 : J3 49 27 = zL (low (wzB (dzD (hnd c)) a (wzA (dzD (hnd c)) a) k).1 (12 * whC c) 0) := by rw [f2 27 (by decide) (by decide) (by decide)]; exact g5
                have f28 : J3 49 28 = zL (low (wzB (dzD (hnd c)) a (wzA (dzD (hnd c)) a) k).1 (12 * whC c) 1) := by rw [f2 28 (by decide) (by decide) (by decide)]; exact g6
                simp (disch := omega) only [k172_64, k172_65, k172_68, k172_69, k172_72, k172_73, k172_74, k172_77, k172_78, k172_81, k172_82, k172_83, Option.toList_some, Option.toList_none, List.cons_append, List.nil_append, nl_i, nl_r, nl_l, nl_n, f3, f4, f27, f28, zL_mul, lg_cmp_le]
                have ele : (zL (low (dbC (hnd c) a (a + 1 + k)) (12 * whC c) 0 * low (wzB (dzD (hnd c)) a (wzA (dzD (hnd c)) a) k).1 (12 * whC c) 1) ≤ zL (low (wzB (dzD (hnd c)) a (wzA (dzD (hnd c)) a) k).1 (12 * whC c) 0 * low (dbC (hnd c) a (a + 1 + k)) (12 * whC c) 1)) = (dzD (hnd c) a (a + 1 + k) ≤ (wzB (dzD (hnd c)) a (wzA (dzD (hnd c)) a) k).1) := by
                  rw [zL_le o1 o2, hD]
                  have := low_lt (a := dbC (hnd c) a (a + 1 + k)) (b := (wzB (dzD (hnd c)) a (wzA (dzD (hnd c)) a) k).1) hw
                  exact propext ⟨fun w => Int.not_lt.mp (fun v => Int.not_lt.mpr w (this.mpr v)), fun w => Int.not_lt.mp (fun v => Int.not_lt.mpr w (this.mp v))⟩
                have hI3 : ∀ k, k ≠ 49 → k ≠ 58 → va_up I2 58 a' k = I k := fun k h1 h2 => by rw [va_up_n _ _ h2]; exact g1 k h1 h2
                by_cases q3 : dzD (hnd c) a (a + 1 + k) ≤ (wzB (dzD (hnd c)) a (wzA (dzD (hnd c)) a) k).1
                · rw [if_pos (ele.mpr q3)]
                  simp (disch := omega) only [k172_112, k172_115, Option.toList_some, Option.toList_none, List.cons_append, List.nil_append, nl_i, nl_r, nl_l, nl_n, nI_add]
                  refine ih2 (va_up I2 58 a') J3 ?_
                  unfold wzB
                  rw [if_pos q3]
                  refine ⟨hI3, fun j h1 h2 => ?_, fun k hk => ?_, fun j h1 h2 h3 h4 h5 => ?_, f27, f28, ?_, ?_⟩
                  · rw [up_ne _ _ (by omega)]; exact g2 j h1 h2
                  · rw [f1 k hk]; exact g3 k hk
                  · rw [f2 j h1 h2 h3]; exact g4 j h1 h2 h3 h4 h5
                  · rw [up_ne _ _ (by omega)]; exact g7
                  · rw [up_ne _ _ (by omega)]; exact g8
                · rw [if_neg (fun w => q3 (ele.mp w))]
                  simp (disch := omega) only [k172_86, k172_87, k172_88, k172_91, k172_94, k172_95, k172_96, k172_99, k172_102, k172_103, k172_104, k172_107, k172_108, k172_109, k172_112, k172_115, Option.toList_some, Option.toList_none, List.cons_append, List.nil_append, nl_i, nl_r, nl_l, nl_n, nI_add, f3, f4, va_up_s, up_ne, up_same]
                  refine ih2 _ _ ?_
                  unfold wzB
                  rw [if_neg q3, hD]
                  refine ⟨fun k h1 h2 => ?_, fun j h1 h2 => ?_, fun k hk => ?_, fun j h1 h2 h3 h4 h5 => ?_, ?_, ?_, ?_, Or.inr ?_⟩
                  · rw [va_up_n _ _ h1]; exact hI3 k h1 h2
                  · simp (disch := omega) only [va_up_s, up_ne]; exact g2 j h1 h2
                  · rw [up_ne _ _ (by omega), f1 k hk]; exact g3 k hk
                  · simp (disch := omega) only [va_up_s, up_ne]; rw [f2 j h1 h2 h3]; exact g4 j h1 h2 h3 h4 h5
                  · simp (disch := omega) only [va_up_s, up_ne]
                  · simp (disch := omega) only [va_up_s, up_ne]
                  · simp (disch := omega) only [va_up_s, up_ne]
                  · simp (disch := omega) only [va_up_s, up_ne]
              · rw [if_pos q2]
                simp (disch := omega) only [k172_112, k172_115, Option.toList_some, Option.toList_none, List.cons_append, List.nil_append, nl_i, nl_r, nl_l, nl_n, nI_add]
                refine ih2 I2 J2 ?_
                unfold wzB
                have : dzD (hnd c) a (a + 1 + k) = 0 := by unfold dzD; rw [if_neg (fun w => q2 w.2)]
                rw [this, if_pos nn]
                exact hG2
        exact inner I1 J1 hG
    refine outer _ _ ?_ _
    obtain ⟨z1, z2⟩ := low_0 hw
    refine ⟨fun k h1 h2 => ?_, fun j h1 h2 => ?_, fun k hk => ?_, fun j h1 h2 h3 h4 h5 => ?_, ?_, ?_, ?_, Or.inl rfl⟩
    · rw [va_up_n _ _ h1]
    · simp (disch := omega) only [va_up_s, up_ne]
    · simp (disch := omega) only [up_ne]
    · simp (disch := omega) only [va_up_s, up_ne]
    · simp (disch := omega) only [va_up_s, up_ne]
      show _ = zL (low 0 _ 0)
      rw [z1]; exact zL_0
    · simp (disch := omega) only [va_up_s, up_ne]
      show _ = zL (low 0 _ 1)
      rw [z2]; exact zL_1
    · simp (disch := omega) only [va_up_s, up_ne]
      rfl
  obtain ⟨v, I', J', ⟨hG, rfl⟩, hc2⟩ := Cal_ex main
  exact ⟨I', J', hG, hc2⟩
end RWST
