/-! CALLS: has, bundle, hard, worth, fit, off -/
theorem in01 {x : Int32} : (decide ((nI 0).toInt ≤ x.toInt) && decide (x.toInt ≤ (nI 1).toInt)) = inr x 2 := in_inr (by decide)
theorem in02 {x : Int32} : (decide ((nI 0).toInt ≤ x.toInt) && decide (x.toInt ≤ (nI 2).toInt)) = inr x 3 := in_inr (by decide)
theorem in03 {x : Int32} : (decide ((nI 0).toInt ≤ x.toInt) && decide (x.toInt ≤ (nI 3).toInt)) = inr x 4 := in_inr (by decide)
theorem inr2 {x : Int32} : inr x 2 = true ↔ x = nI 0 ∨ x = nI 1 := by
  constructor
  · intro h
    obtain ⟨k, hk, rfl⟩ := inr_nI h
    have : k = 0 ∨ k = 1 := by omega
    rcases this with r | r <;> subst r
    · exact Or.inl rfl
    · exact Or.inr rfl
  · rintro (r | r) <;> subst r <;> decide
theorem inr_of {k n : Nat} (h : k < n) (hn : n < 2 ^ 31) : inr (nI k) n = true := by
  rw [inr_t, nI_toInt (by omega)]
  omega
def aHas (c : Nat → Int32) (x x1 : Int32) : Int32 := if inr x 12 = true ∧ inr x1 4 = true then c (4 * tN x + tN x1) else -2
def aBundle (c : Nat → Int32) (x x1 : Int32) : Int32 := if x = nI 0 ∧ inr x1 12 = true then enc (slb (hnd c) (tN x1)) else if x = nI 1 ∧ inr x1 4 = true then enc (lb (hnd c) (tN x1)) else -2
def aHard (c : Nat → Int32) (x x1 : Int32) : Int64 := if inr x 4 = true ∧ inr x1 2 = true then aHardT c (tN x) x1 else nO (-2)
def aWorth (c : Nat → Int32) (x x1 : Int32) : Int64 := if inr x 12 = true ∧ inr x1 2 = true then aWorthT c (tN x) x1 else nO (-2)
def aFit (c : Nat → Int32) (x x1 x2 : Int32) : Int64 := if inr x 12 = true ∧ inr x1 4 = true ∧ inr x2 2 = true then (if c (4 * tN x + tN x1) = -1 then nO (-3) else zL (low (ftC c (4 * tN x + tN x1)) (12 * whC c) x2)) else nO (-2)
def aOff (c : Nat → Int32) (x x1 : Int32) : Int64 := if inr x 4 = true ∧ inr x1 2 = true then (if lb (hnd c) (tN x) = tN x then zL (low (ofZ c (wC c (tN x)) 48) (12 * whC c) x1) else nO (-3)) else nO (-2)
theorem i2b12 {c : Nat → Int32} : (0 : Int) < 12 * whC c ∧ 12 * whC c < 562949953421312 := by
  have := wh_pos c
  have := wh_le c
  omega
/-- amounts of the fits of a bundle -/
def ofB (c : Nat → Int32) (b : Nat) (f : Nat → Nat) : Nat → Nat
  | 0 => 0
  | k + 1 => ofB c b f k + (if c k ≠ -1 ∧ slb (hnd c) (k / 4) = b then f k else 0)
theorem lb_con_iff {h : Nat → Nat} {b m : Nat} (hb : b < 4) (hm : m < 4) (hbb : lb h b = b) : con h b m = true ↔ lb h m = b := by
  constructor
  · intro q
    rw [← lb_eq hb hm q, hbb]
  · intro q
    have : con h m (lb h m) = true := lb_con (by omega)
    rw [q] at this
    rw [con_symm]
    exact this
theorem ofB_Z {c : Nat → Int32} {b : Nat} (hb : b < 4) (hbb : lb (hnd c) b = b) : ∀ k, k ≤ 48 → ofZ c (wC c b) k = ofB c b (fun k => (ftC c k).natAbs) k
  | 0, _ => rfl
  | k + 1, hk => by
    have ih := ofB_Z hb hbb k (by omega)
    unfold ofZ ofB
    rw [ih]
    by_cases q : c k = -1
    · rw [if_pos q, if_neg (fun w => w.1 q)]
      rfl
    · have hb1 : (hnd c (k / 4)).testBit (k % 4) = true := by rw [hnd_b1]; exact decide_eq_true q
      have e1 := slb_of (h := hnd c) (by omega) (by omega) hb1
      rw [if_neg q, wC_bit c _ hb]
      have e2 := lb_con_iff (m := k % 4) hb (by omega) hbb
      by_cases q2 : lb (hnd c) (k % 4) = b
      · rw [if_neg (by rw [e2.mpr q2]; simp), if_pos ⟨q, by rw [e1]; exact q2⟩]
      · have : con (hnd c) b (k % 4) = false := by
          cases w : con (hnd c) b (k % 4) with
          | false => rfl
          | true => exact absurd (e2.mp w) q2
        rw [if_pos this, if_neg (fun w => q2 (by rw [← e1]; exact w.2))]
        rfl
theorem ofB_K {c : Nat → Int32} {b : Nat} {f g : Nat → Nat} {K : Nat} : ∀ k, (∀ j, j < k → c j ≠ -1 → slb (hnd c) (j / 4) = b → f j = K * g j) → ofB c b f k = K * ofB c b g k
  | 0, _ => rfl
  | k + 1, h => by
    unfold ofB
    rw [ofB_K k (fun j hj => h j (by omega)), Nat.mul_add]
    by_cases q : c k ≠ -1 ∧ slb (hnd c) (k / 4) = b
    · rw [if_pos q, if_pos q, h k (by omega) q.1 q.2]
    · rw [if_neg q, if_neg q, Nat.mul_zero]
section WCALL
variable {I : ab_I} {J : ab_J} {Q : Option Value → ab_I → ab_J → Prop} {σ : PS} {x x1 x2 : Int32}
set_option maxRecDepth 100000 in
theorem q79 (hR : RC σ I J) : ∃ I' J', (RC σ I' J' ∧ CF I J I' J') ∧ ∀ Q : Option Value → ab_I → ab_J → Prop, Cal 79 [.ref 0, .int x, .int x1] I J Q ↔ Q (some (.int (aHas (cc σ.1) x x1))) I' J' := by
  by_cases hb : inr x 12 = true ∧ inr x1 4 = true
  · obtain ⟨s, hs, rfl⟩ := inr_nI hb.1
    obtain ⟨m, hm, rfl⟩ := inr_nI hb.2
    obtain ⟨I1, J1, ⟨h1, hS, h3⟩, hcal⟩ := st110 hR
    have e6 : I1 6 = cc σ.1 := hS.2.1.1
    refine ⟨I1, J1, ⟨h1, h3⟩, fun Q => ?_⟩
    rw [en79]
    simp (disch := omega) only [k79_0, k79_1, k79_4, k79_7, k79_8, k79_11, k79_14, k79_16, k79_17, k79_18, k79_21, k79_22, k79_25_5, k79_25_17, k79_28, k79_29, k79_30, k79_31, k79_32, k79_33, k79_34, Option.toList_some, Option.toList_none, List.cons_append, List.nil_append, nl_i, nl_r, nl_l, nl_n, c116, c117, hb.1, hb.2, bI_0, Bool.true_eq_false, not_false_eq_true, ↓reduceIte, hcal, pk_mul, nI_add, nI_clamp, bnd, ly_6, Nat.reduceLT, true_and, and_true, e6]
    rw [show aHas (cc σ.1) (nI s) (nI m) = _ from if_pos hb, tN_nI (by omega), tN_nI (by omega)]
  · refine ⟨I, J, ⟨hR, CF_refl⟩, fun Q => ?_⟩
    rw [en79, show aHas (cc σ.1) x x1 = -2 from if_neg hb]
    cases q1 : inr x 12
    · simp only [k79_0, k79_1, k79_4, k79_7, k79_8, k79_11, k79_14, k79_16, k79_17, k79_18, k79_21, k79_22, k79_25_5, k79_25_17, k79_28, k79_29, k79_30, k79_31, k79_32, k79_33, k79_34, Option.toList_some, Option.toList_none, List.cons_append, List.nil_append, nl_i, nl_r, nl_l, nl_n, c116, c117, q1, bI_0, Bool.true_eq_false, not_true_eq_false, not_false_eq_true, ↓reduceIte]
    · cases q2 : inr x1 4
      · simp only [k79_0, k79_1, k79_4, k79_7, k79_8, k79_11, k79_14, k79_16, k79_17, k79_18, k79_21, k79_22, k79_25_5, k79_25_17, k79_28, k79_29, k79_30, k79_31, k79_32, k79_33, k79_34, Option.toList_some, Option.toList_none, List.cons_append, List.nil_append, nl_i, nl_r, nl_l, nl_n, c116, c117, q1, q2, bI_0, Bool.true_eq_false, not_true_eq_false, not_false_eq_true, ↓reduceIte]
      · exact absurd ⟨q1, q2⟩ hb
set_option maxRecDepth 100000 in
theorem r141 (hR : RR σ I) : ∃ I' J', (RR σ I' ∧ QF I J I' J') ∧ ∀ Q : Option Value → ab_I → ab_J → Prop, Cal 141 [.ref 49, .int x, .int x1] I J Q ↔ Q (some (.int (aHas (cc σ.1) x x1))) I' J' := by
  by_cases hb : inr x 12 = true ∧ inr x1 4 = true
  · obtain ⟨s, hs, rfl⟩ := inr_nI hb.1
    obtain ⟨m, hm, rfl⟩ := inr_nI hb.2
    obtain ⟨I1, ⟨h1, h3⟩, hcal⟩ := st138 (J := J) hR
    have e6 : I1 55 = cc σ.1 := h1.2.1
    refine ⟨I1, J, ⟨RL_RR h1, h3⟩, fun Q => ?_⟩
    rw [en141]
    simp (disch := omega) only [k141_0, k141_1, k141_4, k141_7, k141_8, k141_11, k141_14, k141_16, k141_17, k141_18, k141_21, k141_22, k141_23, k141_24, k141_27, Option.toList_some, Option.toList_none, List.cons_append, List.nil_append, nl_i, nl_r, nl_l, nl_n, c131, c132, hb.1, hb.2, bI_0, Bool.true_eq_false, not_false_eq_true, ↓reduceIte, hcal, c140 hs hm, e6]
    rw [show aHas (cc σ.1) (nI s) (nI m) = _ from if_pos hb, tN_nI (by omega), tN_nI (by omega)]
  · refine ⟨I, J, ⟨hR, QF_refl⟩, fun Q => ?_⟩
    rw [en141, show aHas (cc σ.1) x x1 = -2 from if_neg hb]
    cases q1 : inr x 12
    · simp only [k141_0, k141_1, k141_4, k141_7, k141_8, k141_11, k141_14, k141_16, k141_17, k141_18, k141_21, k141_22, k141_23, k141_24, k141_27, Option.toList_some, Option.toList_none, List.cons_append, List.nil_append, nl_i, nl_r, nl_l, nl_n, c131, c132, q1, bI_0, Bool.true_eq_false, not_true_eq_false, not_false_eq_true, ↓reduceIte]
    · cases q2 : inr x1 4
      · simp only [k141_0, k141_1, k141_4, k141_7, k141_8, k141_11, k141_14, k141_16, k141_17, k141_18, k141_21, k141_22, k141_23, k141_24, k141_27, Option.toList_some, Option.toList_none, List.cons_append, List.nil_append, nl_i, nl_r, nl_l, nl_n, c131, c132, q1, q2, bI_0, Bool.true_eq_false, not_true_eq_false, not_false_eq_true, ↓reduceIte]
      · exact absurd ⟨q1, q2⟩ hb
theorem n01 : (nI 0 = nI 1) = False := by decide
theorem n10 : (nI 1 = nI 0) = False := by decide
theorem n00' : (nI 0 = 0) = True := by decide
theorem n10' : (nI 1 = 0) = False := by decide
set_option maxRecDepth 100000 in
theorem q80 (hR : RC σ I J) : ∃ I' J', (RC σ I' J' ∧ CF I J I' J') ∧ ∀ Q : Option Value → ab_I → ab_J → Prop, Cal 80 [.ref 0, .int x, .int x1] I J Q ↔ Q (some (.int (aBundle (cc σ.1) x x1))) I' J' := by
  obtain ⟨I1, J1, ⟨h1, hS, h3⟩, hcal⟩ := st110 hR
  by_cases h0 : x = nI 0
  · subst h0
    by_cases hb : inr x1 12 = true
    · obtain ⟨s, hs, rfl⟩ := inr_nI hb
      have e11 : I1 11 s = _ := hS.2.1.2.2.2.2.2.1 s hs
      refine ⟨I1, J1, ⟨h1, h3⟩, fun Q => ?_⟩
      rw [en80]
      simp (disch := omega) only [k80_0, k80_1, k80_4, k80_5, k80_8, k80_11, k80_12, k80_13, k80_16, k80_17, k80_20, k80_23, k80_24, k80_27, k80_28, k80_29, k80_30, k80_33, k80_35, k80_36, k80_37, k80_40, k80_41, k80_44, k80_45, k80_48_5, k80_48_17, k80_51, k80_52, k80_53, k80_56, k80_57, k80_60_5, k80_60_17, k80_63, k80_64, k80_65, Option.toList_some, Option.toList_none, List.cons_append, List.nil_append, nl_i, nl_r, nl_l, nl_n, c116, c117, hb, bI_0, n00', n01, Bool.true_eq_false, not_false_eq_true, not_true_eq_false, ↓reduceIte, hcal, nI_clamp, bnd, ly_11, Nat.reduceLT, true_and, and_true, e11, n10']
      rw [show aBundle (cc σ.1) (nI 0) (nI s) = _ from if_pos ⟨rfl, hb⟩, tN_nI (by omega)]
    · refine ⟨I, J, ⟨hR, CF_refl⟩, fun Q => ?_⟩
      rw [en80]
      have hb' : inr x1 12 = false := by simpa using hb
      simp (disch := omega) only [k80_0, k80_1, k80_4, k80_5, k80_8, k80_11, k80_12, k80_13, k80_16, k80_17, k80_20, k80_23, k80_24, k80_27, k80_28, k80_29, k80_30, k80_33, k80_35, k80_36, k80_37, k80_40, k80_41, k80_44, k80_45, k80_48_5, k80_48_17, k80_51, k80_52, k80_53, k80_56, k80_57, k80_60_5, k80_60_17, k80_63, k80_64, k80_65, Option.toList_some, Option.toList_none, List.cons_append, List.nil_append, nl_i, nl_r, nl_l, nl_n, c116, c117, hb', bI_0, n00', n01, not_false_eq_true, not_true_eq_false, ↓reduceIte]
      rw [show aBundle (cc σ.1) (nI 0) x1 = _ from (if_neg (fun w => hb w.2)).trans (if_neg (fun w => by have := w.1; rw [n01] at this; exact this))]
  · by_cases h1' : x = nI 1
    · subst h1'
      by_cases hb : inr x1 4 = true
      · obtain ⟨s, hs, rfl⟩ := inr_nI hb
        have e10 : I1 10 s = _ := hS.2.1.2.2.2.2.1 s hs
        refine ⟨I1, J1, ⟨h1, h3⟩, fun Q => ?_⟩
        rw [en80]
        simp (disch := omega) only [k80_0, k80_1, k80_4, k80_5, k80_8, k80_11, k80_12, k80_13, k80_16, k80_17, k80_20, k80_23, k80_24, k80_27, k80_28, k80_29, k80_30, k80_33, k80_35, k80_36, k80_37, k80_40, k80_41, k80_44, k80_45, k80_48_5, k80_48_17, k80_51, k80_52, k80_53, k80_56, k80_57, k80_60_5, k80_60_17, k80_63, k80_64, k80_65, Option.toList_some, Option.toList_none, List.cons_append, List.nil_append, nl_i, nl_r, nl_l, nl_n, c116, c117, hb, bI_0, n10', n10, Bool.true_eq_false, not_false_eq_true, not_true_eq_false, ↓reduceIte, hcal, nI_clamp, bnd, ly_10, Nat.reduceLT, true_and, and_true, e10]
        rw [show aBundle (cc σ.1) (nI 1) (nI s) = _ from (if_neg (fun w => h0 w.1)).trans (if_pos ⟨rfl, hb⟩), tN_nI (by omega)]
      · refine ⟨I, J, ⟨hR, CF_refl⟩, fun Q => ?_⟩
        rw [en80]
        have hb' : inr x1 4 = false := by simpa using hb
        simp (disch := omega) only [k80_0, k80_1, k80_4, k80_5, k80_8, k80_11, k80_12, k80_13, k80_16, k80_17, k80_20, k80_23, k80_24, k80_27, k80_28, k80_29, k80_30, k80_33, k80_35, k80_36, k80_37, k80_40, k80_41, k80_44, k80_45, k80_48_5, k80_48_17, k80_51, k80_52, k80_53, k80_56, k80_57, k80_60_5, k80_60_17, k80_63, k80_64, k80_65, Option.toList_some, Option.toList_none, List.cons_append, List.nil_append, nl_i, nl_r, nl_l, nl_n, c116, c117, hb', bI_0, n10', n10, n00', not_false_eq_true, not_true_eq_false, ↓reduceIte]
        rw [show aBundle (cc σ.1) (nI 1) x1 = _ from (if_neg (fun w => h0 w.1)).trans (if_neg (fun w => hb w.2))]
    · refine ⟨I, J, ⟨hR, CF_refl⟩, fun Q => ?_⟩
      rw [en80]
      have h0' : (x = 0) = False := eq_false h0
      have h1'' : (x = nI 1) = False := eq_false h1'
      simp (disch := omega) only [k80_0, k80_1, k80_4, k80_5, k80_8, k80_11, k80_12, k80_13, k80_16, k80_17, k80_20, k80_23, k80_24, k80_27, k80_28, k80_29, k80_30, k80_33, k80_35, k80_36, k80_37, k80_40, k80_41, k80_44, k80_45, k80_48_5, k80_48_17, k80_51, k80_52, k80_53, k80_56, k80_57, k80_60_5, k80_60_17, k80_63, k80_64, k80_65, Option.toList_some, Option.toList_none, List.cons_append, List.nil_append, nl_i, nl_r, nl_l, nl_n, c116, c117, bI_0, h0', h1'', n00', not_false_eq_true, not_true_eq_false, ↓reduceIte]
      rw [show aBundle (cc σ.1) x x1 = _ from (if_neg (fun w => h0 w.1)).trans (if_neg (fun w => h1' w.1))]
set_option maxRecDepth 100000 in
theorem r142 (hR : RR σ I) : ∃ I' J', (RR σ I' ∧ QF I J I' J') ∧ ∀ Q : Option Value → ab_I → ab_J → Prop, Cal 142 [.ref 49, .int x, .int x1] I J Q ↔ Q (some (.int (aBundle (cc σ.1) x x1))) I' J' := by
  obtain ⟨I1, ⟨h1, h3⟩, hcal⟩ := st138 (J := J) hR
  by_cases h0 : x = nI 0
  · subst h0
    have i2 : inr (nI 0) 2 = true := by decide
    by_cases hb : inr x1 12 = true
    · obtain ⟨s, hs, rfl⟩ := inr_nI hb
      have e57 := h1.2.2.2 s (by omega)
      rw [LB_s hs] at e57
      refine ⟨I1, J, ⟨RL_RR h1, h3⟩, fun Q => ?_⟩
      rw [en142]
      simp (disch := omega) only [k142_0, k142_1, k142_2, k142_3, k142_6, k142_9, k142_10, k142_13, k142_14, k142_17, k142_20, k142_23, k142_24, k142_27, k142_30, k142_32, k142_33, k142_34, k142_37, k142_38, k142_41, k142_43, k142_44, k142_45, k142_46, k142_47, k142_48, Option.toList_some, Option.toList_none, List.cons_append, List.nil_append, nl_i, nl_r, nl_l, nl_n, c126, in01, i2, c131, c132, hb, bI_0, n00', Bool.true_eq_false, not_false_eq_true, not_true_eq_false, ↓reduceIte, hcal, pk_mul, nI_add, Nat.mul_zero, Nat.zero_add, nI_clamp, bnd, ly_57, Nat.reduceLT, true_and, and_true, e57]
      rw [show aBundle (cc σ.1) (nI 0) (nI s) = _ from if_pos ⟨rfl, hb⟩, tN_nI (by omega)]
    · refine ⟨I, J, ⟨hR, QF_refl⟩, fun Q => ?_⟩
      rw [en142]
      have hb' : inr x1 12 = false := by simpa using hb
      simp (disch := omega) only [k142_0, k142_1, k142_2, k142_3, k142_6, k142_9, k142_10, k142_13, k142_14, k142_17, k142_20, k142_23, k142_24, k142_27, k142_30, k142_32, k142_33, k142_34, k142_37, k142_38, k142_41, k142_43, k142_44, k142_45, k142_46, k142_47, k142_48, Option.toList_some, Option.toList_none, List.cons_append, List.nil_append, nl_i, nl_r, nl_l, nl_n, c126, in01, i2, c131, c132, hb', bI_0, n00', Bool.true_eq_false, not_false_eq_true, not_true_eq_false, ↓reduceIte]
      rw [show aBundle (cc σ.1) (nI 0) x1 = _ from (if_neg (fun w => hb w.2)).trans (if_neg (fun w => by have := w.1; rw [n01] at this; exact this))]
  · by_cases h1' : x = nI 1
    · subst h1'
      have i2 : inr (nI 1) 2 = true := by decide
      by_cases hb : inr x1 4 = true
      · obtain ⟨s, hs, rfl⟩ := inr_nI hb
        have e57 := h1.2.2.2 (12 + s) (by omega)
        rw [LB_m] at e57
        refine ⟨I1, J, ⟨RL_RR h1, h3⟩, fun Q => ?_⟩
        rw [en142]
        simp (disch := omega) only [k142_0, k142_1, k142_2, k142_3, k142_6, k142_9, k142_10, k142_13, k142_14, k142_17, k142_20, k142_23, k142_24, k142_27, k142_30, k142_32, k142_33, k142_34, k142_37, k142_38, k142_41, k142_43, k142_44, k142_45, k142_46, k142_47, k142_48, Option.toList_some, Option.toList_none, List.cons_append, List.nil_append, nl_i, nl_r, nl_l, nl_n, c126, in01, i2, c131, c132, hb, bI_0, n10', Bool.true_eq_false, not_false_eq_true, not_true_eq_false, ↓reduceIte, hcal, pk_mul, nI_add, Nat.mul_one, nI_clamp, bnd, ly_57, Nat.reduceLT, true_and, and_true, e57]
        rw [show aBundle (cc σ.1) (nI 1) (nI s) = _ from (if_neg (fun w => h0 w.1)).trans (if_pos ⟨rfl, hb⟩), tN_nI (by omega)]
      · refine ⟨I, J, ⟨hR, QF_refl⟩, fun Q => ?_⟩
        rw [en142]
        have hb' : inr x1 4 = false := by simpa using hb
        simp (disch := omega) only [k142_0, k142_1, k142_2, k142_3, k142_6, k142_9, k142_10, k142_13, k142_14, k142_17, k142_20, k142_23, k142_24, k142_27, k142_30, k142_32, k142_33, k142_34, k142_37, k142_38, k142_41, k142_43, k142_44, k142_45, k142_46, k142_47, k142_48, Option.toList_some, Option.toList_none, List.cons_append, List.nil_append, nl_i, nl_r, nl_l, nl_n, c126, in01, i2, c131, c132, hb', bI_0, n10', Bool.true_eq_false, not_false_eq_true, not_true_eq_false, ↓reduceIte]
        rw [show aBundle (cc σ.1) (nI 1) x1 = _ from (if_neg (fun w => h0 w.1)).trans (if_neg (fun w => hb w.2))]
    · refine ⟨I, J, ⟨hR, QF_refl⟩, fun Q => ?_⟩
      rw [en142]
      have i2 : inr x 2 = false := by
        cases w : inr x 2 with
        | false => rfl
        | true => rcases inr2.mp w with r | r
                  · exact absurd r h0
                  · exact absurd r h1'
      simp (disch := omega) only [k142_0, k142_1, k142_2, k142_3, k142_6, k142_9, k142_10, k142_13, k142_14, k142_17, k142_20, k142_23, k142_24, k142_27, k142_30, k142_32, k142_33, k142_34, k142_37, k142_38, k142_41, k142_43, k142_44, k142_45, k142_46, k142_47, k142_48, Option.toList_some, Option.toList_none, List.cons_append, List.nil_append, nl_i, nl_r, nl_l, nl_n, c126, in01, i2, bI_0, not_false_eq_true, not_true_eq_false, ↓reduceIte]
      rw [show aBundle (cc σ.1) x x1 = _ from (if_neg (fun w => h0 w.1)).trans (if_neg (fun w => h1' w.1))]
set_option maxRecDepth 100000 in
theorem q81 (hR : RC σ I J) : ∃ I' J', (RC σ I' J' ∧ CF I J I' J') ∧ ∀ Q : Option Value → ab_I → ab_J → Prop, Cal 81 [.ref 0, .int x, .int x1] I J Q ↔ Q (some (.long (aHard (cc σ.1) x x1))) I' J' := by
  by_cases hb : inr x 4 = true ∧ inr x1 2 = true
  · obtain ⟨m, hm, rfl⟩ := inr_nI hb.1
    obtain ⟨I1, J1, ⟨h1, hS, h3⟩, hcal⟩ := st110 hR
    have e10 : I1 10 m = _ := hS.2.1.2.2.2.2.1 m hm
    have e15 : J1 15 m = _ := hS.2.2.1.1 m hm
    have e5 : J1 5 11 = _ := hS.2.1.2.2.2.2.2.2.2.2
    have hM := cc_MK hR.1.1
    have o1 := bd_ok (hr_bd hM hm) (by decide)
    have p1 := wh_pos (cc σ.1)
    have p2 := wh_le (cc σ.1)
    have h4 := lb_le4 (hnd (cc σ.1)) m
    refine ⟨I1, J1, ⟨h1, h3⟩, fun Q => ?_⟩
    rw [en81, show aHard (cc σ.1) (nI m) x1 = _ from if_pos hb, tN_nI (by omega)]
    unfold aHardT
    by_cases q : lb (hnd (cc σ.1)) m = 4
    · rw [if_pos q]
      simp (disch := omega) only [k81_0, k81_1, k81_4, k81_7, k81_8, k81_11, k81_14, k81_16, k81_19, k81_20, k81_21, k81_24, k81_25, k81_28_5, k81_28_17, k81_31, k81_32, k81_33, k81_34, k81_37, k81_39, k81_42, k81_43, k81_44, k81_47_5, k81_47_17, k81_50, k81_51, k81_52, k81_53, k81_56_5, k81_56_17, k81_59, k81_60, k81_63, Option.toList_some, Option.toList_none, List.cons_append, List.nil_append, nl_i, nl_r, nl_l, nl_n, c117, c120, c121, hb.1, hb.2, bI_0, Bool.true_eq_false, not_false_eq_true, not_true_eq_false, ↓reduceIte, hcal, nI_clamp, bnd, ly_10, Nat.reduceLT, true_and, and_true, e10, q, enc_4, nO]
    · rw [if_neg q]
      have em : ¬ nI (lb (hnd (cc σ.1)) m) = -1 := nI_m1 (by omega)
      simp (disch := omega) only [k81_0, k81_1, k81_4, k81_7, k81_8, k81_11, k81_14, k81_16, k81_19, k81_20, k81_21, k81_24, k81_25, k81_28_5, k81_28_17, k81_31, k81_32, k81_33, k81_34, k81_37, k81_39, k81_42, k81_43, k81_44, k81_47_5, k81_47_17, k81_50, k81_51, k81_52, k81_53, k81_56_5, k81_56_17, k81_59, k81_60, k81_63, Option.toList_some, Option.toList_none, List.cons_append, List.nil_append, nl_i, nl_r, nl_l, nl_n, c117, c120, c121, hb.1, hb.2, bI_0, Bool.true_eq_false, not_false_eq_true, not_true_eq_false, ↓reduceIte, hcal, nI_clamp, bnd, ly_10, ly_15, Nat.reduceLT, true_and, and_true, e10, enc_lt (show lb (hnd (cc σ.1)) m < 4 by omega), em, e15, e5, c122, sdF_low o1 p1 (show whC (cc σ.1) < 562949953421312 by omega)]
  · refine ⟨I, J, ⟨hR, CF_refl⟩, fun Q => ?_⟩
    rw [en81, show aHard (cc σ.1) x x1 = _ from if_neg hb]
    cases q1 : inr x 4
    · simp only [k81_0, k81_1, k81_4, k81_7, k81_8, k81_11, k81_14, k81_16, k81_19, k81_20, k81_21, k81_24, k81_25, k81_28_5, k81_28_17, k81_31, k81_32, k81_33, k81_34, k81_37, k81_39, k81_42, k81_43, k81_44, k81_47_5, k81_47_17, k81_50, k81_51, k81_52, k81_53, k81_56_5, k81_56_17, k81_59, k81_60, k81_63, Option.toList_some, Option.toList_none, List.cons_append, List.nil_append, nl_i, nl_r, nl_l, nl_n, c117, c120, c121, q1, bI_0, Bool.true_eq_false, not_true_eq_false, not_false_eq_true, ↓reduceIte, nO]
    · cases q2 : inr x1 2
      · simp only [k81_0, k81_1, k81_4, k81_7, k81_8, k81_11, k81_14, k81_16, k81_19, k81_20, k81_21, k81_24, k81_25, k81_28_5, k81_28_17, k81_31, k81_32, k81_33, k81_34, k81_37, k81_39, k81_42, k81_43, k81_44, k81_47_5, k81_47_17, k81_50, k81_51, k81_52, k81_53, k81_56_5, k81_56_17, k81_59, k81_60, k81_63, Option.toList_some, Option.toList_none, List.cons_append, List.nil_append, nl_i, nl_r, nl_l, nl_n, c117, c120, c121, q1, q2, bI_0, Bool.true_eq_false, not_true_eq_false, not_false_eq_true, ↓reduceIte, nO]
      · exact absurd ⟨q1, q2⟩ hb
set_option maxRecDepth 100000 in
theorem r150 (hR : RR σ I) : ∃ I' J', (RR σ I' ∧ QF I J I' J') ∧ ∀ Q : Option Value → ab_I → ab_J → Prop, Cal 150 [.ref 49, .int x, .int x1] I J Q ↔ Q (some (.long (aHard (cc σ.1) x x1))) I' J' := by
  by_cases hb : inr x 4 = true ∧ inr x1 2 = true
  · obtain ⟨m, hm, rfl⟩ := inr_nI hb.1
    obtain ⟨I1, ⟨h1, h3⟩, hcal⟩ := st138 (J := J) hR
    obtain ⟨I2, J2, ⟨g1, g2⟩, hcal2⟩ := r149 (J := J) (x1 := x1) h1 hm
    refine ⟨I2, J2, ⟨RL_RR g1, QF_trans h3 g2⟩, fun Q => ?_⟩
    rw [en150]
    simp (disch := omega) only [k150_0, k150_1, k150_4, k150_7, k150_8, k150_9, k150_10, k150_13, k150_16, k150_18, k150_21, k150_22, k150_23, k150_26, k150_27, k150_28, k150_29, k150_32, Option.toList_some, Option.toList_none, List.cons_append, List.nil_append, nl_i, nl_r, nl_l, nl_n, c132, c126, in01, hb.1, hb.2, bI_0, Bool.true_eq_false, not_false_eq_true, ↓reduceIte, hcal, hcal2]
    rw [show aHard (cc σ.1) (nI m) x1 = _ from if_pos hb, tN_nI (by omega)]
  · refine ⟨I, J, ⟨hR, QF_refl⟩, fun Q => ?_⟩
    rw [en150, show aHard (cc σ.1) x x1 = _ from if_neg hb]
    cases q1 : inr x 4
    · simp only [k150_0, k150_1, k150_4, k150_7, k150_8, k150_9, k150_10, k150_13, k150_16, k150_18, k150_21, k150_22, k150_23, k150_26, k150_27, k150_28, k150_29, k150_32, Option.toList_some, Option.toList_none, List.cons_append, List.nil_append, nl_i, nl_r, nl_l, nl_n, c132, c126, in01, c127, q1, bI_0, Bool.true_eq_false, not_true_eq_false, not_false_eq_true, ↓reduceIte, nO]
    · cases q2 : inr x1 2
      · simp only [k150_0, k150_1, k150_4, k150_7, k150_8, k150_9, k150_10, k150_13, k150_16, k150_18, k150_21, k150_22, k150_23, k150_26, k150_27, k150_28, k150_29, k150_32, Option.toList_some, Option.toList_none, List.cons_append, List.nil_append, nl_i, nl_r, nl_l, nl_n, c132, c126, in01, c127, q1, q2, bI_0, Bool.true_eq_false, not_true_eq_false, not_false_eq_true, ↓reduceIte, nO]
      · exact absurd ⟨q1, q2⟩ hb
set_option maxRecDepth 100000 in
theorem q82 (hR : RC σ I J) : ∃ I' J', (RC σ I' J' ∧ CF I J I' J') ∧ ∀ Q : Option Value → ab_I → ab_J → Prop, Cal 82 [.ref 0, .int x, .int x1] I J Q ↔ Q (some (.long (aWorth (cc σ.1) x x1))) I' J' := by
  by_cases hb : inr x 12 = true ∧ inr x1 2 = true
  · obtain ⟨s, hs, rfl⟩ := inr_nI hb.1
    obtain ⟨I1, J1, ⟨h1, hS, h3⟩, hcal⟩ := st110 hR
    have e7 : I1 7 s = _ := hS.2.1.2.1 s hs
    have e16 : J1 16 s = _ := hS.2.2.1.2 s hs
    have e5 : J1 5 11 = _ := hS.2.1.2.2.2.2.2.2.2.2
    have hM := cc_MK hR.1.1
    have o1 := bd_ok (wr_bd hM hs) (by decide)
    obtain ⟨p1, p2⟩ := i2b12 (c := cc σ.1)
    have hlt := hnd_lt (cc σ.1) s
    have h4 := slb_4 (h := hnd (cc σ.1)) hs hlt
    refine ⟨I1, J1, ⟨h1, h3⟩, fun Q => ?_⟩
    rw [en82, show aWorth (cc σ.1) (nI s) x1 = _ from if_pos hb, tN_nI (by omega)]
    unfold aWorthT
    by_cases q : slb (hnd (cc σ.1)) s = 4
    · rw [if_pos q]
      have q' := h4.mp q
      simp (disch := omega) only [k82_0, k82_1, k82_4, k82_7, k82_8, k82_11, k82_14, k82_16, k82_19, k82_20, k82_21, k82_24, k82_25, k82_28_5, k82_28_17, k82_31, k82_32, k82_33, k82_36, k82_38, k82_41, k82_42, k82_43, k82_46_5, k82_46_17, k82_49, k82_50, k82_51, k82_52, k82_55_5, k82_55_17, k82_58, k82_59, k82_62, Option.toList_some, Option.toList_none, List.cons_append, List.nil_append, nl_i, nl_r, nl_l, nl_n, c116, c120, c121, hb.1, hb.2, bI_0, Bool.true_eq_false, not_false_eq_true, not_true_eq_false, ↓reduceIte, hcal, nI_clamp, bnd, ly_7, Nat.reduceLT, true_and, and_true, e7, eq0, q', nO, n00']
    · rw [if_neg q]
      have q' : ¬ hnd (cc σ.1) s = 0 := fun w => q (h4.mpr w)
      simp (disch := omega) only [k82_0, k82_1, k82_4, k82_7, k82_8, k82_11, k82_14, k82_16, k82_19, k82_20, k82_21, k82_24, k82_25, k82_28_5, k82_28_17, k82_31, k82_32, k82_33, k82_36, k82_38, k82_41, k82_42, k82_43, k82_46_5, k82_46_17, k82_49, k82_50, k82_51, k82_52, k82_55_5, k82_55_17, k82_58, k82_59, k82_62, Option.toList_some, Option.toList_none, List.cons_append, List.nil_append, nl_i, nl_r, nl_l, nl_n, c116, c120, c121, hb.1, hb.2, bI_0, Bool.true_eq_false, not_false_eq_true, not_true_eq_false, ↓reduceIte, hcal, nI_clamp, bnd, ly_7, ly_16, Nat.reduceLT, true_and, and_true, e7, eq0, q', e16, c15_5, e5, zL_12, zL_mul, c122, sdF_low o1 p1 p2]
  · refine ⟨I, J, ⟨hR, CF_refl⟩, fun Q => ?_⟩
    rw [en82, show aWorth (cc σ.1) x x1 = _ from if_neg hb]
    cases q1 : inr x 12
    · simp only [k82_0, k82_1, k82_4, k82_7, k82_8, k82_11, k82_14, k82_16, k82_19, k82_20, k82_21, k82_24, k82_25, k82_28_5, k82_28_17, k82_31, k82_32, k82_33, k82_36, k82_38, k82_41, k82_42, k82_43, k82_46_5, k82_46_17, k82_49, k82_50, k82_51, k82_52, k82_55_5, k82_55_17, k82_58, k82_59, k82_62, Option.toList_some, Option.toList_none, List.cons_append, List.nil_append, nl_i, nl_r, nl_l, nl_n, c116, c120, c121, q1, bI_0, Bool.true_eq_false, not_true_eq_false, not_false_eq_true, ↓reduceIte, nO]
    · cases q2 : inr x1 2
      · simp only [k82_0, k82_1, k82_4, k82_7, k82_8, k82_11, k82_14, k82_16, k82_19, k82_20, k82_21, k82_24, k82_25, k82_28_5, k82_28_17, k82_31, k82_32, k82_33, k82_36, k82_38, k82_41, k82_42, k82_43, k82_46_5, k82_46_17, k82_49, k82_50, k82_51, k82_52, k82_55_5, k82_55_17, k82_58, k82_59, k82_62, Option.toList_some, Option.toList_none, List.cons_append, List.nil_append, nl_i, nl_r, nl_l, nl_n, c116, c120, c121, q1, q2, bI_0, Bool.true_eq_false, not_true_eq_false, not_false_eq_true, ↓reduceIte, nO]
      · exact absurd ⟨q1, q2⟩ hb
set_option maxRecDepth 100000 in
theorem r152 (hR : RR σ I) : ∃ I' J', (RR σ I' ∧ QF I J I' J') ∧ ∀ Q : Option Value → ab_I → ab_J → Prop, Cal 152 [.ref 49, .int x, .int x1] I J Q ↔ Q (some (.long (aWorth (cc σ.1) x x1))) I' J' := by
  by_cases hb : inr x 12 = true ∧ inr x1 2 = true
  · obtain ⟨s, hs, rfl⟩ := inr_nI hb.1
    obtain ⟨I1, ⟨h1, h3⟩, hcal⟩ := st138 (J := J) hR
    obtain ⟨I2, J2, ⟨g1, g2⟩, hcal2⟩ := r151 (J := J) (x1 := x1) h1 hs
    refine ⟨I2, J2, ⟨RL_RR g1, QF_trans h3 g2⟩, fun Q => ?_⟩
    rw [en152]
    simp (disch := omega) only [k152_0, k152_1, k152_4, k152_7, k152_8, k152_9, k152_10, k152_13, k152_16, k152_18, k152_21, k152_22, k152_23, k152_26, k152_27, k152_28, k152_29, k152_32, Option.toList_some, Option.toList_none, List.cons_append, List.nil_append, nl_i, nl_r, nl_l, nl_n, c131, c126, in01, hb.1, hb.2, bI_0, Bool.true_eq_false, not_false_eq_true, ↓reduceIte, hcal, hcal2]
    rw [show aWorth (cc σ.1) (nI s) x1 = _ from if_pos hb, tN_nI (by omega)]
  · refine ⟨I, J, ⟨hR, QF_refl⟩, fun Q => ?_⟩
    rw [en152, show aWorth (cc σ.1) x x1 = _ from if_neg hb]
    cases q1 : inr x 12
    · simp only [k152_0, k152_1, k152_4, k152_7, k152_8, k152_9, k152_10, k152_13, k152_16, k152_18, k152_21, k152_22, k152_23, k152_26, k152_27, k152_28, k152_29, k152_32, Option.toList_some, Option.toList_none, List.cons_append, List.nil_append, nl_i, nl_r, nl_l, nl_n, c131, c126, in01, c127, q1, bI_0, Bool.true_eq_false, not_true_eq_false, not_false_eq_true, ↓reduceIte, nO]
    · cases q2 : inr x1 2
      · simp only [k152_0, k152_1, k152_4, k152_7, k152_8, k152_9, k152_10, k152_13, k152_16, k152_18, k152_21, k152_22, k152_23, k152_26, k152_27, k152_28, k152_29, k152_32, Option.toList_some, Option.toList_none, List.cons_append, List.nil_append, nl_i, nl_r, nl_l, nl_n, c131, c126, in01, c127, q1, q2, bI_0, Bool.true_eq_false, not_true_eq_false, not_false_eq_true, ↓reduceIte, nO]
      · exact absurd ⟨q1, q2⟩ hb
set_option maxRecDepth 100000 in
theorem q83 (hR : RC σ I J) : ∃ I' J', (RC σ I' J' ∧ CF I J I' J') ∧ ∀ Q : Option Value → ab_I → ab_J → Prop, Cal 83 [.ref 0, .int x, .int x1, .int x2] I J Q ↔ Q (some (.long (aFit (cc σ.1) x x1 x2))) I' J' := by
  by_cases hb : inr x 12 = true ∧ inr x1 4 = true ∧ inr x2 2 = true
  · obtain ⟨s, hs, rfl⟩ := inr_nI hb.1
    obtain ⟨m, hm, rfl⟩ := inr_nI hb.2.1
    obtain ⟨I1, J1, ⟨h1, hS, h3⟩, hcal⟩ := st110 hR
    have e6 : I1 6 = cc σ.1 := hS.2.1.1
    have e5 : J1 5 11 = _ := hS.2.1.2.2.2.2.2.2.2.2
    have hM := cc_MK hR.1.1
    have hk : 4 * s + m < 48 := by omega
    have o1 := bd_ok (ft_bd hM hk) (by decide)
    obtain ⟨p1, p2⟩ := i2b12 (c := cc σ.1)
    refine ⟨I1, J1, ⟨h1, h3⟩, fun Q => ?_⟩
    rw [en83, show aFit (cc σ.1) (nI s) (nI m) x2 = _ from if_pos hb, tN_nI (by omega), tN_nI (by omega)]
    by_cases q : cc σ.1 (4 * s + m) = -1
    · rw [if_pos q]
      simp (disch := omega) only [k83_0, k83_1, k83_4, k83_7, k83_8, k83_11, k83_14, k83_15, k83_18, k83_21, k83_23, k83_26, k83_27, k83_28, k83_31, k83_32, k83_33, k83_34, k83_35, k83_36, k83_38, k83_39, k83_42_5, k83_42_17, k83_45, k83_47, k83_48, k83_49, k83_52, k83_54, k83_57, k83_58, k83_59, k83_62, k83_64_5, k83_64_17, k83_67, k83_68, k83_71_5, k83_71_17, k83_74, k83_75, k83_78, Option.toList_some, Option.toList_none, List.cons_append, List.nil_append, nl_i, nl_r, nl_l, nl_n, c116, c117, c120, c121, hb.1, hb.2, bI_0, Bool.true_eq_false, not_false_eq_true, not_true_eq_false, ↓reduceIte, hcal, pk_mul, nI_add, nI_clamp, bnd, ly_6, Nat.reduceLT, true_and, and_true, e6, q, nO]
    · rw [if_neg q]
      simp (disch := omega) only [k83_0, k83_1, k83_4, k83_7, k83_8, k83_11, k83_14, k83_15, k83_18, k83_21, k83_23, k83_26, k83_27, k83_28, k83_31, k83_32, k83_33, k83_34, k83_35, k83_36, k83_38, k83_39, k83_42_5, k83_42_17, k83_45, k83_47, k83_48, k83_49, k83_52, k83_54, k83_57, k83_58, k83_59, k83_62, k83_64_5, k83_64_17, k83_67, k83_68, k83_71_5, k83_71_17, k83_74, k83_75, k83_78, Option.toList_some, Option.toList_none, List.cons_append, List.nil_append, nl_i, nl_r, nl_l, nl_n, c116, c117, c120, c121, hb.1, hb.2, bI_0, Bool.true_eq_false, not_false_eq_true, not_true_eq_false, ↓reduceIte, hcal, pk_mul, nI_add, nI_clamp, bnd, ly_6, Nat.reduceLT, true_and, and_true, e6, q, d30_5 hM hS.2.1 hS.2.2.1 hk q, c15_5, e5, zL_12, zL_mul, c122, sdF_low o1 p1 p2]
  · refine ⟨I, J, ⟨hR, CF_refl⟩, fun Q => ?_⟩
    rw [en83, show aFit (cc σ.1) x x1 x2 = _ from if_neg hb]
    cases q1 : inr x 12
    · simp only [k83_0, k83_1, k83_4, k83_7, k83_8, k83_11, k83_14, k83_15, k83_18, k83_21, k83_23, k83_26, k83_27, k83_28, k83_31, k83_32, k83_33, k83_34, k83_35, k83_36, k83_38, k83_39, k83_42_5, k83_42_17, k83_45, k83_47, k83_48, k83_49, k83_52, k83_54, k83_57, k83_58, k83_59, k83_62, k83_64_5, k83_64_17, k83_67, k83_68, k83_71_5, k83_71_17, k83_74, k83_75, k83_78, Option.toList_some, Option.toList_none, List.cons_append, List.nil_append, nl_i, nl_r, nl_l, nl_n, c116, c117, c120, c121, q1, bI_0, Bool.true_eq_false, not_true_eq_false, not_false_eq_true, ↓reduceIte, nO]
    · cases q2 : inr x1 4
      · simp only [k83_0, k83_1, k83_4, k83_7, k83_8, k83_11, k83_14, k83_15, k83_18, k83_21, k83_23, k83_26, k83_27, k83_28, k83_31, k83_32, k83_33, k83_34, k83_35, k83_36, k83_38, k83_39, k83_42_5, k83_42_17, k83_45, k83_47, k83_48, k83_49, k83_52, k83_54, k83_57, k83_58, k83_59, k83_62, k83_64_5, k83_64_17, k83_67, k83_68, k83_71_5, k83_71_17, k83_74, k83_75, k83_78, Option.toList_some, Option.toList_none, List.cons_append, List.nil_append, nl_i, nl_r, nl_l, nl_n, c116, c117, c120, c121, q1, q2, bI_0, Bool.true_eq_false, not_true_eq_false, not_false_eq_true, ↓reduceIte, nO]
      · cases q3 : inr x2 2
        · simp only [k83_0, k83_1, k83_4, k83_7, k83_8, k83_11, k83_14, k83_15, k83_18, k83_21, k83_23, k83_26, k83_27, k83_28, k83_31, k83_32, k83_33, k83_34, k83_35, k83_36, k83_38, k83_39, k83_42_5, k83_42_17, k83_45, k83_47, k83_48, k83_49, k83_52, k83_54, k83_57, k83_58, k83_59, k83_62, k83_64_5, k83_64_17, k83_67, k83_68, k83_71_5, k83_71_17, k83_74, k83_75, k83_78, Option.toList_some, Option.toList_none, List.cons_append, List.nil_append, nl_i, nl_r, nl_l, nl_n, c116, c117, c120, c121, q1, q2, q3, bI_0, Bool.true_eq_false, not_true_eq_false, not_false_eq_true, ↓reduceIte, nO]
        · exact absurd ⟨q1, q2, q3⟩ hb
theorem f148 {c o : Nat → Int32} {k b : Nat} {K ov : Int} {hz wz : Nat → Int} (hL : Laid c o I) (hM : MK c) (hW : WkOK c b K ov hz wz J) (hk : k < 48) (hck : c k ≠ -1) (hb : slb (hnd c) (k / 4) = b) {s m : Nat} (hs : s = k / 4) (hm : m = k % 4) : Cal 148 [.ref 49, .int (nI s), .int (nI m)] I J Q ↔ Q (some (.long (zL (fzR c ov hz wz k)))) I J := by
  subst hs hm
  rw [c148 (by omega) (by omega), hL.1, show 4 * (k / 4) + k % 4 = k by omega, i2lM hM hk hck, hW.2.2.2.1, (hW.2.2.2.2.2.2 (k / 4) (by omega) hb).1, hW.2.2.2.2.1 (k % 4) (by omega), zL_mul, zL_sub, zL_add]
  rfl
theorem Laid_58 {c o a' : Nat → Int32} (h : Laid c o I) : Laid c o (va_up I 58 a') := by
  refine ⟨?_, ?_, fun k hk => ?_⟩
  · rw [up_ne _ _ (by omega)]; exact h.1
  · rw [up_ne _ _ (by omega)]; exact h.2.1
  · rw [up_ne _ _ (by omega)]; exact h.2.2 k hk
set_option maxRecDepth 100000 in
theorem r153 (hR : RR σ I) : ∃ I' J', (RR σ I' ∧ QF I J I' J') ∧ ∀ Q : Option Value → ab_I → ab_J → Prop, Cal 153 [.ref 49, .int x, .int x1, .int x2] I J Q ↔ Q (some (.long (aFit (cc σ.1) x x1 x2))) I' J' := by
  by_cases hb : inr x 12 = true ∧ inr x1 4 = true ∧ inr x2 2 = true
  · obtain ⟨s, hs, rfl⟩ := inr_nI hb.1
    obtain ⟨m, hm, rfl⟩ := inr_nI hb.2.1
    obtain ⟨I1, ⟨h1, h3⟩, hcal⟩ := st138 (J := J) hR
    have e55 : I1 55 = cc σ.1 := h1.2.1
    have e57 := h1.2.2.2 s (by omega)
    rw [LB_s hs] at e57
    have hM := cc_MK hR.1.1
    have hk : 4 * s + m < 48 := by omega
    have hshow : aFit (cc σ.1) (nI s) (nI m) x2 = if cc σ.1 (4 * s + m) = -1 then nO (-3) else zL (low (ftC (cc σ.1) (4 * s + m)) (12 * whC (cc σ.1)) x2) := by
      rw [show aFit (cc σ.1) (nI s) (nI m) x2 = _ from if_pos hb, tN_nI (by omega), tN_nI (by omega)]
    rw [hshow]
    by_cases q : cc σ.1 (4 * s + m) = -1
    · refine ⟨I1, J, ⟨RL_RR h1, h3⟩, fun Q => ?_⟩
      rw [en153, if_pos q]
      simp (disch := omega) only [k153_0, k153_1, k153_4, k153_7, k153_8, k153_11, k153_14, k153_15, k153_16, k153_17, k153_20, k153_23, k153_25, k153_28, k153_29, k153_30, k153_33, k153_34, k153_35, k153_36, k153_39, k153_40, k153_43, k153_45, k153_48, k153_49, k153_50, k153_51, k153_54, k153_55, k153_56, k153_59, k153_60, k153_61, k153_62, k153_65, k153_66, k153_69, k153_70, k153_73, Option.toList_some, Option.toList_none, List.cons_append, List.nil_append, nl_i, nl_r, nl_l, nl_n, c131, c132, c126, in01, c127, hb.1, hb.2, bI_0, Bool.true_eq_false, not_false_eq_true, not_true_eq_false, ↓reduceIte, hcal, c140 hs hm, e55, q, nO]
    · have hb1 : (hnd (cc σ.1) s).testBit m = true := by rw [hnd_bit _ s hm]; exact decide_eq_true q
      have s4 := slb_lt hs hm hb1
      obtain ⟨f1, f2⟩ := slb_fix (c := cc σ.1) hs (by omega)
      obtain ⟨a', J', K, ov, hz, wz, ⟨hW, hj⟩, hcal2⟩ := wk146 (J := J) h1.2 hM f1 f2
      obtain ⟨p1, p2, p3⟩ := wk_pos hW
      have ek : (4 * s + m) / 4 = s := by omega
      have e6 := fz_K hW hk q (by rw [ek])
      have o1 : ok (fzR (cc σ.1) ov hz wz (4 * s + m)) := bd_ok (bd_K (ft_bd hM hk) e6 hW.1) (by decide)
      obtain ⟨g1, g2⟩ := RL_58 (a' := a') h1 hj
      refine ⟨_, J', ⟨RL_RR g1, QF_trans h3 g2⟩, fun Q => ?_⟩
      rw [en153, if_neg q]
      simp (disch := omega) only [k153_0, k153_1, k153_4, k153_7, k153_8, k153_11, k153_14, k153_15, k153_16, k153_17, k153_20, k153_23, k153_25, k153_28, k153_29, k153_30, k153_33, k153_34, k153_35, k153_36, k153_39, k153_40, k153_43, k153_45, k153_48, k153_49, k153_50, k153_51, k153_54, k153_55, k153_56, k153_59, k153_60, k153_61, k153_62, k153_65, k153_66, k153_69, k153_70, k153_73, Option.toList_some, Option.toList_none, List.cons_append, List.nil_append, nl_i, nl_r, nl_l, nl_n, c131, c132, c126, in01, c127, hb.1, hb.2, bI_0, Bool.true_eq_false, not_false_eq_true, not_true_eq_false, ↓reduceIte, hcal, c140 hs hm, e55, q, nI_clamp, bnd, ly_57, Nat.reduceLT, true_and, and_true, e57, enc_lt s4, hcal2, f148 (k := 4 * s + m) (Laid_58 h1.2) hM hW hk q (by rw [ek]) ek.symm (show m = (4 * s + m) % 4 by omega), hW.2.2.2.1, c130 o1 p2 p1]
      rw [K_low hW.1 hW.2.1 hW.2.2.1 e6]
  · refine ⟨I, J, ⟨hR, QF_refl⟩, fun Q => ?_⟩
    rw [en153, show aFit (cc σ.1) x x1 x2 = _ from if_neg hb]
    cases q1 : inr x 12
    · simp only [k153_0, k153_1, k153_4, k153_7, k153_8, k153_11, k153_14, k153_15, k153_16, k153_17, k153_20, k153_23, k153_25, k153_28, k153_29, k153_30, k153_33, k153_34, k153_35, k153_36, k153_39, k153_40, k153_43, k153_45, k153_48, k153_49, k153_50, k153_51, k153_54, k153_55, k153_56, k153_59, k153_60, k153_61, k153_62, k153_65, k153_66, k153_69, k153_70, k153_73, Option.toList_some, Option.toList_none, List.cons_append, List.nil_append, nl_i, nl_r, nl_l, nl_n, c131, c132, c126, in01, c127, q1, bI_0, Bool.true_eq_false, not_true_eq_false, not_false_eq_true, ↓reduceIte, nO]
    · cases q2 : inr x1 4
      · simp only [k153_0, k153_1, k153_4, k153_7, k153_8, k153_11, k153_14, k153_15, k153_16, k153_17, k153_20, k153_23, k153_25, k153_28, k153_29, k153_30, k153_33, k153_34, k153_35, k153_36, k153_39, k153_40, k153_43, k153_45, k153_48, k153_49, k153_50, k153_51, k153_54, k153_55, k153_56, k153_59, k153_60, k153_61, k153_62, k153_65, k153_66, k153_69, k153_70, k153_73, Option.toList_some, Option.toList_none, List.cons_append, List.nil_append, nl_i, nl_r, nl_l, nl_n, c131, c132, c126, in01, c127, q1, q2, bI_0, Bool.true_eq_false, not_true_eq_false, not_false_eq_true, ↓reduceIte, nO]
      · cases q3 : inr x2 2
        · simp only [k153_0, k153_1, k153_4, k153_7, k153_8, k153_11, k153_14, k153_15, k153_16, k153_17, k153_20, k153_23, k153_25, k153_28, k153_29, k153_30, k153_33, k153_34, k153_35, k153_36, k153_39, k153_40, k153_43, k153_45, k153_48, k153_49, k153_50, k153_51, k153_54, k153_55, k153_56, k153_59, k153_60, k153_61, k153_62, k153_65, k153_66, k153_69, k153_70, k153_73, Option.toList_some, Option.toList_none, List.cons_append, List.nil_append, nl_i, nl_r, nl_l, nl_n, c131, c132, c126, in01, c127, q1, q2, q3, bI_0, Bool.true_eq_false, not_true_eq_false, not_false_eq_true, ↓reduceIte, nO]
        · exact absurd ⟨q1, q2, q3⟩ hb
set_option maxRecDepth 100000 in
theorem q84 (hR : RC σ I J) : ∃ I' J', (RC σ I' J' ∧ CF I J I' J') ∧ ∀ Q : Option Value → ab_I → ab_J → Prop, Cal 84 [.ref 0, .int x, .int x1] I J Q ↔ Q (some (.long (aOff (cc σ.1) x x1))) I' J' := by
  by_cases hb : inr x 4 = true ∧ inr x1 2 = true
  · obtain ⟨m, hm, rfl⟩ := inr_nI hb.1
    obtain ⟨I1, J1, ⟨h1, hS, h3⟩, hcal⟩ := st110 hR
    have e10 : I1 10 m = _ := hS.2.1.2.2.2.2.1 m hm
    have e9 : I1 9 m = _ := hS.2.1.2.2.2.1 m hm
    have e5 : J1 5 11 = _ := hS.2.1.2.2.2.2.2.2.2.2
    have hM := cc_MK hR.1.1
    have o1 : ok (ofZ (cc σ.1) (wC (cc σ.1) m) 48 : Nat) := okN (by have := ofZ_le hM (a := wC (cc σ.1) m) 48 (Nat.le_refl _); omega)
    obtain ⟨p1, p2⟩ := i2b12 (c := cc σ.1)
    have h4 := lb_le4 (hnd (cc σ.1)) m
    have henc : (enc (lb (hnd (cc σ.1)) m) = nI m) = (lb (hnd (cc σ.1)) m = m) := by rw [← enc_lt hm]; exact enc_eq h4 (by omega)
    refine ⟨I1, J1, ⟨h1, h3⟩, fun Q => ?_⟩
    rw [en84, show aOff (cc σ.1) (nI m) x1 = _ from if_pos hb, tN_nI (by omega)]
    by_cases q : lb (hnd (cc σ.1)) m = m
    · rw [if_pos q]
      simp (disch := omega) only [k84_0, k84_1, k84_4, k84_7, k84_8, k84_11, k84_14, k84_16, k84_19, k84_20, k84_21, k84_24, k84_25, k84_28_5, k84_28_17, k84_31, k84_32, k84_33, k84_34, k84_37, k84_39, k84_42, k84_43, k84_44, k84_47, k84_48, k84_51_5, k84_51_17, k84_54, k84_55, k84_56_5, k84_56_17, k84_59, k84_60, k84_63_5, k84_63_17, k84_66, k84_67, k84_70, Option.toList_some, Option.toList_none, List.cons_append, List.nil_append, nl_i, nl_r, nl_l, nl_n, c117, c120, c121, hb.1, hb.2, bI_0, Bool.true_eq_false, not_false_eq_true, not_true_eq_false, ↓reduceIte, hcal, nI_clamp, bnd, ly_10, ly_9, Nat.reduceLT, true_and, and_true, e10, e9, henc, q, enc_lt hm, d31_5 hM hS.2.1 hS.2.2.1 (wC_lt (cc σ.1) hm), ofA_z hM 48 (Nat.le_refl _), c15_5, e5, zL_12, zL_mul, c122, sdF_low o1 p1 p2]
    · rw [if_neg q]
      simp (disch := omega) only [k84_0, k84_1, k84_4, k84_7, k84_8, k84_11, k84_14, k84_16, k84_19, k84_20, k84_21, k84_24, k84_25, k84_28_5, k84_28_17, k84_31, k84_32, k84_33, k84_34, k84_37, k84_39, k84_42, k84_43, k84_44, k84_47, k84_48, k84_51_5, k84_51_17, k84_54, k84_55, k84_56_5, k84_56_17, k84_59, k84_60, k84_63_5, k84_63_17, k84_66, k84_67, k84_70, Option.toList_some, Option.toList_none, List.cons_append, List.nil_append, nl_i, nl_r, nl_l, nl_n, c117, c120, c121, hb.1, hb.2, bI_0, Bool.true_eq_false, not_false_eq_true, not_true_eq_false, ↓reduceIte, hcal, nI_clamp, bnd, ly_10, ly_9, Nat.reduceLT, true_and, and_true, e10, e9, henc, q, nO]
  · refine ⟨I, J, ⟨hR, CF_refl⟩, fun Q => ?_⟩
    rw [en84, show aOff (cc σ.1) x x1 = _ from if_neg hb]
    cases q1 : inr x 4
    · simp only [k84_0, k84_1, k84_4, k84_7, k84_8, k84_11, k84_14, k84_16, k84_19, k84_20, k84_21, k84_24, k84_25, k84_28_5, k84_28_17, k84_31, k84_32, k84_33, k84_34, k84_37, k84_39, k84_42, k84_43, k84_44, k84_47, k84_48, k84_51_5, k84_51_17, k84_54, k84_55, k84_56_5, k84_56_17, k84_59, k84_60, k84_63_5, k84_63_17, k84_66, k84_67, k84_70, Option.toList_some, Option.toList_none, List.cons_append, List.nil_append, nl_i, nl_r, nl_l, nl_n, c117, c120, c121, q1, bI_0, Bool.true_eq_false, not_true_eq_false, not_false_eq_true, ↓reduceIte, nO]
    · cases q2 : inr x1 2
      · simp only [k84_0, k84_1, k84_4, k84_7, k84_8, k84_11, k84_14, k84_16, k84_19, k84_20, k84_21, k84_24, k84_25, k84_28_5, k84_28_17, k84_31, k84_32, k84_33, k84_34, k84_37, k84_39, k84_42, k84_43, k84_44, k84_47, k84_48, k84_51_5, k84_51_17, k84_54, k84_55, k84_56_5, k84_56_17, k84_59, k84_60, k84_63_5, k84_63_17, k84_66, k84_67, k84_70, Option.toList_some, Option.toList_none, List.cons_append, List.nil_append, nl_i, nl_r, nl_l, nl_n, c117, c120, c121, q1, q2, bI_0, Bool.true_eq_false, not_true_eq_false, not_false_eq_true, ↓reduceIte, nO]
      · exact absurd ⟨q1, q2⟩ hb
set_option maxRecDepth 100000 in
theorem r154 {c o : Nat → Int32} {m : Nat} (hL : Laid c o I) (hm : m < 4) : Cal 154 [.ref 49, .int (nI m)] I J Q ↔ Q (some (.int (bI (decide (lb (hnd c) m = m))))) I J := by
  have e57 := hL.2.2 (12 + m) (by omega)
  rw [LB_m] at e57
  have henc : (enc (lb (hnd c) m) = nI m) = (lb (hnd c) m = m) := by rw [← enc_lt hm]; exact enc_eq (lb_le4 _ _) (by omega)
  have hi := inr_of (n := 4) hm (by decide)
  rw [en154]
  by_cases q : lb (hnd c) m = m
  · simp (disch := omega) only [k154_0, k154_1, k154_4, k154_7, k154_8, k154_11, k154_13, k154_14, k154_15, k154_16, k154_17, k154_20, k154_21, k154_24, k154_25, Option.toList_some, Option.toList_none, List.cons_append, List.nil_append, nl_i, nl_r, nl_l, nl_n, c132, hi, bI_0, Bool.true_eq_false, ↓reduceIte, nI_add, nI_clamp, bnd, ly_57, Nat.reduceLT, true_and, and_true, e57, henc, q, enc_lt hm, not_true_eq_false, n10', show (nI 1 = 1) = True from eq_true rfl, or_true, decide_true, bI_t]
  · simp (disch := omega) only [k154_0, k154_1, k154_4, k154_7, k154_8, k154_11, k154_13, k154_14, k154_15, k154_16, k154_17, k154_20, k154_21, k154_24, k154_25, Option.toList_some, Option.toList_none, List.cons_append, List.nil_append, nl_i, nl_r, nl_l, nl_n, c132, hi, bI_0, Bool.true_eq_false, ↓reduceIte, nI_add, nI_clamp, bnd, ly_57, Nat.reduceLT, true_and, and_true, e57, henc, q, not_false_eq_true, n10', n00', true_or, decide_false, bI_f]
set_option maxRecDepth 100000 in
theorem r155 {c o : Nat → Int32} {b : Nat} (hL : Laid c o I) (hM : MK c) (hb : b < 4) (hbb : lb (hnd c) b = b) : ∃ (a' : Nat → Int32) (J' : ab_J) (K ov : Int) (F : Nat), (0 < K ∧ 0 < ov ∧ whC c = K * ov ∧ J' 49 17 = zL (12 * ov) ∧ (ofZ c (wC c b) 48 : Int) = K * F ∧ ∀ k, k < 49 → J' k = J k) ∧ ∀ Q : Option Value → ab_I → ab_J → Prop, Cal 155 [.ref 49, .int (nI b)] I J Q ↔ Q (some (.long (zL F))) (va_up I 58 a') J' := by
  obtain ⟨a', J', K, ov, hz, wz, ⟨hW, hj⟩, hcal⟩ := wk146 (J := J) hL hM hb hbb
  refine ⟨a', J', K, ov, ofB c b (fun k => (fzR c ov hz wz k).natAbs) 48, ⟨hW.1, hW.2.1, hW.2.2.1, hW.2.2.2.1, ?_, hj⟩, fun Q => Cal_of (fun Q hQ => ?_)⟩
  · have hK := hW.1
    obtain ⟨k, hk⟩ := Int.eq_ofNat_of_zero_le (Int.le_of_lt hK)
    rw [ofB_Z hb hbb 48 (Nat.le_refl _), ofB_K (K := k) (g := fun k => (fzR c ov hz wz k).natAbs) 48 (fun j hj1 hj2 hj3 => ?_), hk, Int.natCast_mul]
    show (ftC c j).natAbs = _
    rw [fz_K hW hj1 hj2 hj3, Int.natAbs_mul, hk]
    rfl
  · have hL' := Laid_58 (a' := a') hL
    rw [en155]
    simp (disch := omega) only [k155_0, k155_1, k155_2, k155_5, k155_6, k155_7, k155_8, Option.toList_some, Option.toList_none, List.cons_append, List.nil_append, nl_i, nl_r, nl_l, nl_n, hcal]
    have key : At 155 10 [some (.ref 49), some (.int (nI b)), some (.long (zL (ofB c b (fun k => (fzR c ov hz wz k).natAbs) 0))), none, some (.int (nI 0))] [] (va_up I 58 a') J' Q := by
      refine loop_dn (N := 48) (P := fun k => At 155 10 [some (.ref 49), some (.int (nI b)), some (.long (zL (ofB c b (fun k => (fzR c ov hz wz k).natAbs) k))), none, some (.int (nI k))] [] (va_up I 58 a') J' Q) ?_ ?_
      · rw [k155_10]
        simp (disch := omega) only [k155_0, k155_1, k155_2, k155_5, k155_6, k155_7, k155_8, k155_12, k155_14, k155_17, k155_18, k155_19, k155_22, k155_24, k155_25, k155_26, k155_29, k155_30, k155_33, k155_35, k155_36, k155_37, k155_38, k155_39, k155_42, k155_43, k155_45, k155_46, k155_47, k155_49, k155_50, k155_51, k155_54, k155_57, k155_60, k155_61, k155_62, k155_63, k155_66, k155_69, k155_70, Option.toList_some, Option.toList_none, List.cons_append, List.nil_append, nl_i, nl_r, nl_l, nl_n, nI_leI, Nat.le_refl, ↓reduceIte]
        exact hQ
      · intro k hk ih
        have e0 : ¬ 48 ≤ k := by omega
        have e57 := hL'.2.2 (k / 4) (by omega)
        rw [LB_s (by omega)] at e57
        have e55 := hL'.1
        have henc : (enc (slb (hnd c) (k / 4)) = nI b) = (slb (hnd c) (k / 4) = b) := by rw [← enc_lt hb]; exact enc_eq (slb_le4 _ _) (by omega)
        have n4 : ¬ nI 4 = 0 := by decide
        unfold ofB at ih
        rw [k155_10]
        simp (disch := omega) only [k155_12, k155_14, k155_17, k155_18, k155_19, k155_22, k155_24, k155_25, k155_26, Option.toList_some, Option.toList_none, List.cons_append, List.nil_append, nl_i, nl_r, nl_l, nl_n, nI_leI, e0, ↓reduceIte, nI_clamp, bnd, ly_55, Nat.reduceLT, true_and, and_true, e55]
        by_cases q1 : c k = -1
        · rw [if_neg (fun w => w.1 q1), Int.natCast_add] at ih
          rw [if_pos q1]
          simp (disch := omega) only [k155_60, k155_61, k155_62, k155_63, k155_66, Option.toList_some, Option.toList_none, List.cons_append, List.nil_append, nl_i, nl_r, nl_l, nl_n, nI_add, zL_0, zL_add]
          exact ih
        · rw [if_neg q1]
          simp (disch := omega) only [k155_29, k155_30, k155_33, k155_35, k155_36, k155_37, k155_38, k155_39, Option.toList_some, Option.toList_none, List.cons_append, List.nil_append, nl_i, nl_r, nl_l, nl_n, n4, not_false_eq_true, div4, nI_clamp, bnd, ly_57, Nat.reduceLT, true_and, and_true, e57, henc]
          by_cases q2 : slb (hnd c) (k / 4) = b
          · rw [if_pos ⟨q1, q2⟩, Int.natCast_add] at ih
            rw [if_neg (fun w => w q2)]
            have o1 : ok (fzR c ov hz wz k) := bd_ok (bd_K (ft_bd hM hk) (fz_K hW hk q1 q2) hW.1) (by decide)
            simp (disch := omega) only [k155_42, k155_43, k155_45, k155_46, k155_47, k155_49, k155_50, k155_51, k155_54, k155_57, k155_61, k155_62, k155_63, k155_66, Option.toList_some, Option.toList_none, List.cons_append, List.nil_append, nl_i, nl_r, nl_l, nl_n, n4, not_false_eq_true, true_and, div4, rem4b, f148 hL' hM hW hk q1 q2 rfl rfl, c128, am_abL, abL_z o1, zL_add, nI_add]
            exact ih
          · rw [if_neg (fun w => q2 w.2), Int.natCast_add] at ih
            rw [if_pos q2]
            simp (disch := omega) only [k155_60, k155_61, k155_62, k155_63, k155_66, Option.toList_some, Option.toList_none, List.cons_append, List.nil_append, nl_i, nl_r, nl_l, nl_n, nI_add, zL_0, zL_add]
            exact ih
    rw [show (0 : Int64) = zL ((ofB c b (fun k => (fzR c ov hz wz k).natAbs) 0 : Nat) : Int) from zL_0]
    exact key
set_option maxRecDepth 100000 in
theorem r156 (hR : RR σ I) : ∃ I' J', (RR σ I' ∧ QF I J I' J') ∧ ∀ Q : Option Value → ab_I → ab_J → Prop, Cal 156 [.ref 49, .int x, .int x1] I J Q ↔ Q (some (.long (aOff (cc σ.1) x x1))) I' J' := by
  by_cases hb : inr x 4 = true ∧ inr x1 2 = true
  · obtain ⟨m, hm, rfl⟩ := inr_nI hb.1
    obtain ⟨I1, ⟨h1, h3⟩, hcal⟩ := st138 (J := J) hR
    have hM := cc_MK hR.1.1
    have hshow : aOff (cc σ.1) (nI m) x1 = if lb (hnd (cc σ.1)) m = m then zL (low (ofZ (cc σ.1) (wC (cc σ.1) m) 48) (12 * whC (cc σ.1)) x1) else nO (-3) := by
      rw [show aOff (cc σ.1) (nI m) x1 = _ from if_pos hb, tN_nI (by omega)]
    rw [hshow]
    by_cases q : lb (hnd (cc σ.1)) m = m
    · obtain ⟨a', J', K, ov, F, ⟨w1, w2, w3, w4, w5, w6⟩, hcal2⟩ := r155 (J := J) h1.2 hM hm q
      obtain ⟨g1, g2⟩ := RL_58 (a' := a') h1 w6
      have b1 := bd_K (wh_bd (cc σ.1)) w3 w1
      have p2 : ok (12 * ov) := bd_ok (bd_mul (A := 12) (by unfold bd; omega) b1) (by decide)
      have o1 : ok (F : Int) := bd_ok (bd_K (A := 48 * 68024448000) (by have := ofZ_le hM (a := wC (cc σ.1) m) 48 (Nat.le_refl _); unfold bd; omega) w5 w1) (by decide)
      refine ⟨_, J', ⟨RL_RR g1, QF_trans h3 g2⟩, fun Q => ?_⟩
      rw [en156, if_pos q]
      simp (disch := omega) only [k156_0, k156_1, k156_4, k156_7, k156_8, k156_9, k156_10, k156_13, k156_16, k156_18, k156_21, k156_22, k156_23, k156_26, k156_27, k156_28, k156_31, k156_34, k156_35, k156_36, k156_39, k156_40, k156_43, k156_44, k156_47, k156_50, k156_52, k156_55, Option.toList_some, Option.toList_none, List.cons_append, List.nil_append, nl_i, nl_r, nl_l, nl_n, c132, c126, in01, hb.1, hb.2, bI_0, Bool.true_eq_false, not_false_eq_true, ↓reduceIte, hcal, r154 h1.2 hm, q, decide_true, hcal2, w4, c130 o1 p2 (show 0 < 12 * ov by omega)]
      rw [K_low w1 w2 w3 w5]
    · refine ⟨I1, J, ⟨RL_RR h1, h3⟩, fun Q => ?_⟩
      rw [en156, if_neg q]
      simp (disch := omega) only [k156_0, k156_1, k156_4, k156_7, k156_8, k156_9, k156_10, k156_13, k156_16, k156_18, k156_21, k156_22, k156_23, k156_26, k156_27, k156_28, k156_31, k156_34, k156_35, k156_36, k156_39, k156_40, k156_43, k156_44, k156_47, k156_50, k156_52, k156_55, Option.toList_some, Option.toList_none, List.cons_append, List.nil_append, nl_i, nl_r, nl_l, nl_n, c132, c126, in01, hb.1, hb.2, bI_0, Bool.true_eq_false, not_false_eq_true, ↓reduceIte, hcal, r154 h1.2 hm, q, decide_false, c127, nO]
  · refine ⟨I, J, ⟨hR, QF_refl⟩, fun Q => ?_⟩
    rw [en156, show aOff (cc σ.1) x x1 = _ from if_neg hb]
    cases q1 : inr x 4
    · simp only [k156_0, k156_1, k156_4, k156_7, k156_8, k156_9, k156_10, k156_13, k156_16, k156_18, k156_21, k156_22, k156_23, k156_26, k156_27, k156_28, k156_31, k156_34, k156_35, k156_36, k156_39, k156_40, k156_43, k156_44, k156_47, k156_50, k156_52, k156_55, Option.toList_some, Option.toList_none, List.cons_append, List.nil_append, nl_i, nl_r, nl_l, nl_n, c132, c126, in01, c127, q1, bI_0, Bool.true_eq_false, not_true_eq_false, not_false_eq_true, ↓reduceIte, nO]
    · cases q2 : inr x1 2
      · simp only [k156_0, k156_1, k156_4, k156_7, k156_8, k156_9, k156_10, k156_13, k156_16, k156_18, k156_21, k156_22, k156_23, k156_26, k156_27, k156_28, k156_31, k156_34, k156_35, k156_36, k156_39, k156_40, k156_43, k156_44, k156_47, k156_50, k156_52, k156_55, Option.toList_some, Option.toList_none, List.cons_append, List.nil_append, nl_i, nl_r, nl_l, nl_n, c132, c126, in01, c127, q1, q2, bI_0, Bool.true_eq_false, not_true_eq_false, not_false_eq_true, ↓reduceIte, nO]
      · exact absurd ⟨q1, q2⟩ hb
end WCALL
