/-! CALLS: agree, the class's side -/
def DS (n : Nat) (f1 f2 : Nat → Int32) (lst : Int32) (I : ab_I) : Prop := I 33 5 = nI n ∧ I 33 6 = lst ∧ ∀ i j, i < n → j < n → I 36 (7 * i + j) = sgn (f1 i) (f1 j) ∧ I 37 (7 * i + j) = sgn (f2 i) (f2 j)
theorem DS_38 {n : Nat} {f1 f2 : Nat → Int32} {lst : Int32} {I : ab_I} {d : Nat → Int32} (h : DS n f1 f2 lst I) : DS n f1 f2 lst (va_up I 38 d) := by
  obtain ⟨h1, h2, h3⟩ := h
  refine ⟨?_, ?_, fun i j hi hj => ?_⟩
  · rw [up_ne _ _ (by omega)]; exact h1
  · rw [up_ne _ _ (by omega)]; exact h2
  · rw [up_ne _ _ (by omega), up_ne _ _ (by omega)]; exact h3 i j hi hj
theorem shr7 {u m : Nat} (hu : u < 128) (hm : m < 7) : (((nI u >>> (nI m &&& 31)) &&& nI 1) = 0) = (u.testBit m = false) := by
  have h : ∀ u, u < 128 → ∀ m, m < 7 → ((((nI u >>> (nI m &&& 31)) &&& nI 1) = 0) ↔ (u.testBit m = false)) := by decide +kernel
  exact propext (h u hu m hm)
section AGC
variable {I : ab_I} {J : ab_J} {Q : Option Value → ab_I → ab_J → Prop} {σ : PS} {x x1 x2 x3 x4 : Int32}
theorem q13 : Cal 13 [.int x, .int x1] I J Q ↔ Q (some (.int (sgn x x1))) I J := by
  rw [en13]
  unfold sgn
  by_cases q : x = x1
  · subst q
    simp (disch := omega) only [k13_0, k13_1, k13_2, k13_5, k13_6, k13_7, k13_8, k13_9, k13_12, k13_13, k13_16, k13_17, Option.toList_some, Option.toList_none, List.cons_append, List.nil_append, nl_i, nl_r, nl_l, nl_n, not_true_eq_false, ↓reduceIte]
  · rw [if_neg q]
    by_cases q2 : x1 ≤ x
    · rw [if_neg (fun w => ge_lt.mpr w q2)]
      simp (disch := omega) only [k13_0, k13_1, k13_2, k13_5, k13_6, k13_7, k13_8, k13_9, k13_12, k13_13, k13_16, k13_17, Option.toList_some, Option.toList_none, List.cons_append, List.nil_append, nl_i, nl_r, nl_l, nl_n, q, q2, not_false_eq_true, ↓reduceIte]
    · rw [if_pos (ge_lt.mp q2)]
      simp (disch := omega) only [k13_0, k13_1, k13_2, k13_5, k13_6, k13_7, k13_8, k13_9, k13_12, k13_13, k13_16, k13_17, Option.toList_some, Option.toList_none, List.cons_append, List.nil_append, nl_i, nl_r, nl_l, nl_n, q, q2, not_false_eq_true, ↓reduceIte]
set_option maxRecDepth 100000 in
theorem q12 {n p mk : Nat} {f1 f2 : Nat → Int32} {lst : Int32} {o : Nat → Nat} (hD : DS n f1 f2 lst I) (hn : n ≤ 7) (hp : p < n) (hmk : mk < n) (ho : ∀ q, q < p → I 38 q = nI (o q) ∧ o q < n) : Cal 12 [.ref 33, .int (nI p), .int (nI mk)] I J Q ↔ Q (some (.int (gS (Fm f1 f2 (va_up o p mk)) p p))) I J := by
  refine Cal_of (fun Q hQ => ?_)
  rw [en12]
  simp (disch := omega) only [k12_0, k12_1, k12_2, k12_3, Option.toList_some, Option.toList_none, List.cons_append, List.nil_append, nl_i, nl_r, nl_l, nl_n]
  refine loop_dn (N := p) (P := fun q => At 12 5 [some (.ref 33), some (.int (nI p)), some (.int (nI mk)), some (.int (gS (Fm f1 f2 (va_up o p mk)) p q)), some (.int (nI q))] [] I J Q) ?_ ?_
  · rw [k12_5]
    simp (disch := omega) only [k12_7, k12_8, k12_50, k12_51, nI_leI, Nat.le_refl, ↓reduceIte]
    exact hQ
  · intro q hq ih
    have e0 : ¬ p ≤ q := by omega
    obtain ⟨o1, o2⟩ := ho q hq
    have d1 := (hD.2.2 p q hp (by omega)).1
    have d2 := (hD.2.2 mk (o q) hmk o2).2
    have eF : Fm f1 f2 (va_up o p mk) p q = sgn (f1 p) (f1 q) * sgn (f2 mk) (f2 (o q)) := by
      unfold Fm
      rw [va_up_s, va_up_n _ _ (show q ≠ p by omega)]
    unfold gS at ih
    rw [eF] at ih
    rw [k12_5]
    simp (disch := omega) only [k12_7, k12_8, k12_11, k12_12, k12_13, k12_16, k12_18, k12_19, k12_20, k12_22, k12_23, k12_24, k12_25, k12_28, k12_30, k12_31, k12_32, k12_33, k12_36, k12_38, k12_39, k12_40, k12_41, k12_42, k12_43, k12_44, k12_47, Option.toList_some, Option.toList_none, List.cons_append, List.nil_append, nl_i, nl_r, nl_l, nl_n, nI_leI, e0, ↓reduceIte, pk_mul, nI_add, nI_clamp, bnd, ly_36, ly_37, ly_38, Nat.reduceLT, true_and, and_true, o1, d1, d2]
    exact ih
set_option maxRecDepth 100000 in
theorem q11 {n : Nat} {f1 f2 : Nat → Int32} {lst : Int32} (hn : n ≤ 7) (hp : 7 ≤ n) {u : Nat} {o : Nat → Nat} (hu : u < 128) (hD : DS n f1 f2 lst I) (ho : ∀ q, q < 7 → I 38 q = nI (o q) ∧ o q < n) : ∃ d' : Nat → Int32, (∀ q, q < 7 → d' q = I 38 q) ∧ ∀ Q : Option Value → ab_I → ab_J → Prop, Cal 11 [.ref 33, .int (nI 7), .int (nI u), .int x] I J Q ↔ Q (some (.int (nI (dl n lst f1 f2 (n - 7) 7 u o x)))) (va_up I 38 d') J := by
  obtain ⟨d1, d2, d3⟩ := id hD
  have hend : n ≤ 7 := hn
  by_cases hw : n = 7
  · refine ⟨I 38, fun q _ => rfl, fun Q => ?_⟩
    have e0 : n ≤ 7 := by omega
    rw [up_id, en11, show n - 7 = 0 by omega]
    unfold dl
    by_cases q : lst ≤ x
    · have q' : ¬ x < lst := fun w => ge_lt.mpr w q
      rw [if_pos q]
      simp (disch := omega) only [k11_0, k11_1, k11_2, k11_5, k11_8, k11_9, k11_11, k11_14, k11_15, k11_16, k11_19, k11_22, k11_23, k11_26, k11_27, k11_28, k11_29, k11_31, k11_32, k11_36, k11_37, k11_40, k11_43, k11_44, k11_46, k11_47, k11_48, k11_49, k11_52, k11_53, k11_56, k11_57, k11_59, k11_60, k11_62, k11_63, k11_64, k11_65, k11_66, k11_67, k11_68, k11_70, k11_71, k11_72, k11_73, k11_74, k11_75, k11_77, k11_80, k11_84, k11_85, k11_87, k11_90, k11_93, k11_95, Option.toList_some, Option.toList_none, List.cons_append, List.nil_append, nl_i, nl_r, nl_l, nl_n, d1, d2, nI_leI, e0, ↓reduceIte, q']
    · have q' : x < lst := ge_lt.mp q
      rw [if_neg q]
      simp (disch := omega) only [k11_0, k11_1, k11_2, k11_5, k11_8, k11_9, k11_11, k11_14, k11_15, k11_16, k11_19, k11_22, k11_23, k11_26, k11_27, k11_28, k11_29, k11_31, k11_32, k11_36, k11_37, k11_40, k11_43, k11_44, k11_46, k11_47, k11_48, k11_49, k11_52, k11_53, k11_56, k11_57, k11_59, k11_60, k11_62, k11_63, k11_64, k11_65, k11_66, k11_67, k11_68, k11_70, k11_71, k11_72, k11_73, k11_74, k11_75, k11_77, k11_80, k11_84, k11_85, k11_87, k11_90, k11_93, k11_95, Option.toList_some, Option.toList_none, List.cons_append, List.nil_append, nl_i, nl_r, nl_l, nl_n, d1, d2, nI_leI, e0, ↓reduceIte, q']
  · omega
set_option maxRecDepth 100000 in
theorem q10 {n : Nat} {f1 f2 : Nat → Int32} {lst : Int32} (hn : n ≤ 7) (hp : 6 ≤ n) {u : Nat} {o : Nat → Nat} (hu : u < 128) (hD : DS n f1 f2 lst I) (ho : ∀ q, q < 6 → I 38 q = nI (o q) ∧ o q < n) : ∃ d' : Nat → Int32, (∀ q, q < 6 → d' q = I 38 q) ∧ ∀ Q : Option Value → ab_I → ab_J → Prop, Cal 10 [.ref 33, .int (nI 6), .int (nI u), .int x] I J Q ↔ Q (some (.int (nI (dl n lst f1 f2 (n - 6) 6 u o x)))) (va_up I 38 d') J := by
  obtain ⟨d1, d2, d3⟩ := id hD
  by_cases hw : n = 6
  · refine ⟨I 38, fun q _ => rfl, fun Q => ?_⟩
    have e0 : n ≤ 6 := by omega
    rw [up_id, en10, show n - 6 = 0 by omega]
    unfold dl
    by_cases q : lst ≤ x
    · have q' : ¬ x < lst := fun w => ge_lt.mpr w q
      rw [if_pos q]
      simp (disch := omega) only [k10_0, k10_1, k10_2, k10_5, k10_8, k10_9, k10_11, k10_14, k10_15, k10_16, k10_19, k10_22, k10_23, k10_26, k10_27, k10_28, k10_29, k10_31, k10_32, k10_36, k10_37, k10_40, k10_43, k10_44, k10_46, k10_47, k10_48, k10_49, k10_52, k10_53, k10_56, k10_57, k10_59, k10_60, k10_62, k10_63, k10_64, k10_65, k10_66, k10_67, k10_68, k10_70, k10_71, k10_72, k10_73, k10_74, k10_75, k10_77, k10_80, k10_81, k10_84, k10_85, k10_87, k10_90, k10_93, k10_95, Option.toList_some, Option.toList_none, List.cons_append, List.nil_append, nl_i, nl_r, nl_l, nl_n, d1, d2, nI_leI, e0, ↓reduceIte, q']
    · have q' : x < lst := ge_lt.mp q
      rw [if_neg q]
      simp (disch := omega) only [k10_0, k10_1, k10_2, k10_5, k10_8, k10_9, k10_11, k10_14, k10_15, k10_16, k10_19, k10_22, k10_23, k10_26, k10_27, k10_28, k10_29, k10_31, k10_32, k10_36, k10_37, k10_40, k10_43, k10_44, k10_46, k10_47, k10_48, k10_49, k10_52, k10_53, k10_56, k10_57, k10_59, k10_60, k10_62, k10_63, k10_64, k10_65, k10_66, k10_67, k10_68, k10_70, k10_71, k10_72, k10_73, k10_74, k10_75, k10_77, k10_80, k10_81, k10_84, k10_85, k10_87, k10_90, k10_93, k10_95, Option.toList_some, Option.toList_none, List.cons_append, List.nil_append, nl_i, nl_r, nl_l, nl_n, d1, d2, nI_leI, e0, ↓reduceIte, q']
  · have hpn : 6 < n := by omega
    have main : ∀ Q : Option Value → ab_I → ab_J → Prop, (∀ v I' J', ((∃ d' : Nat → Int32, I' = va_up I 38 d' ∧ ∀ q, q < 6 → d' q = I 38 q) ∧ J' = J ∧ v = some (.int (nI (dl n lst f1 f2 (n - 6) 6 u o x)))) → Q v I' J') → Cal 10 [.ref 33, .int (nI 6), .int (nI u), .int x] I J Q := by
      intro Q hQ
      have e0 : ¬ n ≤ 6 := by omega
      have e1 : nI 6 < nI 7 := by decide
      rw [show n - 6 = (n - 7) + 1 by omega] at hQ
      unfold dl at hQ
      rw [en10]
      simp (disch := omega) only [k10_0, k10_1, k10_2, k10_5, k10_8, k10_9, k10_11, k10_28, k10_29, k10_31, k10_32, Option.toList_some, Option.toList_none, List.cons_append, List.nil_append, nl_i, nl_r, nl_l, nl_n, d1, nI_leI, e0, e1, ↓reduceIte]
      have outer : ∀ I1 J1, (J1 = J ∧ ∃ d' : Nat → Int32, I1 = va_up I 38 d' ∧ ∀ q, q < 6 → d' q = I 38 q) → At 10 34 [some (.ref 33), some (.int (nI 6)), some (.int (nI u)), some (.int x), some (.int (nI (sN (fun mk => if u.testBit mk then 0 else dl n lst f1 f2 (n - 7) (6 + 1) (u ||| 2 ^ mk) (va_up o 6 mk) (x + gS (Fm f1 f2 (va_up o 6 mk)) 6 6)) 0))), some (.int (nI 0))] [] I1 J1 Q := by
        refine loop_ij (N := n) (P := fun k I1 J1 => At 10 34 [some (.ref 33), some (.int (nI 6)), some (.int (nI u)), some (.int x), some (.int (nI (sN (fun mk => if u.testBit mk then 0 else dl n lst f1 f2 (n - 7) (6 + 1) (u ||| 2 ^ mk) (va_up o 6 mk) (x + gS (Fm f1 f2 (va_up o 6 mk)) 6 6)) k))), some (.int (nI k))] [] I1 J1 Q) (G := fun _ I1 J1 => J1 = J ∧ ∃ d' : Nat → Int32, I1 = va_up I 38 d' ∧ ∀ q, q < 6 → d' q = I 38 q) ?_ ?_
        · rintro I1 J1 ⟨rfl, d', rfl, hd⟩
          have d1' := (DS_38 (d := d') hD).1
          rw [k10_34]
          simp (disch := omega) only [k10_36, k10_37, k10_40, k10_93, k10_95, d1', nI_leI, Nat.le_refl, ↓reduceIte]
          exact hQ _ _ _ ⟨⟨d', rfl, hd⟩, rfl, rfl⟩
        · rintro k I1 J1 hk ⟨rfl, d', rfl, hd⟩ ih
          have hD' := DS_38 (d := d') hD
          have d1' := hD'.1
          have e2 : ¬ n ≤ k := by omega
          rw [k10_34]
          simp (disch := omega) only [k10_36, k10_37, k10_40, k10_43, k10_44, k10_46, k10_47, k10_48, k10_49, d1', nI_leI, e2, ↓reduceIte, shr7 hu (show k < 7 by omega)]
          unfold sN at ih
          cases qb : u.testBit k with
          | true =>
            rw [if_pos qb, Nat.add_zero] at ih
            rw [if_pos (by simp)]
            simp (disch := omega) only [k10_87, k10_90, Option.toList_some, Option.toList_none, List.cons_append, List.nil_append, nl_i, nl_r, nl_l, nl_n, nI_add]
            exact ih _ _ ⟨rfl, d', rfl, hd⟩
          | false =>
            rw [if_neg (by rw [qb]; simp)] at ih
            rw [if_neg (by simp)]
            have hD2 := DS_38 (d := va_up d' 6 (nI k)) hD
            have ho2 : ∀ q, q < 6 → (va_up I 38 (va_up d' 6 (nI k))) 38 q = nI (o q) ∧ o q < n := by
              intro q hq
              rw [va_up_s, va_up_n _ _ (show q ≠ 6 by omega), hd q hq]
              exact ho q hq
            have ho3 : ∀ q, q < 7 → (va_up I 38 (va_up d' 6 (nI k))) 38 q = nI (va_up o 6 k q) ∧ va_up o 6 k q < n := by
              intro q hq
              by_cases e : q = 6
              · subst e; rw [va_up_s, va_up_s, va_up_s]; exact ⟨rfl, hk⟩
              · rw [va_up_n o _ e]; exact ho2 q (by omega)
            have hu2 : u ||| 2 ^ k < 128 := Nat.or_lt_two_pow (n := 7) hu (Nat.pow_lt_pow_right (by decide) (by omega))
            obtain ⟨d2', hd2, hcal⟩ := q11 (I := va_up I 38 (va_up d' 6 (nI k))) (J := J1) (x := x + gS (Fm f1 f2 (va_up o 6 k)) 6 6) (u := u ||| 2 ^ k) (o := va_up o 6 k) hn (by omega) hu2 hD2 ho3
            simp (disch := omega) only [k10_52, k10_53, k10_56, k10_57, k10_59, k10_60, k10_62, k10_63, k10_64, k10_65, k10_66, k10_67, k10_68, k10_70, k10_71, k10_72, k10_73, k10_74, k10_75, k10_77, k10_80, k10_81, k10_84, k10_85, k10_87, k10_90, Option.toList_some, Option.toList_none, List.cons_append, List.nil_append, nl_i, nl_r, nl_l, nl_n, nI_clamp, bnd, ly_38, Nat.reduceLT, true_and, and_true, va_up_s, up_same, q12 hD2 hn hpn hk ho2, nI_add, Nat.reduceAdd, shl1s, or_nI, hcal]
            refine ih _ _ ⟨rfl, d2', rfl, fun q hq => ?_⟩
            rw [hd2 q (by omega), va_up_s, va_up_n _ _ (show q ≠ 6 by omega)]
            exact hd q hq
      exact outer I J ⟨rfl, I 38, (up_id I 38).symm, fun q _ => rfl⟩
    obtain ⟨v, I', J', ⟨⟨d', rfl, hd⟩, rfl, rfl⟩, hc2⟩ := Cal_ex main
    exact ⟨d', hd, hc2⟩
set_option maxRecDepth 100000 in
theorem q9 {n : Nat} {f1 f2 : Nat → Int32} {lst : Int32} (hn : n ≤ 7) (hp : 5 ≤ n) {u : Nat} {o : Nat → Nat} (hu : u < 128) (hD : DS n f1 f2 lst I) (ho : ∀ q, q < 5 → I 38 q = nI (o q) ∧ o q < n) : ∃ d' : Nat → Int32, (∀ q, q < 5 → d' q = I 38 q) ∧ ∀ Q : Option Value → ab_I → ab_J → Prop, Cal 9 [.ref 33, .int (nI 5), .int (nI u), .int x] I J Q ↔ Q (some (.int (nI (dl n lst f1 f2 (n - 5) 5 u o x)))) (va_up I 38 d') J := by
  obtain ⟨d1, d2, d3⟩ := id hD
  by_cases hw : n = 5
  · refine ⟨I 38, fun q _ => rfl, fun Q => ?_⟩
    have e0 : n ≤ 5 := by omega
    rw [up_id, en9, show n - 5 = 0 by omega]
    unfold dl
    by_cases q : lst ≤ x
    · have q' : ¬ x < lst := fun w => ge_lt.mpr w q
      rw [if_pos q]
      simp (disch := omega) only [k9_0, k9_1, k9_2, k9_5, k9_8, k9_9, k9_11, k9_14, k9_15, k9_16, k9_19, k9_22, k9_23, k9_26, k9_27, k9_28, k9_29, k9_31, k9_32, k9_36, k9_37, k9_40, k9_43, k9_44, k9_46, k9_47, k9_48, k9_49, k9_52, k9_53, k9_56, k9_57, k9_59, k9_60, k9_62, k9_63, k9_64, k9_65, k9_66, k9_67, k9_68, k9_70, k9_71, k9_72, k9_73, k9_74, k9_75, k9_77, k9_80, k9_81, k9_84, k9_85, k9_87, k9_90, k9_93, k9_95, Option.toList_some, Option.toList_none, List.cons_append, List.nil_append, nl_i, nl_r, nl_l, nl_n, d1, d2, nI_leI, e0, ↓reduceIte, q']
    · have q' : x < lst := ge_lt.mp q
      rw [if_neg q]
      simp (disch := omega) only [k9_0, k9_1, k9_2, k9_5, k9_8, k9_9, k9_11, k9_14, k9_15, k9_16, k9_19, k9_22, k9_23, k9_26, k9_27, k9_28, k9_29, k9_31, k9_32, k9_36, k9_37, k9_40, k9_43, k9_44, k9_46, k9_47, k9_48, k9_49, k9_52, k9_53, k9_56, k9_57, k9_59, k9_60, k9_62, k9_63, k9_64, k9_65, k9_66, k9_67, k9_68, k9_70, k9_71, k9_72, k9_73, k9_74, k9_75, k9_77, k9_80, k9_81, k9_84, k9_85, k9_87, k9_90, k9_93, k9_95, Option.toList_some, Option.toList_none, List.cons_append, List.nil_append, nl_i, nl_r, nl_l, nl_n, d1, d2, nI_leI, e0, ↓reduceIte, q']
  · have hpn : 5 < n := by omega
    have main : ∀ Q : Option Value → ab_I → ab_J → Prop, (∀ v I' J', ((∃ d' : Nat → Int32, I' = va_up I 38 d' ∧ ∀ q, q < 5 → d' q = I 38 q) ∧ J' = J ∧ v = some (.int (nI (dl n lst f1 f2 (n - 5) 5 u o x)))) → Q v I' J') → Cal 9 [.ref 33, .int (nI 5), .int (nI u), .int x] I J Q := by
      intro Q hQ
      have e0 : ¬ n ≤ 5 := by omega
      have e1 : nI 5 < nI 7 := by decide
      rw [show n - 5 = (n - 6) + 1 by omega] at hQ
      unfold dl at hQ
      rw [en9]
      simp (disch := omega) only [k9_0, k9_1, k9_2, k9_5, k9_8, k9_9, k9_11, k9_28, k9_29, k9_31, k9_32, Option.toList_some, Option.toList_none, List.cons_append, List.nil_append, nl_i, nl_r, nl_l, nl_n, d1, nI_leI, e0, e1, ↓reduceIte]
      have outer : ∀ I1 J1, (J1 = J ∧ ∃ d' : Nat → Int32, I1 = va_up I 38 d' ∧ ∀ q, q < 5 → d' q = I 38 q) → At 9 34 [some (.ref 33), some (.int (nI 5)), some (.int (nI u)), some (.int x), some (.int (nI (sN (fun mk => if u.testBit mk then 0 else dl n lst f1 f2 (n - 6) (5 + 1) (u ||| 2 ^ mk) (va_up o 5 mk) (x + gS (Fm f1 f2 (va_up o 5 mk)) 5 5)) 0))), some (.int (nI 0))] [] I1 J1 Q := by
        refine loop_ij (N := n) (P := fun k I1 J1 => At 9 34 [some (.ref 33), some (.int (nI 5)), some (.int (nI u)), some (.int x), some (.int (nI (sN (fun mk => if u.testBit mk then 0 else dl n lst f1 f2 (n - 6) (5 + 1) (u ||| 2 ^ mk) (va_up o 5 mk) (x + gS (Fm f1 f2 (va_up o 5 mk)) 5 5)) k))), some (.int (nI k))] [] I1 J1 Q) (G := fun _ I1 J1 => J1 = J ∧ ∃ d' : Nat → Int32, I1 = va_up I 38 d' ∧ ∀ q, q < 5 → d' q = I 38 q) ?_ ?_
        · rintro I1 J1 ⟨rfl, d', rfl, hd⟩
          have d1' := (DS_38 (d := d') hD).1
          rw [k9_34]
          simp (disch := omega) only [k9_36, k9_37, k9_40, k9_93, k9_95, d1', nI_leI, Nat.le_refl, ↓reduceIte]
          exact hQ _ _ _ ⟨⟨d', rfl, hd⟩, rfl, rfl⟩
        · rintro k I1 J1 hk ⟨rfl, d', rfl, hd⟩ ih
          have hD' := DS_38 (d := d') hD
          have d1' := hD'.1
          have e2 : ¬ n ≤ k := by omega
          rw [k9_34]
          simp (disch := omega) only [k9_36, k9_37, k9_40, k9_43, k9_44, k9_46, k9_47, k9_48, k9_49, d1', nI_leI, e2, ↓reduceIte, shr7 hu (show k < 7 by omega)]
          unfold sN at ih
          cases qb : u.testBit k with
          | true =>
            rw [if_pos qb, Nat.add_zero] at ih
            rw [if_pos (by simp)]
            simp (disch := omega) only [k9_87, k9_90, Option.toList_some, Option.toList_none, List.cons_append, List.nil_append, nl_i, nl_r, nl_l, nl_n, nI_add]
            exact ih _ _ ⟨rfl, d', rfl, hd⟩
          | false =>
            rw [if_neg (by rw [qb]; simp)] at ih
            rw [if_neg (by simp)]
            have hD2 := DS_38 (d := va_up d' 5 (nI k)) hD
            have ho2 : ∀ q, q < 5 → (va_up I 38 (va_up d' 5 (nI k))) 38 q = nI (o q) ∧ o q < n := by
              intro q hq
              rw [va_up_s, va_up_n _ _ (show q ≠ 5 by omega), hd q hq]
              exact ho q hq
            have ho3 : ∀ q, q < 6 → (va_up I 38 (va_up d' 5 (nI k))) 38 q = nI (va_up o 5 k q) ∧ va_up o 5 k q < n := by
              intro q hq
              by_cases e : q = 5
              · subst e; rw [va_up_s, va_up_s, va_up_s]; exact ⟨rfl, hk⟩
              · rw [va_up_n o _ e]; exact ho2 q (by omega)
            have hu2 : u ||| 2 ^ k < 128 := Nat.or_lt_two_pow (n := 7) hu (Nat.pow_lt_pow_right (by decide) (by omega))
            obtain ⟨d2', hd2, hcal⟩ := q10 (I := va_up I 38 (va_up d' 5 (nI k))) (J := J1) (x := x + gS (Fm f1 f2 (va_up o 5 k)) 5 5) (u := u ||| 2 ^ k) (o := va_up o 5 k) hn (by omega) hu2 hD2 ho3
            simp (disch := omega) only [k9_52, k9_53, k9_56, k9_57, k9_59, k9_60, k9_62, k9_63, k9_64, k9_65, k9_66, k9_67, k9_68, k9_70, k9_71, k9_72, k9_73, k9_74, k9_75, k9_77, k9_80, k9_81, k9_84, k9_85, k9_87, k9_90, Option.toList_some, Option.toList_none, List.cons_append, List.nil_append, nl_i, nl_r, nl_l, nl_n, nI_clamp, bnd, ly_38, Nat.reduceLT, true_and, and_true, va_up_s, up_same, q12 hD2 hn hpn hk ho2, nI_add, Nat.reduceAdd, shl1s, or_nI, hcal]
            refine ih _ _ ⟨rfl, d2', rfl, fun q hq => ?_⟩
            rw [hd2 q (by omega), va_up_s, va_up_n _ _ (show q ≠ 5 by omega)]
            exact hd q hq
      exact outer I J ⟨rfl, I 38, (up_id I 38).symm, fun q _ => rfl⟩
    obtain ⟨v, I', J', ⟨⟨d', rfl, hd⟩, rfl, rfl⟩, hc2⟩ := Cal_ex main
    exact ⟨d', hd, hc2⟩
set_option maxRecDepth 100000 in
theorem q8 {n : Nat} {f1 f2 : Nat → Int32} {lst : Int32} (hn : n ≤ 7) (hp : 4 ≤ n) {u : Nat} {o : Nat → Nat} (hu : u < 128) (hD : DS n f1 f2 lst I) (ho : ∀ q, q < 4 → I 38 q = nI (o q) ∧ o q < n) : ∃ d' : Nat → Int32, (∀ q, q < 4 → d' q = I 38 q) ∧ ∀ Q : Option Value → ab_I → ab_J → Prop, Cal 8 [.ref 33, .int (nI 4), .int (nI u), .int x] I J Q ↔ Q (some (.int (nI (dl n lst f1 f2 (n - 4) 4 u o x)))) (va_up I 38 d') J := by
  obtain ⟨d1, d2, d3⟩ := id hD
  by_cases hw : n = 4
  · refine ⟨I 38, fun q _ => rfl, fun Q => ?_⟩
    have e0 : n ≤ 4 := by omega
    rw [up_id, en8, show n - 4 = 0 by omega]
    unfold dl
    by_cases q : lst ≤ x
    · have q' : ¬ x < lst := fun w => ge_lt.mpr w q
      rw [if_pos q]
      simp (disch := omega) only [k8_0, k8_1, k8_2, k8_5, k8_8, k8_9, k8_11, k8_14, k8_15, k8_16, k8_19, k8_22, k8_23, k8_26, k8_27, k8_28, k8_29, k8_31, k8_32, k8_36, k8_37, k8_40, k8_43, k8_44, k8_46, k8_47, k8_48, k8_49, k8_52, k8_53, k8_56, k8_57, k8_59, k8_60, k8_62, k8_63, k8_64, k8_65, k8_66, k8_67, k8_68, k8_70, k8_71, k8_72, k8_73, k8_74, k8_75, k8_77, k8_80, k8_81, k8_84, k8_85, k8_87, k8_90, k8_93, k8_95, Option.toList_some, Option.toList_none, List.cons_append, List.nil_append, nl_i, nl_r, nl_l, nl_n, d1, d2, nI_leI, e0, ↓reduceIte, q']
    · have q' : x < lst := ge_lt.mp q
      rw [if_neg q]
      simp (disch := omega) only [k8_0, k8_1, k8_2, k8_5, k8_8, k8_9, k8_11, k8_14, k8_15, k8_16, k8_19, k8_22, k8_23, k8_26, k8_27, k8_28, k8_29, k8_31, k8_32, k8_36, k8_37, k8_40, k8_43, k8_44, k8_46, k8_47, k8_48, k8_49, k8_52, k8_53, k8_56, k8_57, k8_59, k8_60, k8_62, k8_63, k8_64, k8_65, k8_66, k8_67, k8_68, k8_70, k8_71, k8_72, k8_73, k8_74, k8_75, k8_77, k8_80, k8_81, k8_84, k8_85, k8_87, k8_90, k8_93, k8_95, Option.toList_some, Option.toList_none, List.cons_append, List.nil_append, nl_i, nl_r, nl_l, nl_n, d1, d2, nI_leI, e0, ↓reduceIte, q']
  · have hpn : 4 < n := by omega
    have main : ∀ Q : Option Value → ab_I → ab_J → Prop, (∀ v I' J', ((∃ d' : Nat → Int32, I' = va_up I 38 d' ∧ ∀ q, q < 4 → d' q = I 38 q) ∧ J' = J ∧ v = some (.int (nI (dl n lst f1 f2 (n - 4) 4 u o x)))) → Q v I' J') → Cal 8 [.ref 33, .int (nI 4), .int (nI u), .int x] I J Q := by
      intro Q hQ
      have e0 : ¬ n ≤ 4 := by omega
      have e1 : nI 4 < nI 7 := by decide
      rw [show n - 4 = (n - 5) + 1 by omega] at hQ
      unfold dl at hQ
      rw [en8]
      simp (disch := omega) only [k8_0, k8_1, k8_2, k8_5, k8_8, k8_9, k8_11, k8_28, k8_29, k8_31, k8_32, Option.toList_some, Option.toList_none, List.cons_append, List.nil_append, nl_i, nl_r, nl_l, nl_n, d1, nI_leI, e0, e1, ↓reduceIte]
      have outer : ∀ I1 J1, (J1 = J ∧ ∃ d' : Nat → Int32, I1 = va_up I 38 d' ∧ ∀ q, q < 4 → d' q = I 38 q) → At 8 34 [some (.ref 33), some (.int (nI 4)), some (.int (nI u)), some (.int x), some (.int (nI (sN (fun mk => if u.testBit mk then 0 else dl n lst f1 f2 (n - 5) (4 + 1) (u ||| 2 ^ mk) (va_up o 4 mk) (x + gS (Fm f1 f2 (va_up o 4 mk)) 4 4)) 0))), some (.int (nI 0))] [] I1 J1 Q := by
        refine loop_ij (N := n) (P := fun k I1 J1 => At 8 34 [some (.ref 33), some (.int (nI 4)), some (.int (nI u)), some (.int x), some (.int (nI (sN (fun mk => if u.testBit mk then 0 else dl n lst f1 f2 (n - 5) (4 + 1) (u ||| 2 ^ mk) (va_up o 4 mk) (x + gS (Fm f1 f2 (va_up o 4 mk)) 4 4)) k))), some (.int (nI k))] [] I1 J1 Q) (G := fun _ I1 J1 => J1 = J ∧ ∃ d' : Nat → Int32, I1 = va_up I 38 d' ∧ ∀ q, q < 4 → d' q = I 38 q) ?_ ?_
        · rintro I1 J1 ⟨rfl, d', rfl, hd⟩
          have d1' := (DS_38 (d := d') hD).1
          rw [k8_34]
          simp (disch := omega) only [k8_36, k8_37, k8_40, k8_93, k8_95, d1', nI_leI, Nat.le_refl, ↓reduceIte]
          exact hQ _ _ _ ⟨⟨d', rfl, hd⟩, rfl, rfl⟩
        · rintro k I1 J1 hk ⟨rfl, d', rfl, hd⟩ ih
          have hD' := DS_38 (d := d') hD
          have d1' := hD'.1
          have e2 : ¬ n ≤ k := by omega
          rw [k8_34]
          simp (disch := omega) only [k8_36, k8_37, k8_40, k8_43, k8_44, k8_46, k8_47, k8_48, k8_49, d1', nI_leI, e2, ↓reduceIte, shr7 hu (show k < 7 by omega)]
          unfold sN at ih
          cases qb : u.testBit k with
          | true =>
            rw [if_pos qb, Nat.add_zero] at ih
            rw [if_pos (by simp)]
            simp (disch := omega) only [k8_87, k8_90, Option.toList_some, Option.toList_none, List.cons_append, List.nil_append, nl_i, nl_r, nl_l, nl_n, nI_add]
            exact ih _ _ ⟨rfl, d', rfl, hd⟩
          | false =>
            rw [if_neg (by rw [qb]; simp)] at ih
            rw [if_neg (by simp)]
            have hD2 := DS_38 (d := va_up d' 4 (nI k)) hD
            have ho2 : ∀ q, q < 4 → (va_up I 38 (va_up d' 4 (nI k))) 38 q = nI (o q) ∧ o q < n := by
              intro q hq
              rw [va_up_s, va_up_n _ _ (show q ≠ 4 by omega), hd q hq]
              exact ho q hq
            have ho3 : ∀ q, q < 5 → (va_up I 38 (va_up d' 4 (nI k))) 38 q = nI (va_up o 4 k q) ∧ va_up o 4 k q < n := by
              intro q hq
              by_cases e : q = 4
              · subst e; rw [va_up_s, va_up_s, va_up_s]; exact ⟨rfl, hk⟩
              · rw [va_up_n o _ e]; exact ho2 q (by omega)
            have hu2 : u ||| 2 ^ k < 128 := Nat.or_lt_two_pow (n := 7) hu (Nat.pow_lt_pow_right (by decide) (by omega))
            obtain ⟨d2', hd2, hcal⟩ := q9 (I := va_up I 38 (va_up d' 4 (nI k))) (J := J1) (x := x + gS (Fm f1 f2 (va_up o 4 k)) 4 4) (u := u ||| 2 ^ k) (o := va_up o 4 k) hn (by omega) hu2 hD2 ho3
            simp (disch := omega) only [k8_52, k8_53, k8_56, k8_57, k8_59, k8_60, k8_62, k8_63, k8_64, k8_65, k8_66, k8_67, k8_68, k8_70, k8_71, k8_72, k8_73, k8_74, k8_75, k8_77, k8_80, k8_81, k8_84, k8_85, k8_87, k8_90, Option.toList_some, Option.toList_none, List.cons_append, List.nil_append, nl_i, nl_r, nl_l, nl_n, nI_clamp, bnd, ly_38, Nat.reduceLT, true_and, and_true, va_up_s, up_same, q12 hD2 hn hpn hk ho2, nI_add, Nat.reduceAdd, shl1s, or_nI, hcal]
            refine ih _ _ ⟨rfl, d2', rfl, fun q hq => ?_⟩
            rw [hd2 q (by omega), va_up_s, va_up_n _ _ (show q ≠ 4 by omega)]
            exact hd q hq
      exact outer I J ⟨rfl, I 38, (up_id I 38).symm, fun q _ => rfl⟩
    obtain ⟨v, I', J', ⟨⟨d', rfl, hd⟩, rfl, rfl⟩, hc2⟩ := Cal_ex main
    exact ⟨d', hd, hc2⟩
set_option maxRecDepth 100000 in
theorem q7 {n : Nat} {f1 f2 : Nat → Int32} {lst : Int32} (hn : n ≤ 7) (hp : 3 ≤ n) {u : Nat} {o : Nat → Nat} (hu : u < 128) (hD : DS n f1 f2 lst I) (ho : ∀ q, q < 3 → I 38 q = nI (o q) ∧ o q < n) : ∃ d' : Nat → Int32, (∀ q, q < 3 → d' q = I 38 q) ∧ ∀ Q : Option Value → ab_I → ab_J → Prop, Cal 7 [.ref 33, .int (nI 3), .int (nI u), .int x] I J Q ↔ Q (some (.int (nI (dl n lst f1 f2 (n - 3) 3 u o x)))) (va_up I 38 d') J := by
  obtain ⟨d1, d2, d3⟩ := id hD
  by_cases hw : n = 3
  · refine ⟨I 38, fun q _ => rfl, fun Q => ?_⟩
    have e0 : n ≤ 3 := by omega
    rw [up_id, en7, show n - 3 = 0 by omega]
    unfold dl
    by_cases q : lst ≤ x
    · have q' : ¬ x < lst := fun w => ge_lt.mpr w q
      rw [if_pos q]
      simp (disch := omega) only [k7_0, k7_1, k7_2, k7_5, k7_8, k7_9, k7_11, k7_14, k7_15, k7_16, k7_19, k7_22, k7_23, k7_26, k7_27, k7_28, k7_29, k7_31, k7_32, k7_36, k7_37, k7_40, k7_43, k7_44, k7_46, k7_47, k7_48, k7_49, k7_52, k7_53, k7_56, k7_57, k7_59, k7_60, k7_62, k7_63, k7_64, k7_65, k7_66, k7_67, k7_68, k7_70, k7_71, k7_72, k7_73, k7_74, k7_75, k7_77, k7_80, k7_81, k7_84, k7_85, k7_87, k7_90, k7_93, k7_95, Option.toList_some, Option.toList_none, List.cons_append, List.nil_append, nl_i, nl_r, nl_l, nl_n, d1, d2, nI_leI, e0, ↓reduceIte, q']
    · have q' : x < lst := ge_lt.mp q
      rw [if_neg q]
      simp (disch := omega) only [k7_0, k7_1, k7_2, k7_5, k7_8, k7_9, k7_11, k7_14, k7_15, k7_16, k7_19, k7_22, k7_23, k7_26, k7_27, k7_28, k7_29, k7_31, k7_32, k7_36, k7_37, k7_40, k7_43, k7_44, k7_46, k7_47, k7_48, k7_49, k7_52, k7_53, k7_56, k7_57, k7_59, k7_60, k7_62, k7_63, k7_64, k7_65, k7_66, k7_67, k7_68, k7_70, k7_71, k7_72, k7_73, k7_74, k7_75, k7_77, k7_80, k7_81, k7_84, k7_85, k7_87, k7_90, k7_93, k7_95, Option.toList_some, Option.toList_none, List.cons_append, List.nil_append, nl_i, nl_r, nl_l, nl_n, d1, d2, nI_leI, e0, ↓reduceIte, q']
  · have hpn : 3 < n := by omega
    have main : ∀ Q : Option Value → ab_I → ab_J → Prop, (∀ v I' J', ((∃ d' : Nat → Int32, I' = va_up I 38 d' ∧ ∀ q, q < 3 → d' q = I 38 q) ∧ J' = J ∧ v = some (.int (nI (dl n lst f1 f2 (n - 3) 3 u o x)))) → Q v I' J') → Cal 7 [.ref 33, .int (nI 3), .int (nI u), .int x] I J Q := by
      intro Q hQ
      have e0 : ¬ n ≤ 3 := by omega
      have e1 : nI 3 < nI 7 := by decide
      rw [show n - 3 = (n - 4) + 1 by omega] at hQ
      unfold dl at hQ
      rw [en7]
      simp (disch := omega) only [k7_0, k7_1, k7_2, k7_5, k7_8, k7_9, k7_11, k7_28, k7_29, k7_31, k7_32, Option.toList_some, Option.toList_none, List.cons_append, List.nil_append, nl_i, nl_r, nl_l, nl_n, d1, nI_leI, e0, e1, ↓reduceIte]
      have outer : ∀ I1 J1, (J1 = J ∧ ∃ d' : Nat → Int32, I1 = va_up I 38 d' ∧ ∀ q, q < 3 → d' q = I 38 q) → At 7 34 [some (.ref 33), some (.int (nI 3)), some (.int (nI u)), some (.int x), some (.int (nI (sN (fun mk => if u.testBit mk then 0 else dl n lst f1 f2 (n - 4) (3 + 1) (u ||| 2 ^ mk) (va_up o 3 mk) (x + gS (Fm f1 f2 (va_up o 3 mk)) 3 3)) 0))), some (.int (nI 0))] [] I1 J1 Q := by
        refine loop_ij (N := n) (P := fun k I1 J1 => At 7 34 [some (.ref 33), some (.int (nI 3)), some (.int (nI u)), some (.int x), some (.int (nI (sN (fun mk => if u.testBit mk then 0 else dl n lst f1 f2 (n - 4) (3 + 1) (u ||| 2 ^ mk) (va_up o 3 mk) (x + gS (Fm f1 f2 (va_up o 3 mk)) 3 3)) k))), some (.int (nI k))] [] I1 J1 Q) (G := fun _ I1 J1 => J1 = J ∧ ∃ d' : Nat → Int32, I1 = va_up I 38 d' ∧ ∀ q, q < 3 → d' q = I 38 q) ?_ ?_
        · rintro I1 J1 ⟨rfl, d', rfl, hd⟩
          have d1' := (DS_38 (d := d') hD).1
          rw [k7_34]
          simp (disch := omega) only [k7_36, k7_37, k7_40, k7_93, k7_95, d1', nI_leI, Nat.le_refl, ↓reduceIte]
          exact hQ _ _ _ ⟨⟨d', rfl, hd⟩, rfl, rfl⟩
        · rintro k I1 J1 hk ⟨rfl, d', rfl, hd⟩ ih
          have hD' := DS_38 (d := d') hD
          have d1' := hD'.1
          have e2 : ¬ n ≤ k := by omega
          rw [k7_34]
          simp (disch := omega) only [k7_36, k7_37, k7_40, k7_43, k7_44, k7_46, k7_47, k7_48, k7_49, d1', nI_leI, e2, ↓reduceIte, shr7 hu (show k < 7 by omega)]
          unfold sN at ih
          cases qb : u.testBit k with
          | true =>
            rw [if_pos qb, Nat.add_zero] at ih
            rw [if_pos (by simp)]
            simp (disch := omega) only [k7_87, k7_90, Option.toList_some, Option.toList_none, List.cons_append, List.nil_append, nl_i, nl_r, nl_l, nl_n, nI_add]
            exact ih _ _ ⟨rfl, d', rfl, hd⟩
          | false =>
            rw [if_neg (by rw [qb]; simp)] at ih
            rw [if_neg (by simp)]
            have hD2 := DS_38 (d := va_up d' 3 (nI k)) hD
            have ho2 : ∀ q, q < 3 → (va_up I 38 (va_up d' 3 (nI k))) 38 q = nI (o q) ∧ o q < n := by
              intro q hq
              rw [va_up_s, va_up_n _ _ (show q ≠ 3 by omega), hd q hq]
              exact ho q hq
            have ho3 : ∀ q, q < 4 → (va_up I 38 (va_up d' 3 (nI k))) 38 q = nI (va_up o 3 k q) ∧ va_up o 3 k q < n := by
              intro q hq
              by_cases e : q = 3
              · subst e; rw [va_up_s, va_up_s, va_up_s]; exact ⟨rfl, hk⟩
              · rw [va_up_n o _ e]; exact ho2 q (by omega)
            have hu2 : u ||| 2 ^ k < 128 := Nat.or_lt_two_pow (n := 7) hu (Nat.pow_lt_pow_right (by decide) (by omega))
            obtain ⟨d2', hd2, hcal⟩ := q8 (I := va_up I 38 (va_up d' 3 (nI k))) (J := J1) (x := x + gS (Fm f1 f2 (va_up o 3 k)) 3 3) (u := u ||| 2 ^ k) (o := va_up o 3 k) hn (by omega) hu2 hD2 ho3
            simp (disch := omega) only [k7_52, k7_53, k7_56, k7_57, k7_59, k7_60, k7_62, k7_63, k7_64, k7_65, k7_66, k7_67, k7_68, k7_70, k7_71, k7_72, k7_73, k7_74, k7_75, k7_77, k7_80, k7_81, k7_84, k7_85, k7_87, k7_90, Option.toList_some, Option.toList_none, List.cons_append, List.nil_append, nl_i, nl_r, nl_l, nl_n, nI_clamp, bnd, ly_38, Nat.reduceLT, true_and, and_true, va_up_s, up_same, q12 hD2 hn hpn hk ho2, nI_add, Nat.reduceAdd, shl1s, or_nI, hcal]
            refine ih _ _ ⟨rfl, d2', rfl, fun q hq => ?_⟩
            rw [hd2 q (by omega), va_up_s, va_up_n _ _ (show q ≠ 3 by omega)]
            exact hd q hq
      exact outer I J ⟨rfl, I 38, (up_id I 38).symm, fun q _ => rfl⟩
    obtain ⟨v, I', J', ⟨⟨d', rfl, hd⟩, rfl, rfl⟩, hc2⟩ := Cal_ex main
    exact ⟨d', hd, hc2⟩
set_option maxRecDepth 100000 in
theorem q6 {n : Nat} {f1 f2 : Nat → Int32} {lst : Int32} (hn : n ≤ 7) (hp : 2 ≤ n) {u : Nat} {o : Nat → Nat} (hu : u < 128) (hD : DS n f1 f2 lst I) (ho : ∀ q, q < 2 → I 38 q = nI (o q) ∧ o q < n) : ∃ d' : Nat → Int32, (∀ q, q < 2 → d' q = I 38 q) ∧ ∀ Q : Option Value → ab_I → ab_J → Prop, Cal 6 [.ref 33, .int (nI 2), .int (nI u), .int x] I J Q ↔ Q (some (.int (nI (dl n lst f1 f2 (n - 2) 2 u o x)))) (va_up I 38 d') J := by
  obtain ⟨d1, d2, d3⟩ := id hD
  by_cases hw : n = 2
  · refine ⟨I 38, fun q _ => rfl, fun Q => ?_⟩
    have e0 : n ≤ 2 := by omega
    rw [up_id, en6, show n - 2 = 0 by omega]
    unfold dl
    by_cases q : lst ≤ x
    · have q' : ¬ x < lst := fun w => ge_lt.mpr w q
      rw [if_pos q]
      simp (disch := omega) only [k6_0, k6_1, k6_2, k6_5, k6_8, k6_9, k6_11, k6_14, k6_15, k6_16, k6_19, k6_22, k6_23, k6_26, k6_27, k6_28, k6_29, k6_31, k6_32, k6_36, k6_37, k6_40, k6_43, k6_44, k6_46, k6_47, k6_48, k6_49, k6_52, k6_53, k6_56, k6_57, k6_59, k6_60, k6_62, k6_63, k6_64, k6_65, k6_66, k6_67, k6_68, k6_70, k6_71, k6_72, k6_73, k6_74, k6_75, k6_77, k6_80, k6_81, k6_84, k6_85, k6_87, k6_90, k6_93, k6_95, Option.toList_some, Option.toList_none, List.cons_append, List.nil_append, nl_i, nl_r, nl_l, nl_n, d1, d2, nI_leI, e0, ↓reduceIte, q']
    · have q' : x < lst := ge_lt.mp q
      rw [if_neg q]
      simp (disch := omega) only [k6_0, k6_1, k6_2, k6_5, k6_8, k6_9, k6_11, k6_14, k6_15, k6_16, k6_19, k6_22, k6_23, k6_26, k6_27, k6_28, k6_29, k6_31, k6_32, k6_36, k6_37, k6_40, k6_43, k6_44, k6_46, k6_47, k6_48, k6_49, k6_52, k6_53, k6_56, k6_57, k6_59, k6_60, k6_62, k6_63, k6_64, k6_65, k6_66, k6_67, k6_68, k6_70, k6_71, k6_72, k6_73, k6_74, k6_75, k6_77, k6_80, k6_81, k6_84, k6_85, k6_87, k6_90, k6_93, k6_95, Option.toList_some, Option.toList_none, List.cons_append, List.nil_append, nl_i, nl_r, nl_l, nl_n, d1, d2, nI_leI, e0, ↓reduceIte, q']
  · have hpn : 2 < n := by omega
    have main : ∀ Q : Option Value → ab_I → ab_J → Prop, (∀ v I' J', ((∃ d' : Nat → Int32, I' = va_up I 38 d' ∧ ∀ q, q < 2 → d' q = I 38 q) ∧ J' = J ∧ v = some (.int (nI (dl n lst f1 f2 (n - 2) 2 u o x)))) → Q v I' J') → Cal 6 [.ref 33, .int (nI 2), .int (nI u), .int x] I J Q := by
      intro Q hQ
      have e0 : ¬ n ≤ 2 := by omega
      have e1 : nI 2 < nI 7 := by decide
      rw [show n - 2 = (n - 3) + 1 by omega] at hQ
      unfold dl at hQ
      rw [en6]
      simp (disch := omega) only [k6_0, k6_1, k6_2, k6_5, k6_8, k6_9, k6_11, k6_28, k6_29, k6_31, k6_32, Option.toList_some, Option.toList_none, List.cons_append, List.nil_append, nl_i, nl_r, nl_l, nl_n, d1, nI_leI, e0, e1, ↓reduceIte]
      have outer : ∀ I1 J1, (J1 = J ∧ ∃ d' : Nat → Int32, I1 = va_up I 38 d' ∧ ∀ q, q < 2 → d' q = I 38 q) → At 6 34 [some (.ref 33), some (.int (nI 2)), some (.int (nI u)), some (.int x), some (.int (nI (sN (fun mk => if u.testBit mk then 0 else dl n lst f1 f2 (n - 3) (2 + 1) (u ||| 2 ^ mk) (va_up o 2 mk) (x + gS (Fm f1 f2 (va_up o 2 mk)) 2 2)) 0))), some (.int (nI 0))] [] I1 J1 Q := by
        refine loop_ij (N := n) (P := fun k I1 J1 => At 6 34 [some (.ref 33), some (.int (nI 2)), some (.int (nI u)), some (.int x), some (.int (nI (sN (fun mk => if u.testBit mk then 0 else dl n lst f1 f2 (n - 3) (2 + 1) (u ||| 2 ^ mk) (va_up o 2 mk) (x + gS (Fm f1 f2 (va_up o 2 mk)) 2 2)) k))), some (.int (nI k))] [] I1 J1 Q) (G := fun _ I1 J1 => J1 = J ∧ ∃ d' : Nat → Int32, I1 = va_up I 38 d' ∧ ∀ q, q < 2 → d' q = I 38 q) ?_ ?_
        · rintro I1 J1 ⟨rfl, d', rfl, hd⟩
          have d1' := (DS_38 (d := d') hD).1
          rw [k6_34]
          simp (disch := omega) only [k6_36, k6_37, k6_40, k6_93, k6_95, d1', nI_leI, Nat.le_refl, ↓reduceIte]
          exact hQ _ _ _ ⟨⟨d', rfl, hd⟩, rfl, rfl⟩
        · rintro k I1 J1 hk ⟨rfl, d', rfl, hd⟩ ih
          have hD' := DS_38 (d := d') hD
          have d1' := hD'.1
          have e2 : ¬ n ≤ k := by omega
          rw [k6_34]
          simp (disch := omega) only [k6_36, k6_37, k6_40, k6_43, k6_44, k6_46, k6_47, k6_48, k6_49, d1', nI_leI, e2, ↓reduceIte, shr7 hu (show k < 7 by omega)]
          unfold sN at ih
          cases qb : u.testBit k with
          | true =>
            rw [if_pos qb, Nat.add_zero] at ih
            rw [if_pos (by simp)]
            simp (disch := omega) only [k6_87, k6_90, Option.toList_some, Option.toList_none, List.cons_append, List.nil_append, nl_i, nl_r, nl_l, nl_n, nI_add]
            exact ih _ _ ⟨rfl, d', rfl, hd⟩
          | false =>
            rw [if_neg (by rw [qb]; simp)] at ih
            rw [if_neg (by simp)]
            have hD2 := DS_38 (d := va_up d' 2 (nI k)) hD
            have ho2 : ∀ q, q < 2 → (va_up I 38 (va_up d' 2 (nI k))) 38 q = nI (o q) ∧ o q < n := by
              intro q hq
              rw [va_up_s, va_up_n _ _ (show q ≠ 2 by omega), hd q hq]
              exact ho q hq
            have ho3 : ∀ q, q < 3 → (va_up I 38 (va_up d' 2 (nI k))) 38 q = nI (va_up o 2 k q) ∧ va_up o 2 k q < n := by
              intro q hq
              by_cases e : q = 2
              · subst e; rw [va_up_s, va_up_s, va_up_s]; exact ⟨rfl, hk⟩
              · rw [va_up_n o _ e]; exact ho2 q (by omega)
            have hu2 : u ||| 2 ^ k < 128 := Nat.or_lt_two_pow (n := 7) hu (Nat.pow_lt_pow_right (by decide) (by omega))
            obtain ⟨d2', hd2, hcal⟩ := q7 (I := va_up I 38 (va_up d' 2 (nI k))) (J := J1) (x := x + gS (Fm f1 f2 (va_up o 2 k)) 2 2) (u := u ||| 2 ^ k) (o := va_up o 2 k) hn (by omega) hu2 hD2 ho3
            simp (disch := omega) only [k6_52, k6_53, k6_56, k6_57, k6_59, k6_60, k6_62, k6_63, k6_64, k6_65, k6_66, k6_67, k6_68, k6_70, k6_71, k6_72, k6_73, k6_74, k6_75, k6_77, k6_80, k6_81, k6_84, k6_85, k6_87, k6_90, Option.toList_some, Option.toList_none, List.cons_append, List.nil_append, nl_i, nl_r, nl_l, nl_n, nI_clamp, bnd, ly_38, Nat.reduceLT, true_and, and_true, va_up_s, up_same, q12 hD2 hn hpn hk ho2, nI_add, Nat.reduceAdd, shl1s, or_nI, hcal]
            refine ih _ _ ⟨rfl, d2', rfl, fun q hq => ?_⟩
            rw [hd2 q (by omega), va_up_s, va_up_n _ _ (show q ≠ 2 by omega)]
            exact hd q hq
      exact outer I J ⟨rfl, I 38, (up_id I 38).symm, fun q _ => rfl⟩
    obtain ⟨v, I', J', ⟨⟨d', rfl, hd⟩, rfl, rfl⟩, hc2⟩ := Cal_ex main
    exact ⟨d', hd, hc2⟩
set_option maxRecDepth 100000 in
theorem q5 {n : Nat} {f1 f2 : Nat → Int32} {lst : Int32} (hn : n ≤ 7) (hp : 1 ≤ n) {u : Nat} {o : Nat → Nat} (hu : u < 128) (hD : DS n f1 f2 lst I) (ho : ∀ q, q < 1 → I 38 q = nI (o q) ∧ o q < n) : ∃ d' : Nat → Int32, (∀ q, q < 1 → d' q = I 38 q) ∧ ∀ Q : Option Value → ab_I → ab_J → Prop, Cal 5 [.ref 33, .int (nI 1), .int (nI u), .int x] I J Q ↔ Q (some (.int (nI (dl n lst f1 f2 (n - 1) 1 u o x)))) (va_up I 38 d') J := by
  obtain ⟨d1, d2, d3⟩ := id hD
  by_cases hw : n = 1
  · refine ⟨I 38, fun q _ => rfl, fun Q => ?_⟩
    have e0 : n ≤ 1 := by omega
    rw [up_id, en5, show n - 1 = 0 by omega]
    unfold dl
    by_cases q : lst ≤ x
    · have q' : ¬ x < lst := fun w => ge_lt.mpr w q
      rw [if_pos q]
      simp (disch := omega) only [k5_0, k5_1, k5_2, k5_5, k5_8, k5_9, k5_11, k5_14, k5_15, k5_16, k5_19, k5_22, k5_23, k5_26, k5_27, k5_28, k5_29, k5_31, k5_32, k5_36, k5_37, k5_40, k5_43, k5_44, k5_46, k5_47, k5_48, k5_49, k5_52, k5_53, k5_56, k5_57, k5_59, k5_60, k5_62, k5_63, k5_64, k5_65, k5_66, k5_67, k5_68, k5_70, k5_71, k5_72, k5_73, k5_74, k5_75, k5_77, k5_80, k5_81, k5_84, k5_85, k5_87, k5_90, k5_93, k5_95, Option.toList_some, Option.toList_none, List.cons_append, List.nil_append, nl_i, nl_r, nl_l, nl_n, d1, d2, nI_leI, e0, ↓reduceIte, q']
    · have q' : x < lst := ge_lt.mp q
      rw [if_neg q]
      simp (disch := omega) only [k5_0, k5_1, k5_2, k5_5, k5_8, k5_9, k5_11, k5_14, k5_15, k5_16, k5_19, k5_22, k5_23, k5_26, k5_27, k5_28, k5_29, k5_31, k5_32, k5_36, k5_37, k5_40, k5_43, k5_44, k5_46, k5_47, k5_48, k5_49, k5_52, k5_53, k5_56, k5_57, k5_59, k5_60, k5_62, k5_63, k5_64, k5_65, k5_66, k5_67, k5_68, k5_70, k5_71, k5_72, k5_73, k5_74, k5_75, k5_77, k5_80, k5_81, k5_84, k5_85, k5_87, k5_90, k5_93, k5_95, Option.toList_some, Option.toList_none, List.cons_append, List.nil_append, nl_i, nl_r, nl_l, nl_n, d1, d2, nI_leI, e0, ↓reduceIte, q']
  · have hpn : 1 < n := by omega
    have main : ∀ Q : Option Value → ab_I → ab_J → Prop, (∀ v I' J', ((∃ d' : Nat → Int32, I' = va_up I 38 d' ∧ ∀ q, q < 1 → d' q = I 38 q) ∧ J' = J ∧ v = some (.int (nI (dl n lst f1 f2 (n - 1) 1 u o x)))) → Q v I' J') → Cal 5 [.ref 33, .int (nI 1), .int (nI u), .int x] I J Q := by
      intro Q hQ
      have e0 : ¬ n ≤ 1 := by omega
      have e1 : nI 1 < nI 7 := by decide
      rw [show n - 1 = (n - 2) + 1 by omega] at hQ
      unfold dl at hQ
      rw [en5]
      simp (disch := omega) only [k5_0, k5_1, k5_2, k5_5, k5_8, k5_9, k5_11, k5_28, k5_29, k5_31, k5_32, Option.toList_some, Option.toList_none, List.cons_append, List.nil_append, nl_i, nl_r, nl_l, nl_n, d1, nI_leI, e0, e1, ↓reduceIte]
      have outer : ∀ I1 J1, (J1 = J ∧ ∃ d' : Nat → Int32, I1 = va_up I 38 d' ∧ ∀ q, q < 1 → d' q = I 38 q) → At 5 34 [some (.ref 33), some (.int (nI 1)), some (.int (nI u)), some (.int x), some (.int (nI (sN (fun mk => if u.testBit mk then 0 else dl n lst f1 f2 (n - 2) (1 + 1) (u ||| 2 ^ mk) (va_up o 1 mk) (x + gS (Fm f1 f2 (va_up o 1 mk)) 1 1)) 0))), some (.int (nI 0))] [] I1 J1 Q := by
        refine loop_ij (N := n) (P := fun k I1 J1 => At 5 34 [some (.ref 33), some (.int (nI 1)), some (.int (nI u)), some (.int x), some (.int (nI (sN (fun mk => if u.testBit mk then 0 else dl n lst f1 f2 (n - 2) (1 + 1) (u ||| 2 ^ mk) (va_up o 1 mk) (x + gS (Fm f1 f2 (va_up o 1 mk)) 1 1)) k))), some (.int (nI k))] [] I1 J1 Q) (G := fun _ I1 J1 => J1 = J ∧ ∃ d' : Nat → Int32, I1 = va_up I 38 d' ∧ ∀ q, q < 1 → d' q = I 38 q) ?_ ?_
        · rintro I1 J1 ⟨rfl, d', rfl, hd⟩
          have d1' := (DS_38 (d := d') hD).1
          rw [k5_34]
          simp (disch := omega) only [k5_36, k5_37, k5_40, k5_93, k5_95, d1', nI_leI, Nat.le_refl, ↓reduceIte]
          exact hQ _ _ _ ⟨⟨d', rfl, hd⟩, rfl, rfl⟩
        · rintro k I1 J1 hk ⟨rfl, d', rfl, hd⟩ ih
          have hD' := DS_38 (d := d') hD
          have d1' := hD'.1
          have e2 : ¬ n ≤ k := by omega
          rw [k5_34]
          simp (disch := omega) only [k5_36, k5_37, k5_40, k5_43, k5_44, k5_46, k5_47, k5_48, k5_49, d1', nI_leI, e2, ↓reduceIte, shr7 hu (show k < 7 by omega)]
          unfold sN at ih
          cases qb : u.testBit k with
          | true =>
            rw [if_pos qb, Nat.add_zero] at ih
            rw [if_pos (by simp)]
            simp (disch := omega) only [k5_87, k5_90, Option.toList_some, Option.toList_none, List.cons_append, List.nil_append, nl_i, nl_r, nl_l, nl_n, nI_add]
            exact ih _ _ ⟨rfl, d', rfl, hd⟩
          | false =>
            rw [if_neg (by rw [qb]; simp)] at ih
            rw [if_neg (by simp)]
            have hD2 := DS_38 (d := va_up d' 1 (nI k)) hD
            have ho2 : ∀ q, q < 1 → (va_up I 38 (va_up d' 1 (nI k))) 38 q = nI (o q) ∧ o q < n := by
              intro q hq
              rw [va_up_s, va_up_n _ _ (show q ≠ 1 by omega), hd q hq]
              exact ho q hq
            have ho3 : ∀ q, q < 2 → (va_up I 38 (va_up d' 1 (nI k))) 38 q = nI (va_up o 1 k q) ∧ va_up o 1 k q < n := by
              intro q hq
              by_cases e : q = 1
              · subst e; rw [va_up_s, va_up_s, va_up_s]; exact ⟨rfl, hk⟩
              · rw [va_up_n o _ e]; exact ho2 q (by omega)
            have hu2 : u ||| 2 ^ k < 128 := Nat.or_lt_two_pow (n := 7) hu (Nat.pow_lt_pow_right (by decide) (by omega))
            obtain ⟨d2', hd2, hcal⟩ := q6 (I := va_up I 38 (va_up d' 1 (nI k))) (J := J1) (x := x + gS (Fm f1 f2 (va_up o 1 k)) 1 1) (u := u ||| 2 ^ k) (o := va_up o 1 k) hn (by omega) hu2 hD2 ho3
            simp (disch := omega) only [k5_52, k5_53, k5_56, k5_57, k5_59, k5_60, k5_62, k5_63, k5_64, k5_65, k5_66, k5_67, k5_68, k5_70, k5_71, k5_72, k5_73, k5_74, k5_75, k5_77, k5_80, k5_81, k5_84, k5_85, k5_87, k5_90, Option.toList_some, Option.toList_none, List.cons_append, List.nil_append, nl_i, nl_r, nl_l, nl_n, nI_clamp, bnd, ly_38, Nat.reduceLT, true_and, and_true, va_up_s, up_same, q12 hD2 hn hpn hk ho2, nI_add, Nat.reduceAdd, shl1s, or_nI, hcal]
            refine ih _ _ ⟨rfl, d2', rfl, fun q hq => ?_⟩
            rw [hd2 q (by omega), va_up_s, va_up_n _ _ (show q ≠ 1 by omega)]
            exact hd q hq
      exact outer I J ⟨rfl, I 38, (up_id I 38).symm, fun q _ => rfl⟩
    obtain ⟨v, I', J', ⟨⟨d', rfl, hd⟩, rfl, rfl⟩, hc2⟩ := Cal_ex main
    exact ⟨d', hd, hc2⟩
set_option maxRecDepth 100000 in
theorem q4 {n : Nat} {f1 f2 : Nat → Int32} {lst : Int32} (hn : n ≤ 7) (hp : 0 ≤ n) {u : Nat} {o : Nat → Nat} (hu : u < 128) (hD : DS n f1 f2 lst I) (ho : ∀ q, q < 0 → I 38 q = nI (o q) ∧ o q < n) : ∃ d' : Nat → Int32, (∀ q, q < 0 → d' q = I 38 q) ∧ ∀ Q : Option Value → ab_I → ab_J → Prop, Cal 4 [.ref 33, .int (nI 0), .int (nI u), .int x] I J Q ↔ Q (some (.int (nI (dl n lst f1 f2 (n - 0) 0 u o x)))) (va_up I 38 d') J := by
  obtain ⟨d1, d2, d3⟩ := id hD
  by_cases hw : n = 0
  · refine ⟨I 38, fun q _ => rfl, fun Q => ?_⟩
    have e0 : n ≤ 0 := by omega
    rw [up_id, en4, show n - 0 = 0 by omega]
    unfold dl
    by_cases q : lst ≤ x
    · have q' : ¬ x < lst := fun w => ge_lt.mpr w q
      rw [if_pos q]
      simp (disch := omega) only [k4_0, k4_1, k4_2, k4_5, k4_8, k4_9, k4_11, k4_14, k4_15, k4_16, k4_19, k4_22, k4_23, k4_26, k4_27, k4_28, k4_29, k4_31, k4_32, k4_36, k4_37, k4_40, k4_43, k4_44, k4_46, k4_47, k4_48, k4_49, k4_52, k4_53, k4_56, k4_57, k4_59, k4_60, k4_62, k4_63, k4_64, k4_65, k4_66, k4_67, k4_68, k4_70, k4_71, k4_72, k4_73, k4_74, k4_75, k4_77, k4_80, k4_81, k4_84, k4_85, k4_87, k4_90, k4_93, k4_95, Option.toList_some, Option.toList_none, List.cons_append, List.nil_append, nl_i, nl_r, nl_l, nl_n, d1, d2, nI_leI, e0, ↓reduceIte, q']
    · have q' : x < lst := ge_lt.mp q
      rw [if_neg q]
      simp (disch := omega) only [k4_0, k4_1, k4_2, k4_5, k4_8, k4_9, k4_11, k4_14, k4_15, k4_16, k4_19, k4_22, k4_23, k4_26, k4_27, k4_28, k4_29, k4_31, k4_32, k4_36, k4_37, k4_40, k4_43, k4_44, k4_46, k4_47, k4_48, k4_49, k4_52, k4_53, k4_56, k4_57, k4_59, k4_60, k4_62, k4_63, k4_64, k4_65, k4_66, k4_67, k4_68, k4_70, k4_71, k4_72, k4_73, k4_74, k4_75, k4_77, k4_80, k4_81, k4_84, k4_85, k4_87, k4_90, k4_93, k4_95, Option.toList_some, Option.toList_none, List.cons_append, List.nil_append, nl_i, nl_r, nl_l, nl_n, d1, d2, nI_leI, e0, ↓reduceIte, q']
  · have hpn : 0 < n := by omega
    have main : ∀ Q : Option Value → ab_I → ab_J → Prop, (∀ v I' J', ((∃ d' : Nat → Int32, I' = va_up I 38 d' ∧ ∀ q, q < 0 → d' q = I 38 q) ∧ J' = J ∧ v = some (.int (nI (dl n lst f1 f2 (n - 0) 0 u o x)))) → Q v I' J') → Cal 4 [.ref 33, .int (nI 0), .int (nI u), .int x] I J Q := by
      intro Q hQ
      have e0 : ¬ n ≤ 0 := by omega
      have e1 : nI 0 < nI 7 := by decide
      rw [show n - 0 = (n - 1) + 1 by omega] at hQ
      unfold dl at hQ
      rw [en4]
      simp (disch := omega) only [k4_0, k4_1, k4_2, k4_5, k4_8, k4_9, k4_11, k4_28, k4_29, k4_31, k4_32, Option.toList_some, Option.toList_none, List.cons_append, List.nil_append, nl_i, nl_r, nl_l, nl_n, d1, nI_leI, e0, e1, ↓reduceIte]
      have outer : ∀ I1 J1, (J1 = J ∧ ∃ d' : Nat → Int32, I1 = va_up I 38 d' ∧ ∀ q, q < 0 → d' q = I 38 q) → At 4 34 [some (.ref 33), some (.int (nI 0)), some (.int (nI u)), some (.int x), some (.int (nI (sN (fun mk => if u.testBit mk then 0 else dl n lst f1 f2 (n - 1) (0 + 1) (u ||| 2 ^ mk) (va_up o 0 mk) (x + gS (Fm f1 f2 (va_up o 0 mk)) 0 0)) 0))), some (.int (nI 0))] [] I1 J1 Q := by
        refine loop_ij (N := n) (P := fun k I1 J1 => At 4 34 [some (.ref 33), some (.int (nI 0)), some (.int (nI u)), some (.int x), some (.int (nI (sN (fun mk => if u.testBit mk then 0 else dl n lst f1 f2 (n - 1) (0 + 1) (u ||| 2 ^ mk) (va_up o 0 mk) (x + gS (Fm f1 f2 (va_up o 0 mk)) 0 0)) k))), some (.int (nI k))] [] I1 J1 Q) (G := fun _ I1 J1 => J1 = J ∧ ∃ d' : Nat → Int32, I1 = va_up I 38 d' ∧ ∀ q, q < 0 → d' q = I 38 q) ?_ ?_
        · rintro I1 J1 ⟨rfl, d', rfl, hd⟩
          have d1' := (DS_38 (d := d') hD).1
          rw [k4_34]
          simp (disch := omega) only [k4_36, k4_37, k4_40, k4_93, k4_95, d1', nI_leI, Nat.le_refl, ↓reduceIte]
          exact hQ _ _ _ ⟨⟨d', rfl, hd⟩, rfl, rfl⟩
        · rintro k I1 J1 hk ⟨rfl, d', rfl, hd⟩ ih
          have hD' := DS_38 (d := d') hD
          have d1' := hD'.1
          have e2 : ¬ n ≤ k := by omega
          rw [k4_34]
          simp (disch := omega) only [k4_36, k4_37, k4_40, k4_43, k4_44, k4_46, k4_47, k4_48, k4_49, d1', nI_leI, e2, ↓reduceIte, shr7 hu (show k < 7 by omega)]
          unfold sN at ih
          cases qb : u.testBit k with
          | true =>
            rw [if_pos qb, Nat.add_zero] at ih
            rw [if_pos (by simp)]
            simp (disch := omega) only [k4_87, k4_90, Option.toList_some, Option.toList_none, List.cons_append, List.nil_append, nl_i, nl_r, nl_l, nl_n, nI_add]
            exact ih _ _ ⟨rfl, d', rfl, hd⟩
          | false =>
            rw [if_neg (by rw [qb]; simp)] at ih
            rw [if_neg (by simp)]
            have hD2 := DS_38 (d := va_up d' 0 (nI k)) hD
            have ho2 : ∀ q, q < 0 → (va_up I 38 (va_up d' 0 (nI k))) 38 q = nI (o q) ∧ o q < n := by
              intro q hq
              rw [va_up_s, va_up_n _ _ (show q ≠ 0 by omega), hd q hq]
              exact ho q hq
            have ho3 : ∀ q, q < 1 → (va_up I 38 (va_up d' 0 (nI k))) 38 q = nI (va_up o 0 k q) ∧ va_up o 0 k q < n := by
              intro q hq
              by_cases e : q = 0
              · subst e; rw [va_up_s, va_up_s, va_up_s]; exact ⟨rfl, hk⟩
              · rw [va_up_n o _ e]; exact ho2 q (by omega)
            have hu2 : u ||| 2 ^ k < 128 := Nat.or_lt_two_pow (n := 7) hu (Nat.pow_lt_pow_right (by decide) (by omega))
            obtain ⟨d2', hd2, hcal⟩ := q5 (I := va_up I 38 (va_up d' 0 (nI k))) (J := J1) (x := x + gS (Fm f1 f2 (va_up o 0 k)) 0 0) (u := u ||| 2 ^ k) (o := va_up o 0 k) hn (by omega) hu2 hD2 ho3
            simp (disch := omega) only [k4_52, k4_53, k4_56, k4_57, k4_59, k4_60, k4_62, k4_63, k4_64, k4_65, k4_66, k4_67, k4_68, k4_70, k4_71, k4_72, k4_73, k4_74, k4_75, k4_77, k4_80, k4_81, k4_84, k4_85, k4_87, k4_90, Option.toList_some, Option.toList_none, List.cons_append, List.nil_append, nl_i, nl_r, nl_l, nl_n, nI_clamp, bnd, ly_38, Nat.reduceLT, true_and, and_true, va_up_s, up_same, q12 hD2 hn hpn hk ho2, nI_add, Nat.reduceAdd, shl1s, or_nI, hcal]
            refine ih _ _ ⟨rfl, d2', rfl, fun q hq => ?_⟩
            rw [hd2 q (by omega), va_up_s, va_up_n _ _ (show q ≠ 0 by omega)]
            exact hd q hq
      exact outer I J ⟨rfl, I 38, (up_id I 38).symm, fun q _ => rfl⟩
    obtain ⟨v, I', J', ⟨⟨d', rfl, hd⟩, rfl, rfl⟩, hc2⟩ := Cal_ex main
    exact ⟨d', hd, hc2⟩
end AGC
