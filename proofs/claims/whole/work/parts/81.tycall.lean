/-! CALLS: tied -/
section TYC
variable {I : ab_I} {J : ab_J} {Q : Option Value → ab_I → ab_J → Prop} {σ : PS} {x x1 x2 x3 x4 : Int32}
/-- the ties' and the agreement's own cells -/
theorem RC_scr {I' : ab_I} (h : RC σ I J) (f : ∀ k, ¬ (30 ≤ k ∧ k ≤ 38) → I' k = I k) : RC σ I' J := by
  obtain ⟨⟨h1, ⟨a1, a2, a3, a4⟩, h3, ⟨b1, b2, b3, b4, b5, b6, b7, b8⟩, ⟨c1, c2⟩, h6⟩, hZ, hS⟩ := h
  refine ⟨⟨h1, ⟨?_, ?_, ?_, ?_⟩, ?_, ⟨b1, b2, ?_, ?_, b5, ?_, ?_, ?_⟩, ⟨?_, ?_⟩, ?_⟩, ?_, ?_⟩
  · rw [f 1 (by omega)]; exact a1
  · rw [f 2 (by omega), f 3 (by omega), f 4 (by omega)]; exact a2
  · rw [f 1 (by omega)]; exact a3
  · rw [f 1 (by omega)]; exact a4
  · rw [f 48 (by omega)]; exact h3
  · rw [f 39 (by omega)]; exact b3
  · rw [f 40 (by omega)]; exact b4
  · rw [f 39 (by omega)]; exact b6
  · rw [f 41 (by omega), f 42 (by omega)]; exact b7
  · rw [f 39 (by omega)]; exact b8
  · rw [f 45 (by omega), f 46 (by omega)]; exact c1
  · rw [f 44 (by omega)]; exact c2
  · rw [f 0 (by omega)]; exact h6
  · unfold Z6; rw [f 6 (by omega), f 47 (by omega), f 18 (by omega)]; exact hZ
  · unfold SetOK TieOK WsOK StOK at hS ⊢
    rw [f 0 (by omega), f (5 + 1) (by omega), f (5 + 2) (by omega), f (5 + 4) (by omega), f (5 + 5) (by omega), f (5 + 6) (by omega), f 5 (by omega), f 47 (by omega), f 29 (by omega)]
    exact hS
def okG (h0 g : Nat → Nat) (k : Nat) : Bool := decide (slb h0 (k / 4) ≠ 4 ∧ g (k % 4) ≠ 4 ∧ g (slb h0 (k / 4)) ≠ g (k % 4))
theorem okG_T {c c' : Nat → Int32} {g : Nat → Nat} (hI : tInv (hnd c) (hnd c') g) {k : Nat} (hk : k < 48) : okG (hnd c) g k = okT c' k := by
  obtain ⟨i1, i2, i3⟩ := hI
  obtain ⟨j1, j2⟩ := i3 (k / 4) (by omega)
  have hm := i1 (k % 4) (by omega)
  unfold okG okT
  rw [decide_eq_decide]
  have s4 := slb_le4 (hnd c) (k / 4)
  constructor
  · rintro ⟨q1, q2, q3⟩
    have q1' : slb (hnd c') (k / 4) ≠ 4 := fun w => q1 (j1.mpr w)
    have q2' : lb (hnd c') (k % 4) ≠ 4 := fun w => q2 (hm.2.mpr w)
    refine ⟨q1', q2', fun w => q3 ?_⟩
    rw [j2 q1] at w q1'
    exact (i2 _ _ (by omega) (by omega) q1' q2').mpr w
  · rintro ⟨q1, q2, q3⟩
    have q1' : slb (hnd c) (k / 4) ≠ 4 := fun w => q1 (j1.mp w)
    refine ⟨q1', fun w => q2 (hm.2.mp w), fun w => q3 ?_⟩
    rw [j2 q1'] at q1 ⊢
    exact (i2 _ _ (by omega) (by omega) q1 q2).mp w
set_option maxRecDepth 100000 in
theorem q73 {c : Nat → Int32} {g : Nat → Nat} {pr : Nat → Int32} (hT : TieOK 5 c I J) (hg : ∀ m, m < 4 → g m ≤ 4 ∧ I 31 m = enc (g m)) (hp : ∀ m, m < 4 → I 48 m = pr m) : Cal 73 [.ref 30, .ref 5, .ref 48] I J Q ↔ Q (some (.int (e48 (chf (okG (hnd c) g) pr 48)))) I J := by
  have n4 : ¬ nI 4 = 0 := by decide
  refine Cal_of (fun Q hQ => ?_)
  rw [en73]
  simp (disch := omega) only [k73_0, k73_1, k73_2, k73_3, Option.toList_some, Option.toList_none, List.cons_append, List.nil_append, nl_i, nl_r, nl_l, nl_n]
  have key : ∀ a5 a6 : Option Value, At 73 5 [some (.ref 30), some (.ref 5), some (.ref 48), some (.int (e48 (chf (okG (hnd c) g) pr 0))), some (.int (nI 0)), a5, a6] [] I J Q := by
    refine loop_dn (N := 48) (P := fun k => ∀ a5 a6 : Option Value, At 73 5 [some (.ref 30), some (.ref 5), some (.ref 48), some (.int (e48 (chf (okG (hnd c) g) pr k))), some (.int (nI k)), a5, a6] [] I J Q) ?_ ?_
    · intro a5 a6
      rw [k73_5]
      simp (disch := omega) only [k73_7, k73_9, k73_86, k73_87, nI_leI, Nat.le_refl, ↓reduceIte]
      exact hQ
    · intro k hk ih a5 a6
      have e0 : ¬ 48 ≤ k := by omega
      have e11 : I 11 (k / 4) = _ := hT.2.2.2.2.2.1 (k / 4) (by omega)
      obtain ⟨gm, e31⟩ := hg (k % 4) (by omega)
      have s4 := slb_le4 (hnd c) (k / 4)
      obtain ⟨bl, bl2⟩ := chf_le (ok := okG (hnd c) g) (pr := pr) k (by omega)
      rw [k73_5]
      simp (disch := omega) only [k73_7, k73_9, k73_12, k73_13_5, k73_16, k73_18, k73_19, k73_20, k73_21, k73_23, k73_24, k73_27, k73_29, k73_30, k73_31, k73_32, k73_34, k73_36, k73_37, Option.toList_some, Option.toList_none, List.cons_append, List.nil_append, nl_i, nl_r, nl_l, nl_n, nI_leI, e0, ↓reduceIte, n4, not_false_eq_true, div4, rem4, rem4b, nI_clamp, bnd, ly_11, ly_31, Nat.reduceLT, true_and, and_true, e11, e31, enc_m1]
      unfold chf at ih
      have skip : okG (hnd c) g k = false → ∀ a5 a6 : Option Value, At 73 80 [some (.ref 30), some (.ref 5), some (.ref 48), some (.int (e48 (chf (okG (hnd c) g) pr k))), some (.int (nI k)), a5, a6] [] I J Q := by
        intro q a5 a6
        rw [if_neg (fun w => by rw [q] at w; cases w.1)] at ih
        simp (disch := omega) only [k73_80, k73_83, Option.toList_some, Option.toList_none, List.cons_append, List.nil_append, nl_i, nl_r, nl_l, nl_n, nI_add]
        exact ih _ _
      by_cases q1 : slb (hnd c) (k / 4) = 4
      · rw [if_pos q1]
        exact skip (decide_eq_false (fun w => w.1 q1)) _ _
      · rw [if_neg q1]
        simp (disch := omega) only [k73_40, k73_42, k73_43, enc_m1]
        by_cases q2 : g (k % 4) = 4
        · rw [if_pos q2]
          exact skip (decide_eq_false (fun w => w.2.1 q2)) _ _
        · rw [if_neg q2]
          obtain ⟨gs, e31s⟩ := hg (slb (hnd c) (k / 4)) (by omega)
          simp (disch := omega) only [k73_46, k73_47, k73_50, k73_52, k73_53, k73_55, Option.toList_some, Option.toList_none, List.cons_append, List.nil_append, nl_i, nl_r, nl_l, nl_n, enc_lt (show slb (hnd c) (k / 4) < 4 by omega), nI_clamp, bnd, ly_31, Nat.reduceLT, true_and, and_true, e31s, enc_eq]
          by_cases q3 : g (slb (hnd c) (k / 4)) = g (k % 4)
          · rw [if_pos q3]
            have := skip (decide_eq_false (fun w => w.2.2 q3)) (some (.int (enc (slb (hnd c) (k / 4))))) (some (.int (enc (g (k % 4)))))
            rw [enc_lt (show slb (hnd c) (k / 4) < 4 by omega)] at this
            exact this
          · rw [if_neg q3]
            have qo : okG (hnd c) g k = true := decide_eq_true ⟨q1, q2, q3⟩
            simp (disch := omega) only [k73_58, k73_59, k73_60, Option.toList_some, Option.toList_none, List.cons_append, List.nil_append, nl_i, nl_r, nl_l, nl_n, e48_m1 bl]
            by_cases q4 : chf (okG (hnd c) g) pr k = 48
            · rw [if_pos ⟨qo, Or.inl q4⟩, e48_lt hk] at ih
              rw [if_pos q4]
              simp (disch := omega) only [k73_77, k73_79, k73_80, k73_83, Option.toList_some, Option.toList_none, List.cons_append, List.nil_append, nl_i, nl_r, nl_l, nl_n, nI_add]
              exact ih _ _
            · rw [if_neg q4]
              have b48 : chf (okG (hnd c) g) pr k < 48 := by omega
              simp (disch := omega) only [k73_63, k73_64, k73_66, k73_67, k73_68, k73_69, k73_70, k73_71, k73_72, k73_73, k73_74, Option.toList_some, Option.toList_none, List.cons_append, List.nil_append, nl_i, nl_r, nl_l, nl_n, e48_lt b48, n4, not_false_eq_true, rem4, nI_clamp, bnd, ly_48, Nat.reduceLT, true_and, and_true, hp (k % 4) (by omega), hp (chf (okG (hnd c) g) pr k % 4) (by omega)]
              by_cases q5 : pr (chf (okG (hnd c) g) pr k % 4) ≤ pr (k % 4)
              · rw [if_neg (by rintro ⟨-, w | w⟩; exact q4 w; exact ge_lt.mpr w q5), e48_lt b48] at ih
                rw [if_pos q5]
                simp (disch := omega) only [k73_80, k73_83, Option.toList_some, Option.toList_none, List.cons_append, List.nil_append, nl_i, nl_r, nl_l, nl_n, nI_add]
                exact ih _ _
              · rw [if_pos ⟨qo, Or.inr (ge_lt.mp q5)⟩, e48_lt hk] at ih
                rw [if_neg q5]
                simp (disch := omega) only [k73_77, k73_79, k73_80, k73_83, Option.toList_some, Option.toList_none, List.cons_append, List.nil_append, nl_i, nl_r, nl_l, nl_n, nI_add]
                exact ih _ _
  exact key _ _
set_option maxRecDepth 100000 in
theorem q74 {g : Nat → Nat} {n1 n2 : Nat} (h2 : n2 ≤ 4) (hg : ∀ m, m < 4 → g m ≤ 4 ∧ I 31 m = enc (g m)) : Cal 74 [.ref 30, .int (enc n1), .int (enc n2)] I J Q ↔ Q none (va_up I 31 (fll (fun m => enc (if g m = n2 then n1 else g m)) (I 31) 4)) J := by
  refine Cal_of (fun Q hQ => ?_)
  rw [en74]
  simp (disch := omega) only [k74_0, k74_1, Option.toList_some, Option.toList_none, List.cons_append, List.nil_append, nl_i, nl_r, nl_l, nl_n]
  have key : At 74 2 [some (.ref 30), some (.int (enc n1)), some (.int (enc n2)), some (.int (nI 0))] [] (va_up I 31 (fll (fun m => enc (if g m = n2 then n1 else g m)) (I 31) 0)) J Q := by
    refine loop_dn (N := 4) (P := fun m => At 74 2 [some (.ref 30), some (.int (enc n1)), some (.int (enc n2)), some (.int (nI m))] [] (va_up I 31 (fll (fun m => enc (if g m = n2 then n1 else g m)) (I 31) m)) J Q) ?_ ?_
    · rw [k74_2]
      simp (disch := omega) only [k74_3, k74_4, k74_30, nI_leI, Nat.le_refl, ↓reduceIte]
      exact hQ
    · intro m hm ih
      have e0 : ¬ 4 ≤ m := by omega
      obtain ⟨g4, e31⟩ := hg m hm
      have ef : fll (fun m => enc (if g m = n2 then n1 else g m)) (I 31) m m = enc (g m) := by unfold fll; rw [if_neg (by omega)]; exact e31
      rw [← fll_s] at ih
      rw [k74_2]
      simp (disch := omega) only [k74_3, k74_4, k74_7, k74_8, k74_11, k74_12, k74_13, k74_14, Option.toList_some, Option.toList_none, List.cons_append, List.nil_append, nl_i, nl_r, nl_l, nl_n, nI_leI, e0, ↓reduceIte, nI_clamp, bnd, ly_31, Nat.reduceLT, true_and, and_true, va_up_s, ef, enc_eq]
      by_cases q : g m = n2
      · rw [if_pos q] at ih
        rw [if_neg (fun w => w q)]
        simp (disch := omega) only [k74_17, k74_18, k74_21, k74_22, k74_23, k74_24, k74_27, Option.toList_some, Option.toList_none, List.cons_append, List.nil_append, nl_i, nl_r, nl_l, nl_n, nI_clamp, bnd, ly_31, Nat.reduceLT, true_and, and_true, va_up_s, up_same, nI_add]
        exact ih
      · rw [if_neg q, ← ef, up_id] at ih
        rw [if_pos q]
        simp (disch := omega) only [k74_24, k74_27, Option.toList_some, Option.toList_none, List.cons_append, List.nil_append, nl_i, nl_r, nl_l, nl_n, nI_add]
        exact ih
  rw [fll_0, up_id] at key
  exact key
set_option maxRecDepth 100000 in
theorem st72 {pr : Nat → Int32} {c o : Nat → Int32} (hS : SetOK c o I J) (hp : ∀ m, m < 4 → I 48 m = pr m) : ∃ (I' : ab_I) (n : Nat), ((∀ k, ¬ (30 ≤ k ∧ k ≤ 32) → I' k = I k) ∧ n ≤ 3 ∧ (∀ i, i < n → tpk pr (tD pr c i) ≠ 48) ∧ tpk pr (tD pr c n) = 48 ∧ I' 30 2 = nI n ∧ I' 30 3 = tC pr c n ∧ ∀ i, i < n → I' 32 i = nI (tpk pr (tD pr c i))) ∧ ∀ Q : Option Value → ab_I → ab_J → Prop, Cal 72 [.ref 30, .ref 5, .ref 48] I J Q ↔ Q none I' J := by
  have sT := hS.2.1
  have n4 : ¬ nI 4 = 0 := by decide
  have main : ∀ Q : Option Value → ab_I → ab_J → Prop, (∀ v I' J', (J' = J ∧ v = none ∧ ∃ n, (∀ k, ¬ (30 ≤ k ∧ k ≤ 32) → I' k = I k) ∧ n ≤ 3 ∧ (∀ i, i < n → tpk pr (tD pr c i) ≠ 48) ∧ tpk pr (tD pr c n) = 48 ∧ I' 30 2 = nI n ∧ I' 30 3 = tC pr c n ∧ ∀ i, i < n → I' 32 i = nI (tpk pr (tD pr c i))) → Q v I' J') → Cal 72 [.ref 30, .ref 5, .ref 48] I J Q := by
    intro Q hQ
    rw [en72]
    simp (disch := omega) only [k72_0, k72_1, k72_2, k72_5, k72_6, k72_7, k72_10, k72_11, Option.toList_some, Option.toList_none, List.cons_append, List.nil_append, nl_i, nl_r, nl_l, nl_n, va_up_s, up_same]
    generalize hI1 : va_up I 30 (va_up (va_up (I 30) 2 (nI 0)) 3 (nI 0)) = I1
    have f1 : ∀ k, k ≠ 30 → I1 k = I k := fun k hk => by rw [← hI1, va_up_n _ _ hk]
    have f2 : I1 30 2 = nI 0 := by rw [← hI1]; simp (disch := omega) only [up_ne, va_up_s]
    have f3 : I1 30 3 = nI 0 := by rw [← hI1]; simp (disch := omega) only [va_up_s]
    have e10 : ∀ m, m < 4 → I 10 m = enc (lb (hnd c) m) := sT.2.2.2.2.1
    have k1 : ∀ a4 : Option Value, At 72 12 [some (.ref 30), some (.ref 5), some (.ref 48), some (.int (nI 0)), a4] [] (va_up I1 31 (fll (fun m => enc (lb (hnd c) m)) (I1 31) 0)) J Q := by
      refine loop_dn (N := 4) (P := fun m => ∀ a4 : Option Value, At 72 12 [some (.ref 30), some (.ref 5), some (.ref 48), some (.int (nI m)), a4] [] (va_up I1 31 (fll (fun m => enc (lb (hnd c) m)) (I1 31) m)) J Q) ?_ ?_
      · intro a4
        rw [k72_12]
        simp (disch := omega) only [k72_13, k72_14, k72_35, k72_36, nI_leI, Nat.le_refl, ↓reduceIte, Option.toList_some, Option.toList_none, List.cons_append, List.nil_append, nl_i, nl_r, nl_l, nl_n]
        have outer : ∀ I2 J2, (J2 = J ∧ (∀ k, ¬ (30 ≤ k ∧ k ≤ 32) → I2 k = I k) ∧ ∃ (n : Nat) (g : Nat → Nat), n ≤ 0 ∧ (∀ i, i < n → tpk pr (tD pr c i) ≠ 48) ∧ (n < 0 → tpk pr (tD pr c n) = 48) ∧ tInv (hnd c) (hnd (tD pr c n)) g ∧ (∀ m, m < 4 → I2 31 m = enc (g m)) ∧ I2 30 2 = nI n ∧ I2 30 3 = tC pr c n ∧ ∀ i, i < n → I2 32 i = nI (tpk pr (tD pr c i))) → ∀ a4 : Option Value, At 72 37 [some (.ref 30), some (.ref 5), some (.ref 48), some (.int (nI (1 + 0))), a4] [] I2 J2 Q := by
          refine loop_ij (N := 3) (P := fun j I2 J2 => ∀ a4 : Option Value, At 72 37 [some (.ref 30), some (.ref 5), some (.ref 48), some (.int (nI (1 + j))), a4] [] I2 J2 Q) (G := fun j I2 J2 => J2 = J ∧ (∀ k, ¬ (30 ≤ k ∧ k ≤ 32) → I2 k = I k) ∧ ∃ (n : Nat) (g : Nat → Nat), n ≤ j ∧ (∀ i, i < n → tpk pr (tD pr c i) ≠ 48) ∧ (n < j → tpk pr (tD pr c n) = 48) ∧ tInv (hnd c) (hnd (tD pr c n)) g ∧ (∀ m, m < 4 → I2 31 m = enc (g m)) ∧ I2 30 2 = nI n ∧ I2 30 3 = tC pr c n ∧ ∀ i, i < n → I2 32 i = nI (tpk pr (tD pr c i))) ?_ ?_
          · rintro I2 J2 ⟨rfl, g1, n, g, q1, q2, q3, q4, q5, q6, q7, q8⟩ a4
            rw [k72_37]
            simp (disch := omega) only [k72_38, k72_39, k72_125, nI_leI, Nat.reduceAdd, Nat.le_refl, ↓reduceIte]
            refine hQ _ _ _ ⟨rfl, rfl, n, g1, q1, q2, ?_, q6, q7, q8⟩
            by_cases w : n < 3
            · exact q3 w
            · have : n = 3 := by omega
              subst this
              exact t_end (q2 0 (by omega)) (q2 1 (by omega)) (q2 2 (by omega))
          · rintro j I2 J2 hj ⟨rfl, g1, n, g, q1, q2, q3, q4, q5, q6, q7, q8⟩ ih a4
            have e0 : ¬ 4 ≤ 1 + j := by omega
            have sT2 : TieOK 5 c I2 J2 := by
              unfold TieOK at sT ⊢
              rw [g1 (5 + 1) (by omega), g1 (5 + 2) (by omega), g1 (5 + 4) (by omega), g1 (5 + 5) (by omega), g1 (5 + 6) (by omega), g1 5 (by omega)]
              exact sT
            have hg2 : ∀ m, m < 4 → g m ≤ 4 ∧ I2 31 m = enc (g m) := fun m hm => ⟨(q4.1 m hm).1, q5 m hm⟩
            have hp2 : ∀ m, m < 4 → I2 48 m = pr m := fun m hm => by rw [g1 48 (by omega)]; exact hp m hm
            have ech : chf (okG (hnd c) g) pr 48 = tpk pr (tD pr c n) := chf_cg 48 (fun k hk => okG_T q4 hk)
            rw [k72_37]
            simp (disch := omega) only [k72_38, k72_39, k72_42, k72_43, k72_44, k72_45, k72_48, k72_50, k72_52, k72_53, Option.toList_some, Option.toList_none, List.cons_append, List.nil_append, nl_i, nl_r, nl_l, nl_n, nI_leI, e0, ↓reduceIte, q73 sT2 hg2 hp2, ech]
            have tl : tpk pr (tD pr c n) ≤ 48 := (chf_le 48 (Nat.le_refl _)).1
            simp only [e48_m1 tl]
            by_cases w : tpk pr (tD pr c n) = 48
            · rw [if_pos w]
              simp (disch := omega) only [k72_119, k72_122, Option.toList_some, Option.toList_none, List.cons_append, List.nil_append, nl_i, nl_r, nl_l, nl_n, nI_add, show 1 + j + 1 = 1 + (j + 1) by omega]
              exact ih I2 J2 ⟨rfl, g1, n, g, by omega, q2, fun _ => w, q4, q5, q6, q7, q8⟩ _
            · rw [if_neg w]
              have hnj : n = j := by
                refine Classical.byContradiction (fun v => w (q3 (by omega)))
              obtain ⟨t1, t2, t3, t4⟩ := tpk_ok w
              have s4 := slb_le4 (hnd c) (tpk pr (tD pr c n) / 4)
              have i3 := q4.2.2 (tpk pr (tD pr c n) / 4) (by omega)
              have k0 : slb (hnd c) (tpk pr (tD pr c n) / 4) ≠ 4 := fun v => t2 (i3.1.mp v)
              have k4 : slb (hnd c) (tpk pr (tD pr c n) / 4) < 4 := by omega
              have e11 : I2 11 (tpk pr (tD pr c n) / 4) = enc (slb (hnd c) (tpk pr (tD pr c n) / 4)) := sT2.2.2.2.2.2.1 _ (by omega)
              have g31a := q5 (slb (hnd c) (tpk pr (tD pr c n) / 4)) k4
              have g31b := q5 (tpk pr (tD pr c n) % 4) (by omega)
              have pm := hp2 (tpk pr (tD pr c n) % 4) (by omega)
              generalize hI3 : va_up (va_up I2 30 (va_up (va_up (I2 30) 2 (nI (n + 1))) 3 (tC pr c n + pr (tpk pr (tD pr c n) % 4)))) 32 (va_up (I2 32) n (nI (tpk pr (tD pr c n)))) = I3
              have r1 : ∀ k, k ≠ 30 → k ≠ 32 → I3 k = I2 k := fun k h1 h2 => by rw [← hI3, va_up_n _ _ h2, va_up_n _ _ h1]
              have hg3 : ∀ m, m < 4 → g m ≤ 4 ∧ I3 31 m = enc (g m) := fun m hm => by rw [r1 31 (by omega) (by omega)]; exact hg2 m hm
              have e11' : I3 11 (tpk pr (tD pr c n) / 4) = enc (slb (hnd c) (tpk pr (tD pr c n) / 4)) := by rw [r1 11 (by omega) (by omega)]; exact e11
              have g31a' : I3 31 (slb (hnd c) (tpk pr (tD pr c n) / 4)) = enc (g (slb (hnd c) (tpk pr (tD pr c n) / 4))) := by rw [r1 31 (by omega) (by omega)]; exact g31a
              have g31b' : I3 31 (tpk pr (tD pr c n) % 4) = enc (g (tpk pr (tD pr c n) % 4)) := by rw [r1 31 (by omega) (by omega)]; exact g31b
              simp (disch := omega) only [k72_56, k72_57, k72_60, k72_61, k72_64, k72_66, k72_67, k72_68, k72_69, k72_72, k72_73, k72_74, k72_77, k72_78, k72_79, k72_82, k72_83, k72_85, k72_86, k72_87, k72_88, k72_89, k72_92, k72_93, k72_94, k72_97, k72_98_5, k72_101, k72_103, k72_104, k72_105, k72_106, k72_107, k72_108, k72_111, k72_113, k72_114, k72_115, k72_116, Option.toList_some, Option.toList_none, List.cons_append, List.nil_append, nl_i, nl_r, nl_l, nl_n, e48_lt t1, q6, q7, nI_clamp, bnd, ly_32, ly_48, ly_11, ly_31, Nat.reduceLT, true_and, and_true, nI_add, n4, not_false_eq_true, div4, rem4, rem4b, up_ne, va_up_s, up_same, up_cm, id_eq, pm, e11', enc_lt k4, g31a', g31b', hI3]
              rw [q74 (hg2 _ (by omega)).1 hg3]
              have eD : tD pr c (n + 1) = va_up (tD pr c n) (tpk pr (tD pr c n)) 0 := rfl
              have eC : tC pr c (n + 1) = tC pr c n + pr (tpk pr (tD pr c n) % 4) := rfl
              simp (disch := omega) only [k72_119, k72_122, Option.toList_some, Option.toList_none, List.cons_append, List.nil_append, nl_i, nl_r, nl_l, nl_n, nI_add, show 1 + j + 1 = 1 + (j + 1) by omega]
              refine ih _ _ ⟨rfl, fun k hk => ?_, n + 1, fun a => if g a = g (tpk pr (tD pr c n) % 4) then g (slb (hnd c) (tpk pr (tD pr c n) / 4)) else g a, by omega, fun i hi => ?_, fun v => by omega, ?_, fun m hm => ?_, ?_, ?_, fun i hi => ?_⟩ _
              · rw [up_ne _ _ (by omega), r1 k (by omega) (by omega)]; exact g1 k hk
              · by_cases v : i = n
                · subst v; exact w
                · exact q2 i (by omega)
              · rw [eD]; exact tInv_s q4 (by omega) (by omega) (slb_le4 (hnd c)) (t_add w) t2 t3 t4
              · rw [va_up_s]; exact fll_lt hm
              · rw [up_ne _ _ (by omega), ← hI3]; simp (disch := omega) only [up_ne, va_up_s]
              · rw [up_ne _ _ (by omega), ← hI3, eC]; simp (disch := omega) only [up_ne, va_up_s]
              · rw [up_ne _ _ (by omega), ← hI3, va_up_s]
                by_cases v : i = n
                · subst v; rw [va_up_s]
                · rw [va_up_n _ _ v]; exact q8 i (by omega)
        refine outer _ _ ⟨rfl, fun k hk => ?_, 0, lb (hnd c), Nat.le_refl _, fun i hi => by omega, fun w => by omega, tInv_0 c, fun m hm => ?_, ?_, ?_, fun i hi => by omega⟩ _
        · rw [up_ne _ _ (by omega), f1 k (by omega)]
        · rw [va_up_s]; exact fll_lt hm
        · rw [up_ne _ _ (by omega)]; exact f2
        · rw [up_ne _ _ (by omega)]; exact f3
      · intro m hm ih a4
        have e0 : ¬ 4 ≤ m := by omega
        have e10' : (va_up I1 31 (fll (fun m => enc (lb (hnd c) m)) (I1 31) m)) 10 m = enc (lb (hnd c) m) := by rw [up_ne _ _ (by omega), f1 10 (by omega)]; exact e10 m hm
        rw [← fll_s] at ih
        rw [k72_12]
        simp (disch := omega) only [k72_13, k72_14, k72_17, k72_18, k72_21, k72_22, k72_23_5, k72_26, k72_27, k72_28, k72_29, k72_32, Option.toList_some, Option.toList_none, List.cons_append, List.nil_append, nl_i, nl_r, nl_l, nl_n, nI_leI, e0, ↓reduceIte, nI_clamp, bnd, ly_10, ly_31, Nat.reduceLT, true_and, and_true, e10', va_up_s, up_same, nI_add]
        exact ih _
    have k1 := k1 none
    rw [fll_0, up_id] at k1
    exact k1
  obtain ⟨v, I', J', ⟨rfl, rfl, n, hn⟩, hc2⟩ := Cal_ex main
  exact ⟨I', n, hn, hc2⟩
theorem i_ge {x : Int32} (h : ¬ x < -1) (h1 : x ≠ -1) : ∃ i, i < 2 ^ 31 ∧ x = nI i := by
  rw [i_lt, tm1] at h
  have h2 : x.toInt ≠ -1 := fun w => h1 (i_eq.mpr (by rw [w]; exact tm1.symm))
  have h3 := x.toInt_lt
  exact ⟨x.toInt.toNat, by omega, by rw [i_eq, nI_toInt (by omega)]; omega⟩
set_option maxRecDepth 100000 in
theorem q97 (hR : RC σ I J) : ∃ I' J', (RC σ I' J' ∧ CF I J I' J') ∧ ∀ Q : Option Value → ab_I → ab_J → Prop, Cal 97 [.ref 0, .int x] I J Q ↔ Q (some (.int (aTied σ x))) I' J' := by
  by_cases hb : x < -1
  · refine ⟨I, J, ⟨hR, CF_refl⟩, fun Q => ?_⟩
    rw [en97, show aTied σ x = -2 from if_pos hb]
    have hb' : ¬ (-1 : Int32) ≤ x := ge_lt.mpr hb
    simp only [k97_0, k97_1, k97_2, k97_5, k97_7, k97_8, k97_9, k97_12, k97_13, k97_16, k97_17, k97_20, k97_21, k97_24, k97_27, k97_28, k97_29, k97_32, k97_33, k97_36, k97_39, k97_40, k97_41, k97_42, k97_45, k97_48, k97_51, k97_52, k97_55, k97_58, k97_59, k97_60, k97_63, k97_64, Option.toList_some, Option.toList_none, List.cons_append, List.nil_append, nl_i, nl_r, nl_l, nl_n, hb', ↓reduceIte]
  · have hb' : (-1 : Int32) ≤ x := by rw [i_lt] at hb; rw [i_le]; omega
    obtain ⟨I1, J1, ⟨h1, hS, h3⟩, hcal⟩ := st110 hR
    obtain ⟨I2, n, ⟨g1, g2, g3, g4, g5, g6, g7⟩, hcal2⟩ := st72 hS h1.1.2.2.1
    have hf : CF I1 J1 I2 J1 := ⟨fun k hk => g1 k (by omega), fun j _ => by rw [g1 0 (by omega)], fun _ _ => rfl⟩
    refine ⟨I2, J1, ⟨RC_scr h1 (fun k hk => g1 k (by omega)), CF_trans h3 hf⟩, fun Q => ?_⟩
    have ans : aTied σ x = if x = -1 then tC σ.2.1 (cc σ.1) n else if h : x.toInt.toNat < n then nI (tpk σ.2.1 (tD σ.2.1 (cc σ.1) x.toInt.toNat)) else -1 := by
      rw [show aTied σ x = _ from if_neg hb]
      by_cases hx : x = -1
      · subst hx
        have m0 : ¬ (-1 : Int32) = nI 0 := by decide
        have m1 : ¬ (-1 : Int32) = nI 1 := by decide
        have m2 : ¬ (-1 : Int32) = nI 2 := by decide
        have n' : n = 0 ∨ n = 1 ∨ n = 2 ∨ n = 3 := by omega
        rcases n' with r | r | r | r <;> subst r
        · simp only [g4, ↓reduceIte]
        · simp only [g3 0 (by omega), g4, m0, ↓reduceIte]
        · simp only [g3 0 (by omega), g3 1 (by omega), g4, m0, m1, ↓reduceIte]
        · simp only [g3 0 (by omega), g3 1 (by omega), g3 2 (by omega), m0, m1, m2, ↓reduceIte]
      · obtain ⟨i, hi, rfl⟩ := i_ge hb hx
        have ei : (nI i).toInt.toNat = i := tN_nI hi
        have e0 : (nI i = nI 0) = (i = 0) := nIeq hi (by decide)
        have e1 : (nI i = nI 1) = (i = 1) := nIeq hi (by decide)
        have e2 : (nI i = nI 2) = (i = 2) := nIeq hi (by decide)
        have n' : n = 0 ∨ n = 1 ∨ n = 2 ∨ n = 3 := by omega
        rcases n' with r | r | r | r <;> subst r
        · simp only [ei, g4, hx, ↓reduceIte, show ¬ i < 0 by omega, ↓reduceDIte]
        · by_cases w : i = 0
          · subst w; simp only [ei, e0, g3 0 (by omega), hx, ↓reduceIte, Nat.zero_lt_one, ↓reduceDIte]
          · simp only [ei, e0, w, g3 0 (by omega), g4, hx, ↓reduceIte, show ¬ i < 1 by omega, ↓reduceDIte]
        · by_cases w : i = 0
          · subst w; simp only [ei, e0, g3 0 (by omega), hx, ↓reduceIte, show 0 < 2 by omega, ↓reduceDIte]
          · by_cases w1 : i = 1
            · subst w1; simp only [ei, e0, e1, w, g3 0 (by omega), g3 1 (by omega), hx, ↓reduceIte, show 1 < 2 by omega, ↓reduceDIte]
            · simp only [ei, e0, e1, w, w1, g3 0 (by omega), g3 1 (by omega), g4, hx, ↓reduceIte, show ¬ i < 2 by omega, ↓reduceDIte]
        · by_cases w : i = 0
          · subst w; simp only [ei, e0, g3 0 (by omega), hx, ↓reduceIte, show 0 < 3 by omega, ↓reduceDIte]
          · by_cases w1 : i = 1
            · subst w1; simp only [ei, e0, e1, w, g3 0 (by omega), g3 1 (by omega), hx, ↓reduceIte, show 1 < 3 by omega, ↓reduceDIte]
            · by_cases w2 : i = 2
              · subst w2; simp only [ei, e0, e1, e2, w, w1, g3 0 (by omega), g3 1 (by omega), g3 2 (by omega), hx, ↓reduceIte, show 2 < 3 by omega, ↓reduceDIte]
              · simp only [ei, e0, e1, e2, w, w1, w2, g3 0 (by omega), g3 1 (by omega), g3 2 (by omega), hx, ↓reduceIte, show ¬ i < 3 by omega, ↓reduceDIte]
    rw [ans, en97]
    by_cases hx : x = -1
    · subst hx
      rw [if_pos rfl]
      simp (disch := omega) only [k97_0, k97_1, k97_2, k97_5, k97_7, k97_8, k97_9, k97_12, k97_13, k97_16, k97_17, k97_20, k97_21, k97_24, k97_27, k97_28, k97_29, k97_32, k97_33, k97_36, k97_39, k97_40, k97_41, k97_42, k97_45, k97_48, k97_51, k97_52, k97_55, k97_58, k97_59, k97_60, k97_63, k97_64, Option.toList_some, Option.toList_none, List.cons_append, List.nil_append, nl_i, nl_r, nl_l, nl_n, hb', ↓reduceIte, hcal, hcal2, not_true_eq_false, g6]
    · obtain ⟨i, hi, rfl⟩ := i_ge hb hx
      have ei : (nI i).toInt.toNat = i := tN_nI hi
      rw [if_neg hx]
      simp only [ei]
      by_cases w : i < n
      · have w' : ¬ n ≤ i := by omega
        rw [dif_pos w]
        simp (disch := omega) only [k97_0, k97_1, k97_2, k97_5, k97_7, k97_8, k97_9, k97_12, k97_13, k97_16, k97_17, k97_20, k97_21, k97_24, k97_27, k97_28, k97_29, k97_32, k97_33, k97_36, k97_39, k97_40, k97_41, k97_42, k97_45, k97_48, k97_51, k97_52, k97_55, k97_58, k97_59, k97_60, k97_63, k97_64, Option.toList_some, Option.toList_none, List.cons_append, List.nil_append, nl_i, nl_r, nl_l, nl_n, hb', ↓reduceIte, hcal, hcal2, hx, not_false_eq_true, g5, nI_leI, w', nI_clamp, bnd, ly_32, Nat.reduceLT, true_and, and_true, g7 i w]
      · have w' : n ≤ i := by omega
        rw [dif_neg w]
        simp (disch := omega) only [k97_0, k97_1, k97_2, k97_5, k97_7, k97_8, k97_9, k97_12, k97_13, k97_16, k97_17, k97_20, k97_21, k97_24, k97_27, k97_28, k97_29, k97_32, k97_33, k97_36, k97_39, k97_40, k97_41, k97_42, k97_45, k97_48, k97_51, k97_52, k97_55, k97_58, k97_59, k97_60, k97_63, k97_64, Option.toList_some, Option.toList_none, List.cons_append, List.nil_append, nl_i, nl_r, nl_l, nl_n, hb', ↓reduceIte, hcal, hcal2, hx, not_false_eq_true, g5, nI_leI, w']
end TYC
