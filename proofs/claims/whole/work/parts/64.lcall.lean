/-! CALLS: type, wipe, fault, grade, hangs, misses -/
def setL (σ : PS) (z : Nat × (Nat → Int32)) : PS := (σ.1, σ.2.1, z, σ.2.2.2)
section LCALL
variable {I : ab_I} {J : ab_J} {Q : Option Value → ab_I → ab_J → Prop} {σ : PS} {x x1 x2 : Int32}
theorem RC_laws {z : Nat × (Nat → Int32)} {I' : ab_I} (h : RC σ I J) (f : ∀ k, ¬ (39 ≤ k ∧ k ≤ 42) → I' k = I k) (hz : LCk z I') : RC (setL σ z) I' J := by
  have eI : ∀ k, ¬ (39 ≤ k ∧ k ≤ 42) → I' k = I k := f
  obtain ⟨⟨h1, ⟨a1, a2, a3, a4⟩, h3, -, ⟨c1, c2⟩, h6⟩, hZ, hS⟩ := h
  refine ⟨⟨h1, ⟨?_, ?_, ?_, ?_⟩, ?_, hz, ⟨?_, ?_⟩, ?_⟩, ?_, ?_⟩
  · rw [eI 1 (by omega)]; exact a1
  · rw [eI 2 (by omega), eI 3 (by omega), eI 4 (by omega)]; exact a2
  · rw [eI 1 (by omega)]; exact a3
  · rw [eI 1 (by omega)]; exact a4
  · rw [eI 48 (by omega)]; exact h3
  · rw [eI 45 (by omega), eI 46 (by omega)]; exact c1
  · rw [eI 44 (by omega)]; exact c2
  · rw [eI 0 (by omega)]; exact h6
  · unfold Z6; rw [eI 6 (by omega), eI 47 (by omega), eI 18 (by omega)]; exact hZ
  · show _ ∨ SetOK (cc σ.1) (oo σ.1) I' J
    unfold SetOK TieOK WsOK StOK at hS ⊢
    rw [eI 0 (by omega), eI (5 + 1) (by omega), eI (5 + 2) (by omega), eI (5 + 4) (by omega), eI (5 + 5) (by omega), eI (5 + 6) (by omega), eI 5 (by omega), eI 47 (by omega), eI 29 (by omega)]
    exact hS
theorem prs_cg {ln : Nat} {tx tx' : Nat → Int32} (h : ∀ i, i < ln → tx i = tx' i) : prs ln tx = prs ln tx' := by unfold prs; rw [btF_cg h]
theorem BY_cg {ln : Nat} {tx tx' : Nat → Int32} (h : ∀ i, i < ln → tx i = tx' i) (hb : BY ln tx') : BY ln tx := fun i hi => by rw [h i hi]; exact hb i hi
def inBy (x : Int32) : Bool := decide (0 ≤ x.toInt) && decide (x.toInt ≤ 255)
def aType (σ : PS) (x : Int32) : Int32 := if inBy x = true then (if σ.2.2.1.1 = 60 then -4 else nI (σ.2.2.1.1 + 1)) else -2
def sType (σ : PS) (x : Int32) : PS := if inBy x = true ∧ σ.2.2.1.1 ≠ 60 then setL σ (σ.2.2.1.1 + 1, va_up σ.2.2.1.2 σ.2.2.1.1 x) else σ
def Hi (I : ab_I) (J : ab_J) (I' : ab_I) (J' : ab_J) : Prop := ∀ k, 49 ≤ k → I' k = I k ∧ J' k = J k
def Lo (I : ab_I) (J : ab_J) (I' : ab_I) (J' : ab_J) : Prop := ∀ k, k < 49 → I' k = I k ∧ J' k = J k
theorem Hi_cf {I' : ab_I} {J' : ab_J} (h : CF I J I' J') : Hi I J I' J' := fun k hk => ⟨h.1 k (by omega), h.2.2 k hk⟩
theorem Lo_qf {I' : ab_I} {J' : ab_J} (h : QF I J I' J') : Lo I J I' J' := fun k hk => ⟨h.1 k (by omega), h.2.2 k hk⟩
set_option maxRecDepth 100000 in
theorem q43 {z : Nat × (Nat → Int32)} (hz : LCk z I) (hn : z.1 < 60) (hx : inBy x = true) : ∃ I', (LCk (z.1 + 1, va_up z.2 z.1 x) I' ∧ ∀ k, ¬ (39 ≤ k ∧ k ≤ 42) → I' k = I k) ∧ ∀ Q : Option Value → ab_I → ab_J → Prop, Cal 43 [.ref 39, .int x] I J Q ↔ Q none I' J := by
  obtain ⟨b1, b2, b3, b4, b5⟩ := hz
  have hg : ∀ i, i < z.1 + 1 → (va_up (I 40) z.1 x) i = va_up z.2 z.1 x i := by
    intro i hi
    by_cases e : i = z.1
    · subst e; rw [va_up_s, va_up_s]
    · rw [va_up_n _ _ e, va_up_n _ _ e]; exact b4 i (by omega)
  have hby : BY (z.1 + 1) (va_up z.2 z.1 x) := by
    intro i hi
    by_cases e : i = z.1
    · subst e; rw [va_up_s]; unfold inBy at hx; simpa using hx
    · rw [va_up_n _ _ e]; exact b2 i (by omega)
  have e40 : (va_up (va_up I 39 (va_up (I 39) 3 (nI (z.1 + 1)))) 40 (va_up (I 40) z.1 x)) 40 = va_up (I 40) z.1 x := va_up_s _ _ _
  obtain ⟨I1, ⟨⟨f1, f2⟩, f3⟩, hcal⟩ := c45 (I := va_up (va_up I 39 (va_up (I 39) 3 (nI (z.1 + 1)))) 40 (va_up (I 40) z.1 x)) (J := J) (ln := z.1 + 1) (by simp (disch := omega) only [up_ne, va_up_s]) (by omega) (by rw [e40]; exact BY_cg hg hby)
  rw [e40, prs_cg hg] at f3
  refine ⟨I1, ⟨⟨by dsimp only; omega, hby, ?_, ?_, f3⟩, ?_⟩, fun Q => ?_⟩
  · rw [f2]; simp (disch := omega) only [up_ne, va_up_s]
  · intro i hi
    rw [f1 40 (by decide) (by decide) (by decide), e40]
    exact hg i hi
  · intro k hk
    rw [f1 k (by omega) (by omega) (by omega)]
    simp (disch := omega) only [up_ne]
  · have hd : (decide (60 ≤ z.1)) = false := decide_eq_false (by omega)
    rw [en43]
    simp (disch := omega) only [k43_0, k43_1, k43_4, k43_7, k43_8, k43_9, k43_12, k43_13, k43_16, k43_17, k43_18, k43_19, k43_20, k43_23, k43_24, k43_25, k43_28, k43_29, k43_32, Option.toList_some, Option.toList_none, List.cons_append, List.nil_append, nl_i, nl_r, nl_l, nl_n, c42 b3 b1, hd, bI_0, ↓reduceIte, b3, nI_clamp, bnd, ly_40, Nat.reduceLT, true_and, and_true, nI_add, up_ne, up_cm, id_eq, hcal]
theorem nI60 {n : Nat} (h : n ≤ 60) : (nI n = nI 60) = (n = 60) := nIeq (by omega) (by decide)
set_option maxRecDepth 100000 in
theorem q86 (hR : RC σ I J) : ∃ I' J', (RC (sType σ x) I' J' ∧ Hi I J I' J') ∧ ∀ Q : Option Value → ab_I → ab_J → Prop, Cal 86 [.ref 0, .int x] I J Q ↔ Q (some (.int (aType σ x))) I' J' := by
  have hz := hR.1.2.2.2.1
  have b3 := hz.2.2.1
  have b1 := hz.1
  by_cases hb : inBy x = true
  · have hx1 : ¬ x < 0 := by unfold inBy at hb; rw [i_lt, t0]; simp at hb; omega
    have hx2 : x ≤ nI 255 := by unfold inBy at hb; rw [i_le, nI_toInt (by decide)]; simp at hb; omega
    by_cases hn : σ.2.2.1.1 = 60
    · refine ⟨I, J, ⟨?_, fun _ _ => ⟨rfl, rfl⟩⟩, fun Q => ?_⟩
      · rw [show sType σ x = σ from if_neg (fun w => w.2 hn)]; exact hR
      · have hd : (decide (60 ≤ σ.2.2.1.1)) = true := decide_eq_true (by omega)
        rw [en86, show aType σ x = -4 from (if_pos hb).trans (if_pos hn)]
        simp (disch := omega) only [k86_0, k86_1, k86_4, k86_5, k86_8, k86_11, k86_13, k86_14, k86_15, k86_18, k86_21, k86_24, k86_26, k86_27, k86_28, k86_31, k86_32, k86_35, k86_36, k86_39, k86_42, Option.toList_some, Option.toList_none, List.cons_append, List.nil_append, nl_i, nl_r, nl_l, nl_n, hx1, hx2, ↓reduceIte, c42 b3 b1, hd, bI_0, Bool.true_eq_false]
    · obtain ⟨I1, ⟨g1, g2⟩, hcal⟩ := q43 (J := J) (x := x) hz (by omega) hb
      have e3 : I1 39 3 = nI (σ.2.2.1.1 + 1) := g1.2.2.1
      refine ⟨I1, J, ⟨?_, fun k hk => ⟨g2 k (by omega), rfl⟩⟩, fun Q => ?_⟩
      · rw [show sType σ x = _ from if_pos ⟨hb, hn⟩]; exact RC_laws hR g2 g1
      · have hd : (decide (60 ≤ σ.2.2.1.1)) = false := decide_eq_false (by omega)
        rw [en86, show aType σ x = _ from (if_pos hb).trans (if_neg hn)]
        simp (disch := omega) only [k86_0, k86_1, k86_4, k86_5, k86_8, k86_11, k86_13, k86_14, k86_15, k86_18, k86_21, k86_24, k86_26, k86_27, k86_28, k86_31, k86_32, k86_35, k86_36, k86_39, k86_42, Option.toList_some, Option.toList_none, List.cons_append, List.nil_append, nl_i, nl_r, nl_l, nl_n, hx1, hx2, ↓reduceIte, c42 b3 b1, hd, bI_0, hcal, e3]
  · refine ⟨I, J, ⟨?_, fun _ _ => ⟨rfl, rfl⟩⟩, fun Q => ?_⟩
    · rw [show sType σ x = σ from if_neg (fun w => hb w.1)]; exact hR
    · rw [en86, show aType σ x = -2 from if_neg hb]
      by_cases hx1 : x < 0
      · simp (disch := omega) only [k86_0, k86_1, k86_4, k86_5, k86_8, k86_11, k86_13, k86_14, k86_15, k86_18, k86_21, k86_24, k86_26, k86_27, k86_28, k86_31, k86_32, k86_35, k86_36, k86_39, k86_42, Option.toList_some, Option.toList_none, List.cons_append, List.nil_append, nl_i, nl_r, nl_l, nl_n, hx1, ↓reduceIte]
      · have hx2 : ¬ x ≤ nI 255 := by
          unfold inBy at hb
          rw [i_lt, t0] at hx1
          rw [i_le, nI_toInt (by decide)]
          simp at hb
          omega
        simp (disch := omega) only [k86_0, k86_1, k86_4, k86_5, k86_8, k86_11, k86_13, k86_14, k86_15, k86_18, k86_21, k86_24, k86_26, k86_27, k86_28, k86_31, k86_32, k86_35, k86_36, k86_39, k86_42, Option.toList_some, Option.toList_none, List.cons_append, List.nil_append, nl_i, nl_r, nl_l, nl_n, hx1, hx2, ↓reduceIte]
theorem RR_laws {z : Nat × (Nat → Int32)} {I' : ab_I} (h : RR σ I) (f : ∀ k, k ≠ 49 → k ≠ 64 → I' k = I k) (f2 : ∀ j, j ≠ 18 → I' 49 j = I 49 j) (hz : LRk z I') : RR (setL σ z) I' := by
  obtain ⟨⟨h1, ⟨a1, a2, a3⟩, h3, -, ⟨c1, c2⟩, h6⟩, hZ⟩ := h
  refine ⟨⟨h1, ⟨?_, ?_, ?_⟩, ?_, hz, ⟨?_, ?_⟩, ?_⟩, ?_⟩
  · rw [f2 0 (by omega)]; exact a1
  · rw [f 50 (by omega) (by omega), f 51 (by omega) (by omega), f 52 (by omega) (by omega), f 53 (by omega) (by omega)]; exact a2
  · rw [f2 5 (by omega)]; exact a3
  · rw [f 54 (by omega) (by omega)]; exact h3
  · rw [f 70 (by omega) (by omega), f 71 (by omega) (by omega), f 72 (by omega) (by omega)]; exact c1
  · rw [f 73 (by omega) (by omega)]; exact c2
  · rw [f2 40 (by omega)]; exact h6
  · unfold Z55; rw [f 55 (by omega) (by omega), f 56 (by omega) (by omega)]; exact hZ
theorem in255 : (decide ((nI 0).toInt ≤ x.toInt) && decide (x.toInt ≤ (nI 255).toInt)) = inBy x := by rw [nI_toInt (by decide), nI_toInt (by decide)]; rfl
set_option maxRecDepth 100000 in
theorem r158 (hR : RR σ I) : ∃ I' J', (RR (sType σ x) I' ∧ Lo I J I' J') ∧ ∀ Q : Option Value → ab_I → ab_J → Prop, Cal 158 [.ref 49, .int x] I J Q ↔ Q (some (.int (aType σ x))) I' J' := by
  obtain ⟨b1, b2, b3, b4⟩ := hR.1.2.2.2.1
  by_cases hb : inBy x = true
  · by_cases hn : σ.2.2.1.1 = 60
    · refine ⟨I, J, ⟨?_, fun _ _ => ⟨rfl, rfl⟩⟩, fun Q => ?_⟩
      · rw [show sType σ x = σ from if_neg (fun w => w.2 hn)]; exact hR
      · rw [en158, show aType σ x = -4 from (if_pos hb).trans (if_pos hn)]
        simp (disch := omega) only [k158_0, k158_1, k158_2, k158_5, k158_8, k158_11, k158_13, k158_14, k158_15, k158_18, k158_20, k158_23, k158_25, k158_26, k158_27, k158_30, k158_31, k158_34, k158_35, k158_36, k158_37, k158_38, k158_41, k158_42, k158_43, k158_46, k158_47, k158_50, Option.toList_some, Option.toList_none, List.cons_append, List.nil_append, nl_i, nl_r, nl_l, nl_n, c126, in255, hb, bI_0, Bool.true_eq_false, not_false_eq_true, ↓reduceIte, b3, hn, not_true_eq_false]
    · refine ⟨va_up (va_up I 49 (va_up (I 49) 18 (nI (σ.2.2.1.1 + 1)))) 64 (va_up (I 64) σ.2.2.1.1 x), J, ⟨?_, fun k hk => ⟨by simp (disch := omega) only [up_ne], rfl⟩⟩, fun Q => ?_⟩
      · rw [show sType σ x = _ from if_pos ⟨hb, hn⟩]
        refine RR_laws hR (fun k h1 h2 => by rw [va_up_n _ _ h2, va_up_n _ _ h1]) (fun j hj => by simp (disch := omega) only [up_ne, va_up_s]) ⟨by dsimp only; omega, ?_, by simp (disch := omega) only [up_ne, va_up_s], ?_⟩
        · intro i hi
          dsimp only at hi ⊢
          by_cases e : i = σ.2.2.1.1
          · subst e; rw [va_up_s]; unfold inBy at hb; simpa using hb
          · rw [va_up_n _ _ e]; exact b2 i (by omega)
        · intro i hi
          dsimp only at hi ⊢
          rw [va_up_s]
          by_cases e : i = σ.2.2.1.1
          · subst e; rw [va_up_s, va_up_s]
          · rw [va_up_n _ _ e, va_up_n _ _ e]; exact b4 i (by omega)
      · rw [en158, show aType σ x = _ from (if_pos hb).trans (if_neg hn)]
        have e60 : ¬ nI σ.2.2.1.1 = nI 60 := fun w => hn ((nI60 b1).mp w)
        simp (disch := omega) only [k158_0, k158_1, k158_2, k158_5, k158_8, k158_11, k158_13, k158_14, k158_15, k158_18, k158_20, k158_23, k158_25, k158_26, k158_27, k158_30, k158_31, k158_34, k158_35, k158_36, k158_37, k158_38, k158_41, k158_42, k158_43, k158_46, k158_47, k158_50, Option.toList_some, Option.toList_none, List.cons_append, List.nil_append, nl_i, nl_r, nl_l, nl_n, c126, in255, hb, bI_0, Bool.true_eq_false, not_false_eq_true, ↓reduceIte, b3, e60, nI_clamp, bnd, ly_64, Nat.reduceLT, true_and, and_true, nI_add, up_ne, up_cm, id_eq, va_up_s]
  · refine ⟨I, J, ⟨?_, fun _ _ => ⟨rfl, rfl⟩⟩, fun Q => ?_⟩
    · rw [show sType σ x = σ from if_neg (fun w => hb w.1)]; exact hR
    · have hb' : inBy x = false := by simpa using hb
      rw [en158, show aType σ x = -2 from if_neg hb]
      simp (disch := omega) only [k158_0, k158_1, k158_2, k158_5, k158_8, k158_11, k158_13, k158_14, k158_15, k158_18, k158_20, k158_23, k158_25, k158_26, k158_27, k158_30, k158_31, k158_34, k158_35, k158_36, k158_37, k158_38, k158_41, k158_42, k158_43, k158_46, k158_47, k158_50, Option.toList_some, Option.toList_none, List.cons_append, List.nil_append, nl_i, nl_r, nl_l, nl_n, c126, in255, hb', bI_0, not_true_eq_false, ↓reduceIte]
def sWipe (σ : PS) : PS := setL σ (0, σ.2.2.1.2)
set_option maxRecDepth 100000 in
theorem q87 (hR : RC σ I J) : ∃ I' J', (RC (sWipe σ) I' J' ∧ Hi I J I' J') ∧ ∀ Q : Option Value → ab_I → ab_J → Prop, Cal 87 [.ref 0] I J Q ↔ Q (some (.int (nI σ.2.2.1.1))) I' J' := by
  obtain ⟨b1, b2, b3, b4, b5⟩ := hR.1.2.2.2.1
  have e40 : (va_up I 39 (va_up (I 39) 3 (nI 0))) 40 = I 40 := up_ne _ _ (by omega)
  obtain ⟨I1, ⟨⟨f1, f2⟩, f3⟩, hcal⟩ := c45 (I := va_up I 39 (va_up (I 39) 3 (nI 0))) (J := J) (ln := 0) (by simp (disch := omega) only [va_up_s]) (by omega) (fun i hi => by omega)
  rw [prs_cg (tx' := σ.2.2.1.2) (fun i hi => by omega)] at f3
  have g2 : ∀ k, ¬ (39 ≤ k ∧ k ≤ 42) → I1 k = I k := by
    intro k hk
    rw [f1 k (by omega) (by omega) (by omega)]
    simp (disch := omega) only [up_ne]
  refine ⟨I1, J, ⟨RC_laws hR g2 ⟨by dsimp only; omega, fun i hi => by dsimp only at hi; omega, ?_, fun i hi => by dsimp only at hi; omega, f3⟩, fun k hk => ⟨g2 k (by omega), rfl⟩⟩, fun Q => ?_⟩
  · rw [f2]; simp (disch := omega) only [va_up_s]
  · have h44 : ∀ Q : Option Value → ab_I → ab_J → Prop, Cal 44 [.ref 39] I J Q ↔ Q (some (.int (nI σ.2.2.1.1))) I1 J := by
      intro Q
      rw [en44]
      simp (disch := omega) only [k44_0, k44_1, k44_4, k44_5, k44_6, k44_7, k44_10, k44_11, k44_14, k44_15, Option.toList_some, Option.toList_none, List.cons_append, List.nil_append, nl_i, nl_r, nl_l, nl_n, b3, hcal]
    rw [en87]
    simp (disch := omega) only [k87_0, k87_1, k87_4, k87_7, Option.toList_some, Option.toList_none, List.cons_append, List.nil_append, nl_i, nl_r, nl_l, nl_n, h44]
set_option maxRecDepth 100000 in
theorem r159 (hR : RR σ I) : ∃ I' J', (RR (sWipe σ) I' ∧ Lo I J I' J') ∧ ∀ Q : Option Value → ab_I → ab_J → Prop, Cal 159 [.ref 49] I J Q ↔ Q (some (.int (nI σ.2.2.1.1))) I' J' := by
  obtain ⟨b1, b2, b3, b4⟩ := hR.1.2.2.2.1
  refine ⟨va_up I 49 (va_up (I 49) 18 (nI 0)), J, ⟨RR_laws hR (fun k h1 h2 => va_up_n _ _ h1) (fun j hj => by simp (disch := omega) only [up_ne, va_up_s]) ⟨by dsimp only; omega, fun i hi => by dsimp only at hi; omega, by simp (disch := omega) only [va_up_s], fun i hi => by dsimp only at hi; omega⟩, fun k hk => ⟨up_ne _ _ (by omega), rfl⟩⟩, fun Q => ?_⟩
  rw [en159]
  simp (disch := omega) only [k159_0, k159_1, k159_4, k159_5, k159_6, k159_7, k159_10, k159_11, Option.toList_some, Option.toList_none, List.cons_append, List.nil_append, nl_i, nl_r, nl_l, nl_n, b3]
set_option maxRecDepth 100000 in
theorem q88 (hR : RC σ I J) : Cal 88 [.ref 0] I J Q ↔ Q (some (.int (prs σ.2.2.1.1 σ.2.2.1.2).2.2.2)) I J := by
  have e : I 39 6 = _ := hR.1.2.2.2.1.2.2.2.2.2.2.2
  rw [en88]
  simp (disch := omega) only [k88_0, k88_1, k88_4, k88_7, Option.toList_some, Option.toList_none, List.cons_append, List.nil_append, nl_i, nl_r, nl_l, nl_n, e]
/-- the reference reads the grades -/
theorem r163 (h : RRb σ I) : ∃ I', ((RRb σ I' ∧ QF I J I' J ∧ RLOK (prs σ.2.2.1.1 σ.2.2.1.2) I') ∧ ∀ k, k ≠ 49 → k ≠ 65 → k ≠ 66 → I' k = I k) ∧ ∀ Q : Option Value → ab_I → ab_J → Prop, Cal 163 [.ref 49] I J Q ↔ Q (some (.int (prs σ.2.2.1.1 σ.2.2.1.2).2.2.2)) I' J := by
  obtain ⟨b1, b2, b3, b4⟩ := h.2.2.2.1
  obtain ⟨I1, ⟨⟨f1, f2⟩, f3⟩, hcal⟩ := c163 (J := J) b3 b1 (BY_cg b4 b2)
  rw [prs_cg b4] at f3 hcal
  have f : QF I J I1 J := ⟨fun k hk => f1 k (by omega) (by omega) (by omega), fun j hj => f2 j (by omega) (by omega) (by omega), fun _ _ => rfl⟩
  exact ⟨I1, ⟨⟨RRb_qf h f, f, f3⟩, f1⟩, hcal⟩
theorem RL_163 {I' : ab_I} (h : RLd σ I) (hb : RRb σ I') (f : ∀ k, k ≠ 49 → k ≠ 65 → k ≠ 66 → I' k = I k) : RLd σ I' := by
  refine ⟨hb, ?_, ?_, fun k hk => ?_⟩
  · rw [f 55 (by omega) (by omega) (by omega)]; exact h.2.1
  · rw [f 56 (by omega) (by omega) (by omega)]; exact h.2.2.1
  · rw [f 57 (by omega) (by omega) (by omega)]; exact h.2.2.2 k hk
set_option maxRecDepth 100000 in
theorem r164 (hR : RR σ I) : ∃ I' J', (RR σ I' ∧ QF I J I' J') ∧ ∀ Q : Option Value → ab_I → ab_J → Prop, Cal 164 [.ref 49] I J Q ↔ Q (some (.int (prs σ.2.2.1.1 σ.2.2.1.2).2.2.2)) I' J' := by
  obtain ⟨I1, ⟨⟨h1, h2, h3⟩, f1⟩, hcal⟩ := r163 (J := J) hR.1
  refine ⟨I1, J, ⟨⟨h1, ?_⟩, h2⟩, fun Q => ?_⟩
  · intro k hk
    rw [f1 55 (by omega) (by omega) (by omega), f1 56 (by omega) (by omega) (by omega)]
    exact hR.2 k hk
  · rw [en164]
    simp (disch := omega) only [k164_0, k164_1, k164_4, Option.toList_some, Option.toList_none, List.cons_append, List.nil_append, nl_i, nl_r, nl_l, nl_n, hcal]
end LCALL
