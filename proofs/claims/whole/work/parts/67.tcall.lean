/-! CALLS: price, asOf, mark, read -/
def setT (σ : PS) (T : TT) : PS := (T, σ.2)
def setP (σ : PS) (p : Nat → Int32) : PS := (σ.1, p, σ.2.2)
def inP (x : Int32) : Bool := decide (0 ≤ x.toInt) && decide (x.toInt ≤ 99)
def inM (x : Int32) : Bool := decide (-1 ≤ x.toInt) && decide (x.toInt ≤ 100)
def inA (x : Int32) : Bool := decide (0 ≤ x.toInt) && decide (x.toInt ≤ 999)
def inL (T : TT) (x : Int32) : Bool := decide ((la T).toInt ≤ x.toInt) && decide (x.toInt ≤ 999)
def aPrice (σ : PS) (x x1 : Int32) : Int32 := if inr x 4 = true ∧ inP x1 = true then σ.2.1 (tN x) else -2
def sPrice (σ : PS) (x x1 : Int32) : PS := if inr x 4 = true ∧ inP x1 = true then setP σ (va_up σ.2.1 (tN x) x1) else σ
def aAsOf (σ : PS) (x : Int32) : Int32 := if inA x = true then σ.1.2.2.2.2 else -2
def sAsOf (σ : PS) (x : Int32) : PS := if inA x = true then setT σ (σ.1.1, σ.1.2.1, σ.1.2.2.1, σ.1.2.2.2.1, x) else σ
def mOK (T : TT) (x x1 x2 x3 : Int32) : Bool := inr x 12 && inr x1 4 && inM x2 && inL T x3
def aMark (T : TT) (x x1 x2 x3 : Int32) : Int32 := if mOK T x x1 x2 x3 = true then (if T.1 = 100 then -4 else nI (T.1 + 1)) else -2
def addT (T : TT) (x x1 x2 x3 : Int32) : TT := (T.1 + 1, va_up T.2.1 T.1 (4 * tN x + tN x1), va_up T.2.2.1 T.1 x2, va_up T.2.2.2.1 T.1 x3, T.2.2.2.2)
def sMark (T : TT) (x x1 x2 x3 : Int32) : TT := if mOK T x x1 x2 x3 = true ∧ T.1 ≠ 100 then addT T x x1 x2 x3 else T
theorem TOK_add {T : TT} {x x1 x2 x3 : Int32} (h : TOK T) (ho : mOK T x x1 x2 x3 = true) (hn : T.1 ≠ 100) : TOK (addT T x x1 x2 x3) := by
  unfold mOK at ho
  simp only [Bool.and_eq_true] at ho
  obtain ⟨⟨⟨o1, o2⟩, o3⟩, o4⟩ := ho
  obtain ⟨s, hs, rfl⟩ := inr_nI o1
  obtain ⟨m, hm, rfl⟩ := inr_nI o2
  refine ⟨?_, fun i hi => ?_⟩
  · have := h.1; show T.1 + 1 ≤ 100; omega
  · show va_up T.2.1 T.1 (4 * tN (nI s) + tN (nI m)) i < 48 ∧ (va_up T.2.2.1 T.1 x2 i = -1 ∨ ∃ v, v ≤ 100 ∧ va_up T.2.2.1 T.1 x2 i = nI v)
    have hi' : i < T.1 + 1 := hi
    by_cases e : i = T.1
    · subst e
      rw [va_up_s, va_up_s, tN_nI (by omega), tN_nI (by omega)]
      refine ⟨by omega, ?_⟩
      unfold inM at o3
      simp at o3
      by_cases q : x2 = -1
      · exact Or.inl q
      · refine Or.inr ⟨x2.toInt.toNat, by omega, ?_⟩
        have : x2.toInt ≠ -1 := fun w => q (i_eq.mpr (by rw [w]; decide))
        rw [i_eq, nI_toInt (by omega)]
        omega
    · rw [va_up_n _ _ e, va_up_n _ _ e]
      exact h.2 i (by omega)
theorem la_add {T : TT} {x x1 x2 x3 : Int32} : la (addT T x x1 x2 x3) = x3 := by
  unfold la addT
  dsimp only
  rw [if_neg (by omega), Nat.add_sub_cancel, va_up_s]
section TCALL
variable {I : ab_I} {J : ab_J} {Q : Option Value → ab_I → ab_J → Prop} {σ : PS} {x x1 x2 x3 : Int32}
theorem inP_c : inP x = true ↔ ¬ x < 0 ∧ x ≤ nI 99 := by
  unfold inP
  rw [i_lt, i_le, t0, nI_toInt (by decide)]
  simp
theorem inA_c : inA x = true ↔ ¬ x < 0 ∧ x ≤ nI 999 := by
  unfold inA
  rw [i_lt, i_le, t0, nI_toInt (by decide)]
  simp
theorem inM_c : inM x = true ↔ ¬ x < -1 ∧ ¬ nI 100 < x := by
  unfold inM
  rw [i_lt, i_lt, tm1, nI_toInt (by decide)]
  simp
set_option maxRecDepth 100000 in
theorem q96 (hR : RC σ I J) : ∃ I' J', (RC (sPrice σ x x1) I' J' ∧ Hi I J I' J') ∧ ∀ Q : Option Value → ab_I → ab_J → Prop, Cal 96 [.ref 0, .int x, .int x1] I J Q ↔ Q (some (.int (aPrice σ x x1))) I' J' := by
  by_cases hb : inr x 4 = true ∧ inP x1 = true
  · obtain ⟨m, hm, rfl⟩ := inr_nI hb.1
    obtain ⟨hx1, hx2⟩ := inP_c.mp hb.2
    have e48 := hR.1.2.2.1 m hm
    refine ⟨va_up I 48 (va_up (I 48) m x1), J, ⟨?_, fun k hk => ⟨up_ne _ _ (by omega), rfl⟩⟩, fun Q => ?_⟩
    · rw [show sPrice σ (nI m) x1 = _ from if_pos hb, tN_nI (by omega)]
      have eI : ∀ k, k < 48 → va_up I 48 (va_up (I 48) m x1) k = I k := fun k hk => up_ne _ _ (by omega)
      obtain ⟨⟨h1, ⟨a1, a2, a3, a4⟩, h3, ⟨b1, b2, b3, b4, b5, b6, b7, b8⟩, ⟨c1, c2⟩, h6⟩, hZ, hS⟩ := hR
      refine ⟨⟨h1, ⟨?_, ?_, ?_, ?_⟩, ?_, ⟨b1, b2, ?_, ?_, b5, ?_, ?_, ?_⟩, ⟨?_, ?_⟩, ?_⟩, ?_, ?_⟩
      · rw [eI 1 (by omega)]; exact a1
      · rw [eI 2 (by omega), eI 3 (by omega), eI 4 (by omega)]; exact a2
      · rw [eI 1 (by omega)]; exact a3
      · rw [eI 1 (by omega)]; exact a4
      · intro m' hm'
        show va_up I 48 (va_up (I 48) m x1) 48 m' = va_up σ.2.1 m x1 m'
        rw [va_up_s]
        by_cases e : m' = m
        · subst e; rw [va_up_s, va_up_s]
        · rw [va_up_n _ _ e, va_up_n _ _ e]; exact h3 m' hm'
      · rw [eI 39 (by omega)]; exact b3
      · rw [eI 40 (by omega)]; exact b4
      · rw [eI 39 (by omega)]; exact b6
      · rw [eI 41 (by omega), eI 42 (by omega)]; exact b7
      · rw [eI 39 (by omega)]; exact b8
      · rw [eI 45 (by omega), eI 46 (by omega)]; exact c1
      · rw [eI 44 (by omega)]; exact c2
      · rw [eI 0 (by omega)]; exact h6
      · unfold Z6; rw [eI 6 (by omega), eI 47 (by omega), eI 18 (by omega)]; exact hZ
      · show _ ∨ SetOK (cc σ.1) (oo σ.1) _ J
        unfold SetOK TieOK WsOK StOK at hS ⊢
        rw [eI 0 (by omega), eI (5 + 1) (by omega), eI (5 + 2) (by omega), eI (5 + 4) (by omega), eI (5 + 5) (by omega), eI (5 + 6) (by omega), eI 5 (by omega), eI 47 (by omega), eI 29 (by omega)]
        exact hS
    · rw [en96, show aPrice σ (nI m) x1 = _ from if_pos hb, tN_nI (by omega)]
      simp (disch := omega) only [k96_0, k96_1, k96_4, k96_7, k96_8, k96_11, k96_12, k96_14, k96_17, k96_19, k96_20, k96_21, k96_24, k96_25, k96_26, k96_27, k96_28, k96_31, k96_32, k96_33, k96_34, k96_35, Option.toList_some, Option.toList_none, List.cons_append, List.nil_append, nl_i, nl_r, nl_l, nl_n, c117, hb.1, bI_0, Bool.true_eq_false, hx1, hx2, ↓reduceIte, nI_clamp, bnd, ly_48, Nat.reduceLT, true_and, and_true, e48]
  · refine ⟨I, J, ⟨?_, fun _ _ => ⟨rfl, rfl⟩⟩, fun Q => ?_⟩
    · rw [show sPrice σ x x1 = σ from if_neg hb]; exact hR
    · rw [en96, show aPrice σ x x1 = _ from if_neg hb]
      cases q1 : inr x 4
      · simp only [k96_0, k96_1, k96_4, k96_7, k96_8, k96_11, k96_12, k96_14, k96_17, k96_19, k96_20, k96_21, k96_24, k96_25, k96_26, k96_27, k96_28, k96_31, k96_32, k96_33, k96_34, k96_35, Option.toList_some, Option.toList_none, List.cons_append, List.nil_append, nl_i, nl_r, nl_l, nl_n, c117, q1, bI_0, ↓reduceIte]
      · by_cases hx1 : x1 < 0
        · simp only [k96_0, k96_1, k96_4, k96_7, k96_8, k96_11, k96_12, k96_14, k96_17, k96_19, k96_20, k96_21, k96_24, k96_25, k96_26, k96_27, k96_28, k96_31, k96_32, k96_33, k96_34, k96_35, Option.toList_some, Option.toList_none, List.cons_append, List.nil_append, nl_i, nl_r, nl_l, nl_n, c117, q1, bI_0, Bool.true_eq_false, hx1, ↓reduceIte]
        · by_cases hx2 : x1 ≤ nI 99
          · exact absurd ⟨q1, inP_c.mpr ⟨hx1, hx2⟩⟩ hb
          · simp only [k96_0, k96_1, k96_4, k96_7, k96_8, k96_11, k96_12, k96_14, k96_17, k96_19, k96_20, k96_21, k96_24, k96_25, k96_26, k96_27, k96_28, k96_31, k96_32, k96_33, k96_34, k96_35, Option.toList_some, Option.toList_none, List.cons_append, List.nil_append, nl_i, nl_r, nl_l, nl_n, c117, q1, bI_0, Bool.true_eq_false, hx1, hx2, ↓reduceIte]
theorem in99 : (decide ((nI 0).toInt ≤ x.toInt) && decide (x.toInt ≤ (nI 99).toInt)) = inP x := by rw [nI_toInt (by decide), nI_toInt (by decide)]; rfl
theorem in999 : (decide ((nI 0).toInt ≤ x.toInt) && decide (x.toInt ≤ (nI 999).toInt)) = inA x := by rw [nI_toInt (by decide), nI_toInt (by decide)]; rfl
theorem in100 : (decide ((-1 : Int32).toInt ≤ x.toInt) && decide (x.toInt ≤ (nI 100).toInt)) = inM x := by rw [tm1, nI_toInt (by decide)]; rfl
theorem inLr {T : TT} : (decide ((la T).toInt ≤ x.toInt) && decide (x.toInt ≤ (nI 999).toInt)) = inL T x := by rw [nI_toInt (by decide)]; rfl
theorem inLc {T : TT} : (decide ((la T).toInt ≤ x.toInt) && decide (x.toInt ≤ 999)) = inL T x := rfl
set_option maxRecDepth 100000 in
theorem r178 (hR : RR σ I) : ∃ I' J', (RR (sPrice σ x x1) I' ∧ Lo I J I' J') ∧ ∀ Q : Option Value → ab_I → ab_J → Prop, Cal 178 [.ref 49, .int x, .int x1] I J Q ↔ Q (some (.int (aPrice σ x x1))) I' J' := by
  by_cases hb : inr x 4 = true ∧ inP x1 = true
  · obtain ⟨m, hm, rfl⟩ := inr_nI hb.1
    have e54 := hR.1.2.2.1 m hm
    refine ⟨va_up I 54 (va_up (I 54) m x1), J, ⟨?_, fun k hk => ⟨up_ne _ _ (by omega), rfl⟩⟩, fun Q => ?_⟩
    · rw [show sPrice σ (nI m) x1 = _ from if_pos hb, tN_nI (by omega)]
      have eI : ∀ k, k ≠ 54 → va_up I 54 (va_up (I 54) m x1) k = I k := fun k hk => va_up_n _ _ hk
      obtain ⟨⟨h1, ⟨a1, a2, a3⟩, h3, ⟨b1, b2, b3, b4⟩, ⟨c1, c2⟩, h6⟩, hZ⟩ := hR
      refine ⟨⟨h1, ⟨?_, ?_, ?_⟩, ?_, ⟨b1, b2, ?_, ?_⟩, ⟨?_, ?_⟩, ?_⟩, ?_⟩
      · rw [eI 49 (by omega)]; exact a1
      · rw [eI 50 (by omega), eI 51 (by omega), eI 52 (by omega), eI 53 (by omega)]; exact a2
      · rw [eI 49 (by omega)]; exact a3
      · intro m' hm'
        show va_up I 54 (va_up (I 54) m x1) 54 m' = va_up σ.2.1 m x1 m'
        rw [va_up_s]
        by_cases e : m' = m
        · subst e; rw [va_up_s, va_up_s]
        · rw [va_up_n _ _ e, va_up_n _ _ e]; exact h3 m' hm'
      · rw [eI 49 (by omega)]; exact b3
      · rw [eI 64 (by omega)]; exact b4
      · rw [eI 70 (by omega), eI 71 (by omega), eI 72 (by omega)]; exact c1
      · rw [eI 73 (by omega)]; exact c2
      · rw [eI 49 (by omega)]; exact h6
      · unfold Z55; rw [eI 55 (by omega), eI 56 (by omega)]; exact hZ
    · rw [en178, show aPrice σ (nI m) x1 = _ from if_pos hb, tN_nI (by omega)]
      simp (disch := omega) only [k178_0, k178_1, k178_4, k178_7, k178_8, k178_9, k178_11, k178_14, k178_17, k178_19, k178_20, k178_21, k178_24, k178_25, k178_26, k178_27, k178_28, k178_31, k178_32, k178_33, k178_34, k178_35, Option.toList_some, Option.toList_none, List.cons_append, List.nil_append, nl_i, nl_r, nl_l, nl_n, c132, c126, in99, hb.1, hb.2, bI_0, Bool.true_eq_false, not_false_eq_true, ↓reduceIte, nI_clamp, bnd, ly_54, Nat.reduceLT, true_and, and_true, e54]
  · refine ⟨I, J, ⟨?_, fun _ _ => ⟨rfl, rfl⟩⟩, fun Q => ?_⟩
    · rw [show sPrice σ x x1 = σ from if_neg hb]; exact hR
    · rw [en178, show aPrice σ x x1 = _ from if_neg hb]
      cases q1 : inr x 4
      · simp only [k178_0, k178_1, k178_4, k178_7, k178_8, k178_9, k178_11, k178_14, k178_17, k178_19, k178_20, k178_21, k178_24, k178_25, k178_26, k178_27, k178_28, k178_31, k178_32, k178_33, k178_34, k178_35, Option.toList_some, Option.toList_none, List.cons_append, List.nil_append, nl_i, nl_r, nl_l, nl_n, c132, q1, bI_0, ↓reduceIte]
      · cases q2 : inP x1
        · simp only [k178_0, k178_1, k178_4, k178_7, k178_8, k178_9, k178_11, k178_14, k178_17, k178_19, k178_20, k178_21, k178_24, k178_25, k178_26, k178_27, k178_28, k178_31, k178_32, k178_33, k178_34, k178_35, Option.toList_some, Option.toList_none, List.cons_append, List.nil_append, nl_i, nl_r, nl_l, nl_n, c132, c126, in99, q1, q2, bI_0, Bool.true_eq_false, not_true_eq_false, ↓reduceIte]
        · exact absurd ⟨q1, q2⟩ hb
/-- tellings change: the balance is stale -/
theorem RC_tell {T : TT} {I' : ab_I} {J' : ab_J} (h : RC σ I J) (f : ∀ k, 4 < k → I' k = I k) (f0 : ∀ j, j ≠ 10 → I' 0 j = I 0 j) (hs : I' 0 10 = nI 1) (hT : TOK T) (hk : TCk T I') : RC (setT σ T) I' J' := by
  obtain ⟨⟨h1, -, h3, ⟨b1, b2, b3, b4, b5, b6, b7, b8⟩, ⟨c1, c2⟩, h6⟩, hZ, hS⟩ := h
  refine ⟨⟨hT, hk, ?_, ⟨b1, b2, ?_, ?_, b5, ?_, ?_, ?_⟩, ⟨?_, ?_⟩, ?_⟩, ?_, Or.inl hs⟩
  · rw [f 48 (by omega)]; exact h3
  · rw [f 39 (by omega)]; exact b3
  · rw [f 40 (by omega)]; exact b4
  · rw [f 39 (by omega)]; exact b6
  · rw [f 41 (by omega), f 42 (by omega)]; exact b7
  · rw [f 39 (by omega)]; exact b8
  · rw [f 45 (by omega), f 46 (by omega)]; exact c1
  · rw [f 44 (by omega)]; exact c2
  · rw [f0 11 (by omega)]; exact h6
  · unfold Z6; rw [f 6 (by omega), f 47 (by omega), f 18 (by omega)]; exact hZ
theorem RR_tell {T : TT} {I' : ab_I} (h : RR σ I) (f : ∀ k, 53 < k → I' k = I k) (f0 : ∀ j, j ≠ 0 → j ≠ 5 → I' 49 j = I 49 j) (hT : TOK T) (hk : TRk T I') : RR (setT σ T) I' := by
  obtain ⟨⟨h1, -, h3, ⟨b1, b2, b3, b4⟩, ⟨c1, c2⟩, h6⟩, hZ⟩ := h
  refine ⟨⟨hT, hk, ?_, ⟨b1, b2, ?_, ?_⟩, ⟨?_, ?_⟩, ?_⟩, ?_⟩
  · rw [f 54 (by omega)]; exact h3
  · rw [f0 18 (by omega) (by omega)]; exact b3
  · rw [f 64 (by omega)]; exact b4
  · rw [f 70 (by omega), f 71 (by omega), f 72 (by omega)]; exact c1
  · rw [f 73 (by omega)]; exact c2
  · rw [f0 40 (by omega) (by omega)]; exact h6
  · unfold Z55; rw [f 55 (by omega), f 56 (by omega)]; exact hZ
set_option maxRecDepth 100000 in
theorem q78 (hR : RC σ I J) : ∃ I' J', (RC (sAsOf σ x) I' J' ∧ Hi I J I' J') ∧ ∀ Q : Option Value → ab_I → ab_J → Prop, Cal 78 [.ref 0, .int x] I J Q ↔ Q (some (.int (aAsOf σ x))) I' J' := by
  by_cases hb : inA x = true
  · obtain ⟨hx1, hx2⟩ := inA_c.mp hb
    obtain ⟨t1, t2, t3, t4⟩ := hR.1.2.1
    refine ⟨va_up (va_up I 0 (va_up (I 0) 10 (nI 1))) 1 (va_up (I 1) 5 x), J, ⟨?_, fun k hk => ⟨by simp (disch := omega) only [up_ne], rfl⟩⟩, fun Q => ?_⟩
    · rw [show sAsOf σ x = _ from if_pos hb]
      refine RC_tell hR (fun k hk => by simp (disch := omega) only [up_ne]) (fun j hj => by simp (disch := omega) only [up_ne, va_up_s]) (by simp (disch := omega) only [up_ne, va_up_s]) hR.1.1 ⟨?_, ?_, ?_, ?_⟩
      · simp (disch := omega) only [up_ne, va_up_s]; exact t1
      · simp (disch := omega) only [up_ne]; exact t2
      · simp (disch := omega) only [up_ne, va_up_s]; exact t3
      · simp (disch := omega) only [va_up_s]
    · rw [en78, show aAsOf σ x = _ from if_pos hb]
      simp (disch := omega) only [k78_0, k78_1, k78_4, k78_5, k78_8, k78_11, k78_13, k78_14, k78_15, k78_18, k78_21, k78_22, k78_23, k78_26, k78_27, k78_30, k78_31, k78_32v0, k78_32v1, k78_35, k78_36, Option.toList_some, Option.toList_none, List.cons_append, List.nil_append, nl_i, nl_r, nl_l, nl_n, hx1, hx2, ↓reduceIte, t4, up_cm, id_eq, up_ne]
  · refine ⟨I, J, ⟨?_, fun _ _ => ⟨rfl, rfl⟩⟩, fun Q => ?_⟩
    · rw [show sAsOf σ x = σ from if_neg hb]; exact hR
    · rw [en78, show aAsOf σ x = _ from if_neg hb]
      by_cases hx1 : x < 0
      · simp only [k78_0, k78_1, k78_4, k78_5, k78_8, k78_11, k78_13, k78_14, k78_15, k78_18, k78_21, k78_22, k78_23, k78_26, k78_27, k78_30, k78_31, k78_32v0, k78_32v1, k78_35, k78_36, Option.toList_some, Option.toList_none, List.cons_append, List.nil_append, nl_i, nl_r, nl_l, nl_n, hx1, ↓reduceIte]
      · by_cases hx2 : x ≤ nI 999
        · exact absurd (inA_c.mpr ⟨hx1, hx2⟩) hb
        · simp only [k78_0, k78_1, k78_4, k78_5, k78_8, k78_11, k78_13, k78_14, k78_15, k78_18, k78_21, k78_22, k78_23, k78_26, k78_27, k78_30, k78_31, k78_32v0, k78_32v1, k78_35, k78_36, Option.toList_some, Option.toList_none, List.cons_append, List.nil_append, nl_i, nl_r, nl_l, nl_n, hx1, hx2, ↓reduceIte]
set_option maxRecDepth 100000 in
theorem r137 (hR : RR σ I) : ∃ I' J', (RR (sAsOf σ x) I' ∧ Lo I J I' J') ∧ ∀ Q : Option Value → ab_I → ab_J → Prop, Cal 137 [.ref 49, .int x] I J Q ↔ Q (some (.int (aAsOf σ x))) I' J' := by
  by_cases hb : inA x = true
  · obtain ⟨t1, t2, t3⟩ := hR.1.2.1
    refine ⟨va_up I 49 (va_up (I 49) 5 x), J, ⟨?_, fun k hk => ⟨up_ne _ _ (by omega), rfl⟩⟩, fun Q => ?_⟩
    · rw [show sAsOf σ x = _ from if_pos hb]
      refine RR_tell hR (fun k hk => by simp (disch := omega) only [up_ne]) (fun j hj1 hj2 => by simp (disch := omega) only [up_ne, va_up_s]) hR.1.1 ⟨?_, ?_, ?_⟩
      · simp (disch := omega) only [up_ne, va_up_s]; exact t1
      · simp (disch := omega) only [up_ne]; exact t2
      · simp (disch := omega) only [va_up_s]
    · rw [en137, show aAsOf σ x = _ from if_pos hb]
      simp (disch := omega) only [k137_0, k137_1, k137_2, k137_5, k137_8, k137_11, k137_13, k137_14, k137_15, k137_18, k137_19, k137_20, k137_21, k137_24, k137_25, Option.toList_some, Option.toList_none, List.cons_append, List.nil_append, nl_i, nl_r, nl_l, nl_n, c126, in999, hb, bI_0, Bool.true_eq_false, not_false_eq_true, ↓reduceIte, t3]
  · refine ⟨I, J, ⟨?_, fun _ _ => ⟨rfl, rfl⟩⟩, fun Q => ?_⟩
    · rw [show sAsOf σ x = σ from if_neg hb]; exact hR
    · have hb' : inA x = false := by simpa using hb
      rw [en137, show aAsOf σ x = _ from if_neg hb]
      simp (disch := omega) only [k137_0, k137_1, k137_2, k137_5, k137_8, k137_11, k137_13, k137_14, k137_15, k137_18, k137_19, k137_20, k137_21, k137_24, k137_25, Option.toList_some, Option.toList_none, List.cons_append, List.nil_append, nl_i, nl_r, nl_l, nl_n, c126, in999, hb', bI_0, not_true_eq_false, ↓reduceIte]
set_option maxRecDepth 100000 in
theorem q76 (hR : RC σ I J) : ∃ I' J', (RC (setT σ (sMark σ.1 x x1 x2 x3)) I' J' ∧ Hi I J I' J') ∧ ∀ Q : Option Value → ab_I → ab_J → Prop, Cal 76 [.ref 0, .int x, .int x1, .int x2, .int x3] I J Q ↔ Q (some (.int (aMark σ.1 x x1 x2 x3))) I' J' := by
  obtain ⟨t1, t2, t3, t4⟩ := hR.1.2.1
  have hn := hR.1.1.1
  have c67' : ∀ Q : Option Value → ab_I → ab_J → Prop, Cal 67 [.ref 1, .int x3] I J Q ↔ Q (some (.int (bI (inL σ.1 x3)))) I J := by
    intro Q
    rw [c67, t3, inLc]
  by_cases hb : mOK σ.1 x x1 x2 x3 = true
  · have hb0 := hb
    unfold mOK at hb0
    simp only [Bool.and_eq_true] at hb0
    obtain ⟨⟨⟨o1, o2⟩, o3⟩, o4⟩ := hb0
    obtain ⟨hx1, hx2⟩ := inM_c.mp o3
    obtain ⟨s, hs, rfl⟩ := inr_nI o1
    obtain ⟨m, hm, rfl⟩ := inr_nI o2
    by_cases hf : σ.1.1 = 100
    · refine ⟨I, J, ⟨?_, fun _ _ => ⟨rfl, rfl⟩⟩, fun Q => ?_⟩
      · rw [show sMark σ.1 (nI s) (nI m) x2 x3 = σ.1 from if_neg (fun w => w.2 hf)]; exact hR
      · have hd : decide (100 ≤ σ.1.1) = true := decide_eq_true (by omega)
        rw [en76, show aMark σ.1 (nI s) (nI m) x2 x3 = _ from (if_pos hb).trans (if_pos hf)]
        simp (disch := omega) only [k76_0, k76_1, k76_4, k76_7, k76_8, k76_11, k76_14, k76_15, k76_16, k76_19, k76_20, k76_22, k76_25, k76_26, k76_29, k76_31, k76_34, k76_37, k76_39, k76_40, k76_41, k76_44, k76_47, k76_50, k76_52, k76_53, k76_54, k76_57, k76_58, k76_59, k76_60, k76_61, k76_62, k76_63, k76_65, k76_68, k76_69, k76_70v0, k76_70v1, k76_73, k76_74, k76_77, k76_80, Option.toList_some, Option.toList_none, List.cons_append, List.nil_append, nl_i, nl_r, nl_l, nl_n, c116, c117, o1, o2, hx1, hx2, c67', o4, bI_0, Bool.true_eq_false, not_false_eq_true, ↓reduceIte, c68 t1 hn, hd]
    · refine ⟨va_up (va_up (va_up (va_up (va_up I 0 (va_up (I 0) 10 (nI 1))) 1 (va_up (va_up (I 1) 3 (nI (σ.1.1 + 1))) 4 x3)) 2 (va_up (I 2) σ.1.1 (nI (4 * s + m)))) 3 (va_up (I 3) σ.1.1 x2)) 4 (va_up (I 4) σ.1.1 x3), J, ⟨?_, fun k hk => ⟨by simp (disch := omega) only [up_ne], rfl⟩⟩, fun Q => ?_⟩
      · rw [show sMark σ.1 (nI s) (nI m) x2 x3 = _ from if_pos ⟨hb, hf⟩]
        refine RC_tell hR (fun k hk => by simp (disch := omega) only [up_ne]) (fun j hj => by simp (disch := omega) only [up_ne, va_up_s]) (by simp (disch := omega) only [up_ne, va_up_s]) (TOK_add hR.1.1 hb hf) ⟨?_, fun i hi => ?_, ?_, ?_⟩
        · simp (disch := omega) only [up_ne, va_up_s]; rfl
        · have hi' : i < σ.1.1 + 1 := hi
          simp (disch := omega) only [up_ne, va_up_s]
          show va_up (I 2) σ.1.1 (nI (4 * s + m)) i = nI (va_up σ.1.2.1 σ.1.1 (4 * tN (nI s) + tN (nI m)) i) ∧ va_up (I 3) σ.1.1 x2 i = va_up σ.1.2.2.1 σ.1.1 x2 i ∧ va_up (I 4) σ.1.1 x3 i = va_up σ.1.2.2.2.1 σ.1.1 x3 i
          by_cases e : i = σ.1.1
          · subst e
            rw [va_up_s, va_up_s, va_up_s, va_up_s, va_up_s, va_up_s, tN_nI (by omega), tN_nI (by omega)]
            exact ⟨rfl, rfl, rfl⟩
          · rw [va_up_n _ _ e, va_up_n _ _ e, va_up_n _ _ e, va_up_n _ _ e, va_up_n _ _ e, va_up_n _ _ e]
            exact t2 i (by omega)
        · rw [la_add]; simp (disch := omega) only [up_ne, va_up_s]
        · simp (disch := omega) only [up_ne, va_up_s]; exact t4
      · have hd : decide (100 ≤ σ.1.1) = false := decide_eq_false (by omega)
        rw [en76, show aMark σ.1 (nI s) (nI m) x2 x3 = _ from (if_pos hb).trans (if_neg hf)]
        simp (disch := omega) only [k76_0, k76_1, k76_4, k76_7, k76_8, k76_11, k76_14, k76_15, k76_16, k76_19, k76_20, k76_22, k76_25, k76_26, k76_29, k76_31, k76_34, k76_37, k76_39, k76_40, k76_41, k76_44, k76_47, k76_50, k76_52, k76_53, k76_54, k76_57, k76_58, k76_59, k76_60, k76_61, k76_62, k76_63, k76_65, k76_68, k76_69, k76_70v0, k76_70v1, k76_73, k76_74, k76_77, k76_80, Option.toList_some, Option.toList_none, List.cons_append, List.nil_append, nl_i, nl_r, nl_l, nl_n, c116, c117, o1, o2, hx1, hx2, c67', o4, bI_0, Bool.true_eq_false, not_false_eq_true, ↓reduceIte, c68 t1 hn, hd, pk_mul, nI_add, c69 t1 (show σ.1.1 < 100 by omega), up_ne, va_up_s, up_cm, id_eq]
  · refine ⟨I, J, ⟨?_, fun _ _ => ⟨rfl, rfl⟩⟩, fun Q => ?_⟩
    · rw [show sMark σ.1 x x1 x2 x3 = σ.1 from if_neg (fun w => hb w.1)]; exact hR
    · rw [en76, show aMark σ.1 x x1 x2 x3 = _ from if_neg hb]
      cases q1 : inr x 12
      · simp only [k76_0, k76_1, k76_4, k76_7, k76_8, k76_11, k76_14, k76_15, k76_16, k76_19, k76_20, k76_22, k76_25, k76_26, k76_29, k76_31, k76_34, k76_37, k76_39, k76_40, k76_41, k76_44, k76_47, k76_50, k76_52, k76_53, k76_54, k76_57, k76_58, k76_59, k76_60, k76_61, k76_62, k76_63, k76_65, k76_68, k76_69, k76_70v0, k76_70v1, k76_73, k76_74, k76_77, k76_80, Option.toList_some, Option.toList_none, List.cons_append, List.nil_append, nl_i, nl_r, nl_l, nl_n, c116, q1, bI_0, ↓reduceIte]
      · cases q2 : inr x1 4
        · simp only [k76_0, k76_1, k76_4, k76_7, k76_8, k76_11, k76_14, k76_15, k76_16, k76_19, k76_20, k76_22, k76_25, k76_26, k76_29, k76_31, k76_34, k76_37, k76_39, k76_40, k76_41, k76_44, k76_47, k76_50, k76_52, k76_53, k76_54, k76_57, k76_58, k76_59, k76_60, k76_61, k76_62, k76_63, k76_65, k76_68, k76_69, k76_70v0, k76_70v1, k76_73, k76_74, k76_77, k76_80, Option.toList_some, Option.toList_none, List.cons_append, List.nil_append, nl_i, nl_r, nl_l, nl_n, c116, c117, q1, q2, bI_0, Bool.true_eq_false, ↓reduceIte]
        · by_cases hx1 : x2 < -1
          · simp only [k76_0, k76_1, k76_4, k76_7, k76_8, k76_11, k76_14, k76_15, k76_16, k76_19, k76_20, k76_22, k76_25, k76_26, k76_29, k76_31, k76_34, k76_37, k76_39, k76_40, k76_41, k76_44, k76_47, k76_50, k76_52, k76_53, k76_54, k76_57, k76_58, k76_59, k76_60, k76_61, k76_62, k76_63, k76_65, k76_68, k76_69, k76_70v0, k76_70v1, k76_73, k76_74, k76_77, k76_80, Option.toList_some, Option.toList_none, List.cons_append, List.nil_append, nl_i, nl_r, nl_l, nl_n, c116, c117, q1, q2, bI_0, Bool.true_eq_false, hx1, ↓reduceIte]
          · by_cases hx2 : nI 100 < x2
            · simp only [k76_0, k76_1, k76_4, k76_7, k76_8, k76_11, k76_14, k76_15, k76_16, k76_19, k76_20, k76_22, k76_25, k76_26, k76_29, k76_31, k76_34, k76_37, k76_39, k76_40, k76_41, k76_44, k76_47, k76_50, k76_52, k76_53, k76_54, k76_57, k76_58, k76_59, k76_60, k76_61, k76_62, k76_63, k76_65, k76_68, k76_69, k76_70v0, k76_70v1, k76_73, k76_74, k76_77, k76_80, Option.toList_some, Option.toList_none, List.cons_append, List.nil_append, nl_i, nl_r, nl_l, nl_n, c116, c117, q1, q2, bI_0, Bool.true_eq_false, hx1, hx2, ↓reduceIte]
            · cases q4 : inL σ.1 x3
              · simp only [k76_0, k76_1, k76_4, k76_7, k76_8, k76_11, k76_14, k76_15, k76_16, k76_19, k76_20, k76_22, k76_25, k76_26, k76_29, k76_31, k76_34, k76_37, k76_39, k76_40, k76_41, k76_44, k76_47, k76_50, k76_52, k76_53, k76_54, k76_57, k76_58, k76_59, k76_60, k76_61, k76_62, k76_63, k76_65, k76_68, k76_69, k76_70v0, k76_70v1, k76_73, k76_74, k76_77, k76_80, Option.toList_some, Option.toList_none, List.cons_append, List.nil_append, nl_i, nl_r, nl_l, nl_n, c116, c117, q1, q2, bI_0, Bool.true_eq_false, hx1, hx2, c67', q4, not_true_eq_false, ↓reduceIte]
              · exact absurd (by unfold mOK; rw [q1, q2, q4, inM_c.mpr ⟨hx1, hx2⟩]; rfl) hb
set_option maxRecDepth 100000 in
theorem r134 (hR : RR σ I) : ∃ I' J', (RR (setT σ (sMark σ.1 x x1 x2 x3)) I' ∧ Lo I J I' J') ∧ ∀ Q : Option Value → ab_I → ab_J → Prop, Cal 134 [.ref 49, .int x, .int x1, .int x2, .int x3] I J Q ↔ Q (some (.int (aMark σ.1 x x1 x2 x3))) I' J' := by
  obtain ⟨t1, t2, t3⟩ := hR.1.2.1
  have hn := hR.1.1.1
  have c133' : ∀ Q : Option Value → ab_I → ab_J → Prop, Cal 133 [.ref 49] I J Q ↔ Q (some (.int (la σ.1))) I J := by
    intro Q
    rw [c133 t1 hn]
    unfold la
    by_cases q : σ.1.1 = 0
    · rw [if_pos q, if_pos q]
    · rw [if_neg q, if_neg q, (t2 (σ.1.1 - 1) (by omega)).2.2.2]
  by_cases hb : mOK σ.1 x x1 x2 x3 = true
  · have hb0 := hb
    unfold mOK at hb0
    simp only [Bool.and_eq_true] at hb0
    obtain ⟨⟨⟨o1, o2⟩, o3⟩, o4⟩ := hb0
    obtain ⟨s, hs, rfl⟩ := inr_nI o1
    obtain ⟨m, hm, rfl⟩ := inr_nI o2
    by_cases hf : σ.1.1 = 100
    · refine ⟨I, J, ⟨?_, fun _ _ => ⟨rfl, rfl⟩⟩, fun Q => ?_⟩
      · rw [show sMark σ.1 (nI s) (nI m) x2 x3 = σ.1 from if_neg (fun w => w.2 hf)]; exact hR
      · rw [en134, show aMark σ.1 (nI s) (nI m) x2 x3 = _ from (if_pos hb).trans (if_pos hf)]
        simp (disch := omega) only [k134_0, k134_1, k134_4, k134_7, k134_8, k134_11, k134_14, k134_15, k134_16, k134_18, k134_21, k134_24, k134_26, k134_27, k134_30, k134_33, k134_36, k134_39, k134_41, k134_42, k134_43, k134_46, k134_48, k134_51, k134_53, k134_54, k134_55, k134_58, k134_59, k134_62, k134_63, k134_64, k134_65, k134_68, k134_69, k134_72, k134_73, k134_74, k134_75, k134_78, k134_79, k134_82, k134_83, k134_84, k134_85, k134_88, k134_89, k134_92, k134_94, k134_95, k134_96, k134_97, k134_100, k134_101, k134_102, k134_105, k134_106, k134_109, Option.toList_some, Option.toList_none, List.cons_append, List.nil_append, nl_i, nl_r, nl_l, nl_n, c131, c132, c126, in100, c133', inLr, o1, o2, o3, o4, bI_0, Bool.true_eq_false, not_false_eq_true, not_true_eq_false, ↓reduceIte, t1, hf]
    · have e100 : ¬ nI σ.1.1 = nI 100 := fun w => hf ((nI_eq (by omega) (by decide)).mp w)
      refine ⟨va_up (va_up (va_up (va_up (va_up I 49 (va_up (I 49) 0 (nI (σ.1.1 + 1)))) 50 (va_up (I 50) σ.1.1 (nI s))) 51 (va_up (I 51) σ.1.1 (nI m))) 52 (va_up (I 52) σ.1.1 x2)) 53 (va_up (I 53) σ.1.1 x3), J, ⟨?_, fun k hk => ⟨by simp (disch := omega) only [up_ne], rfl⟩⟩, fun Q => ?_⟩
      · rw [show sMark σ.1 (nI s) (nI m) x2 x3 = _ from if_pos ⟨hb, hf⟩]
        refine RR_tell hR (fun k hk => by simp (disch := omega) only [up_ne]) (fun j hj hj2 => by simp (disch := omega) only [up_ne, va_up_s]) (TOK_add hR.1.1 hb hf) ⟨?_, fun i hi => ?_, ?_⟩
        · simp (disch := omega) only [up_ne, va_up_s]; rfl
        · have hi' : i < σ.1.1 + 1 := hi
          simp (disch := omega) only [up_ne, va_up_s]
          show va_up (I 50) σ.1.1 (nI s) i = nI (va_up σ.1.2.1 σ.1.1 (4 * tN (nI s) + tN (nI m)) i / 4) ∧ va_up (I 51) σ.1.1 (nI m) i = nI (va_up σ.1.2.1 σ.1.1 (4 * tN (nI s) + tN (nI m)) i % 4) ∧ va_up (I 52) σ.1.1 x2 i = va_up σ.1.2.2.1 σ.1.1 x2 i ∧ va_up (I 53) σ.1.1 x3 i = va_up σ.1.2.2.2.1 σ.1.1 x3 i
          by_cases e : i = σ.1.1
          · subst e
            rw [va_up_s, va_up_s, va_up_s, va_up_s, va_up_s, va_up_s, va_up_s, tN_nI (by omega), tN_nI (by omega), show (4 * s + m) / 4 = s by omega, show (4 * s + m) % 4 = m by omega]
            exact ⟨rfl, rfl, rfl, rfl⟩
          · rw [va_up_n _ _ e, va_up_n _ _ e, va_up_n _ _ e, va_up_n _ _ e, va_up_n _ _ e, va_up_n _ _ e, va_up_n _ _ e]
            exact t2 i (by omega)
        · simp (disch := omega) only [up_ne, va_up_s]; exact t3
      · rw [en134, show aMark σ.1 (nI s) (nI m) x2 x3 = _ from (if_pos hb).trans (if_neg hf)]
        simp (disch := omega) only [k134_0, k134_1, k134_4, k134_7, k134_8, k134_11, k134_14, k134_15, k134_16, k134_18, k134_21, k134_24, k134_26, k134_27, k134_30, k134_33, k134_36, k134_39, k134_41, k134_42, k134_43, k134_46, k134_48, k134_51, k134_53, k134_54, k134_55, k134_58, k134_59, k134_62, k134_63, k134_64, k134_65, k134_68, k134_69, k134_72, k134_73, k134_74, k134_75, k134_78, k134_79, k134_82, k134_83, k134_84, k134_85, k134_88, k134_89, k134_92, k134_94, k134_95, k134_96, k134_97, k134_100, k134_101, k134_102, k134_105, k134_106, k134_109, Option.toList_some, Option.toList_none, List.cons_append, List.nil_append, nl_i, nl_r, nl_l, nl_n, c131, c132, c126, in100, c133', inLr, o1, o2, o3, o4, bI_0, Bool.true_eq_false, not_false_eq_true, not_true_eq_false, ↓reduceIte, t1, e100, nI_clamp, bnd, ly_50, ly_51, ly_52, ly_53, Nat.reduceLT, true_and, and_true, nI_add, up_ne, va_up_s, up_cm, id_eq]
  · refine ⟨I, J, ⟨?_, fun _ _ => ⟨rfl, rfl⟩⟩, fun Q => ?_⟩
    · rw [show sMark σ.1 x x1 x2 x3 = σ.1 from if_neg (fun w => hb w.1)]; exact hR
    · rw [en134, show aMark σ.1 x x1 x2 x3 = _ from if_neg hb]
      cases q1 : inr x 12
      · simp only [k134_0, k134_1, k134_4, k134_7, k134_8, k134_11, k134_14, k134_15, k134_16, k134_18, k134_21, k134_24, k134_26, k134_27, k134_30, k134_33, k134_36, k134_39, k134_41, k134_42, k134_43, k134_46, k134_48, k134_51, k134_53, k134_54, k134_55, k134_58, k134_59, k134_62, k134_63, k134_64, k134_65, k134_68, k134_69, k134_72, k134_73, k134_74, k134_75, k134_78, k134_79, k134_82, k134_83, k134_84, k134_85, k134_88, k134_89, k134_92, k134_94, k134_95, k134_96, k134_97, k134_100, k134_101, k134_102, k134_105, k134_106, k134_109, Option.toList_some, Option.toList_none, List.cons_append, List.nil_append, nl_i, nl_r, nl_l, nl_n, c131, q1, bI_0, ↓reduceIte]
      · cases q2 : inr x1 4
        · simp only [k134_0, k134_1, k134_4, k134_7, k134_8, k134_11, k134_14, k134_15, k134_16, k134_18, k134_21, k134_24, k134_26, k134_27, k134_30, k134_33, k134_36, k134_39, k134_41, k134_42, k134_43, k134_46, k134_48, k134_51, k134_53, k134_54, k134_55, k134_58, k134_59, k134_62, k134_63, k134_64, k134_65, k134_68, k134_69, k134_72, k134_73, k134_74, k134_75, k134_78, k134_79, k134_82, k134_83, k134_84, k134_85, k134_88, k134_89, k134_92, k134_94, k134_95, k134_96, k134_97, k134_100, k134_101, k134_102, k134_105, k134_106, k134_109, Option.toList_some, Option.toList_none, List.cons_append, List.nil_append, nl_i, nl_r, nl_l, nl_n, c131, c132, q1, q2, bI_0, Bool.true_eq_false, ↓reduceIte]
        · cases q3 : inM x2
          · simp only [k134_0, k134_1, k134_4, k134_7, k134_8, k134_11, k134_14, k134_15, k134_16, k134_18, k134_21, k134_24, k134_26, k134_27, k134_30, k134_33, k134_36, k134_39, k134_41, k134_42, k134_43, k134_46, k134_48, k134_51, k134_53, k134_54, k134_55, k134_58, k134_59, k134_62, k134_63, k134_64, k134_65, k134_68, k134_69, k134_72, k134_73, k134_74, k134_75, k134_78, k134_79, k134_82, k134_83, k134_84, k134_85, k134_88, k134_89, k134_92, k134_94, k134_95, k134_96, k134_97, k134_100, k134_101, k134_102, k134_105, k134_106, k134_109, Option.toList_some, Option.toList_none, List.cons_append, List.nil_append, nl_i, nl_r, nl_l, nl_n, c131, c132, c126, in100, q1, q2, q3, bI_0, Bool.true_eq_false, ↓reduceIte]
          · cases q4 : inL σ.1 x3
            · simp only [k134_0, k134_1, k134_4, k134_7, k134_8, k134_11, k134_14, k134_15, k134_16, k134_18, k134_21, k134_24, k134_26, k134_27, k134_30, k134_33, k134_36, k134_39, k134_41, k134_42, k134_43, k134_46, k134_48, k134_51, k134_53, k134_54, k134_55, k134_58, k134_59, k134_62, k134_63, k134_64, k134_65, k134_68, k134_69, k134_72, k134_73, k134_74, k134_75, k134_78, k134_79, k134_82, k134_83, k134_84, k134_85, k134_88, k134_89, k134_92, k134_94, k134_95, k134_96, k134_97, k134_100, k134_101, k134_102, k134_105, k134_106, k134_109, Option.toList_some, Option.toList_none, List.cons_append, List.nil_append, nl_i, nl_r, nl_l, nl_n, c131, c132, c126, in100, c133', inLr, q1, q2, q3, q4, bI_0, Bool.true_eq_false, not_true_eq_false, ↓reduceIte]
            · exact absurd (by unfold mOK; rw [q1, q2, q3, q4]; rfl) hb
set_option maxRecDepth 100000 in
theorem r135 (hR : RR σ I) : ∃ I' J', (RR (setT σ (sMark σ.1 x x1 x2 x3)) I' ∧ Lo I J I' J') ∧ ∀ Q : Option Value → ab_I → ab_J → Prop, Cal 135 [.ref 49, .int x, .int x1, .int x2, .int x3] I J Q ↔ Q (some (.int (aMark σ.1 x x1 x2 x3))) I' J' := by
  obtain ⟨I1, J1, h1, hcal⟩ := r134 (J := J) (x := x) (x1 := x1) (x2 := x2) (x3 := x3) hR
  refine ⟨I1, J1, h1, fun Q => ?_⟩
  rw [en135]
  simp (disch := omega) only [k135_0, k135_1, k135_2, k135_3, k135_4, k135_6, k135_9, Option.toList_some, Option.toList_none, List.cons_append, List.nil_append, nl_i, nl_r, nl_l, nl_n, hcal]
end TCALL
