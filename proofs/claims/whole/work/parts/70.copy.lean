/-! CALLS: copy, write -/
def rgB (σ : PS) (s : Nat) (x x1 : Int32) : Bool := decide (0 ≤ x.toInt ∧ 0 ≤ x1.toInt ∧ x.toInt + x1.toInt ≤ sz σ s)
def aCopy (σ : PS) (x x1 x2 x3 x4 : Int32) : Int32 := if inr x 4 = true ∧ inr x2 4 = true then (if ty σ (tN x) = -1 ∨ ty σ (tN x2) = -1 then -10 - nI 1 else if ¬ ty σ (tN x) = ty σ (tN x2) then -10 - nI 4 else if rgB σ (tN x) x1 x4 = true ∧ rgB σ (tN x2) x3 x4 = true then nI 1 else -10 - nI 2) else -2
def sCopy (σ : PS) (x x1 x2 x3 x4 : Int32) : PS := if inr x 4 = true ∧ inr x2 4 = true then (if ty σ (tN x) = -1 ∨ ty σ (tN x2) = -1 then setF σ (nI 1) else if ¬ ty σ (tN x) = ty σ (tN x2) then setF σ (nI 4) else if rgB σ (tN x) x1 x4 = true ∧ rgB σ (tN x2) x3 x4 = true then setS σ (ty σ, sz σ, va_cpy (it σ) (it σ) (48 * tN x + tN x1) (48 * tN x2 + tN x3) (tN x4)) else setF σ (nI 2)) else σ
theorem cpy_s {f g : Nat → Int32} {a b n : Nat} : va_up (va_cpy f g a b n) (b + n) (f (a + n)) = va_cpy f g a b (n + 1) := by
  funext k
  by_cases e : k = b + n
  · subst e
    rw [va_up_s, pk_cpy_in (by omega) (by omega), show b + n - b = n by omega]
  · rw [va_up_n _ _ e]
    by_cases q : b ≤ k ∧ k < b + n
    · rw [pk_cpy_in q.1 q.2, pk_cpy_in q.1 (by omega)]
    · rw [pk_cpy_out (by omega), pk_cpy_out (by omega)]
theorem cpy_0 {f g : Nat → Int32} {a b : Nat} : va_cpy f g a b 0 = g := by funext k; exact pk_cpy_out (by omega)
theorem cpy_v {f g f' g' : Nat → Int32} {a b n k N : Nat} (hf : ∀ k, k < N → f k = f' k) (hg : ∀ k, k < N → g k = g' k) (h : a + n ≤ N) (hk : k < N) : va_cpy f g a b n k = va_cpy f' g' a b n k := by
  by_cases q : b ≤ k ∧ k < b + n
  · rw [pk_cpy_in q.1 q.2, pk_cpy_in q.1 q.2]; exact hf _ (by omega)
  · rw [pk_cpy_out (by omega), pk_cpy_out (by omega)]; exact hg k hk
theorem rg_n {σ : PS} {s : Nat} {x x1 : Int32} (hz : sz σ s ≤ 48) (h : rgB σ s x x1 = true) : ∃ i n, i + n ≤ sz σ s ∧ x = nI i ∧ x1 = nI n := by
  have h := of_decide_eq_true h
  refine ⟨x.toInt.toNat, x1.toInt.toNat, by omega, ?_, ?_⟩
  · rw [i_eq, nI_toInt (by omega)]; omega
  · rw [i_eq, nI_toInt (by omega)]; omega
section COPY
variable {I : ab_I} {J : ab_J} {Q : Option Value → ab_I → ab_J → Prop} {σ : PS} {x x1 x2 x3 x4 : Int32}
set_option maxRecDepth 100000 in
theorem q61 {s i t j n : Nat} (hs : s < 4) (ht : t < 4) (hi : i + n ≤ 48) (hj : j + n ≤ 48) : Cal 61 [.ref 43, .int (nI s), .int (nI i), .int (nI t), .int (nI j), .int (nI n)] I J Q ↔ Q none (va_up I 44 (va_cpy (I 44) (I 44) (48 * s + i) (48 * t + j) n)) J := by
  rw [en61]
  have hc : (0 ≤ (nI n).toInt ∧ 0 ≤ (nI (48 * s + i)).toInt ∧ 0 ≤ (nI (48 * t + j)).toInt ∧ (nI (48 * s + i)).toInt + (nI n).toInt ≤ ((192 : Nat) : Int) ∧ (nI (48 * t + j)).toInt + (nI n).toInt ≤ ((192 : Nat) : Int)) = True := by
    rw [nI_toInt (by omega), nI_toInt (by omega), nI_toInt (by omega)]
    exact eq_true (by omega)
  simp (disch := omega) only [k61_0, k61_1, k61_4, k61_6, k61_7, k61_8, k61_9, k61_10, k61_11, k61_14, k61_16, k61_17, k61_18, k61_20, k61_21, k61_23, k61_26, Option.toList_some, Option.toList_none, List.cons_append, List.nil_append, nl_i, nl_r, nl_l, nl_n, pk_mul, nI_add, nI_clamp, ly_44, Nat.reduceLT, true_and, and_true, hc]
  simp only [Nat.zero_le, true_and]
theorem q57 {s : Nat} (hR : RC σ I J) (hs : s < 4) : Cal 57 [.ref 43, .int (nI s), .int x, .int x1] I J Q ↔ Q (some (.int (bI (rgB σ s x x1)))) I J := by
  obtain ⟨z1, z2, z3⟩ := SC_s hR hs
  rw [c57 hs z3 z1]
  rfl
set_option maxRecDepth 100000 in
theorem q106 (hR : RC σ I J) : ∃ I' J', (RC (sCopy σ x x1 x2 x3 x4) I' J' ∧ Hi I J I' J') ∧ ∀ Q : Option Value → ab_I → ab_J → Prop, Cal 106 [.ref 0, .int x, .int x1, .int x2, .int x3, .int x4] I J Q ↔ Q (some (.int (aCopy σ x x1 x2 x3 x4))) I' J' := by
  by_cases hb : inr x 4 = true ∧ inr x2 4 = true
  · obtain ⟨s, hs, rfl⟩ := inr_nI hb.1
    obtain ⟨t, ht, rfl⟩ := inr_nI hb.2
    obtain ⟨z1, z2, z3⟩ := SC_s hR hs
    obtain ⟨y1, y2, y3⟩ := SC_s hR ht
    rw [show aCopy σ (nI s) x1 (nI t) x3 x4 = _ from if_pos hb, show sCopy σ (nI s) x1 (nI t) x3 x4 = _ from if_pos hb, tN_nI (show s < 2 ^ 31 by omega), tN_nI (show t < 2 ^ 31 by omega)]
    by_cases q1 : ty σ s = -1
    · rw [if_pos (Or.inl q1), if_pos (Or.inl q1)]
      refine ⟨_, J, ⟨RC_find hR, Hi_find⟩, fun Q => ?_⟩
      rw [en106]
      simp (disch := omega) only [k106_0, k106_1, k106_4, k106_7, k106_8, k106_11, k106_14, k106_16, k106_17, k106_18, k106_21, k106_22, k106_25, k106_28, k106_29, k106_32, k106_33, k106_36, k106_39, k106_40, k106_41, k106_44, k106_45, k106_46, k106_49, k106_52, k106_53, k106_54, k106_55, k106_58, k106_61, k106_62, k106_63, k106_66, k106_67, k106_68, k106_71, k106_72, k106_73, k106_76, k106_77, k106_78, k106_80, k106_83, k106_86, k106_87, k106_90, k106_91, k106_93, k106_95, k106_98, k106_101, k106_102, k106_103, k106_106, k106_107, k106_108, k106_111, k106_112, k106_113, k106_114, k106_116, k106_118, k106_121, k106_122, Option.toList_some, Option.toList_none, List.cons_append, List.nil_append, nl_i, nl_r, nl_l, nl_n, c118, hb.1, hb.2, bI_0, Bool.true_eq_false, not_false_eq_true, ↓reduceIte, c53 hs, z2, q1, decide_true, c111]
    · by_cases q2 : ty σ t = -1
      · rw [if_pos (Or.inr q2), if_pos (Or.inr q2)]
        refine ⟨_, J, ⟨RC_find hR, Hi_find⟩, fun Q => ?_⟩
        rw [en106]
        simp (disch := omega) only [k106_0, k106_1, k106_4, k106_7, k106_8, k106_11, k106_14, k106_16, k106_17, k106_18, k106_21, k106_22, k106_25, k106_28, k106_29, k106_32, k106_33, k106_36, k106_39, k106_40, k106_41, k106_44, k106_45, k106_46, k106_49, k106_52, k106_53, k106_54, k106_55, k106_58, k106_61, k106_62, k106_63, k106_66, k106_67, k106_68, k106_71, k106_72, k106_73, k106_76, k106_77, k106_78, k106_80, k106_83, k106_86, k106_87, k106_90, k106_91, k106_93, k106_95, k106_98, k106_101, k106_102, k106_103, k106_106, k106_107, k106_108, k106_111, k106_112, k106_113, k106_114, k106_116, k106_118, k106_121, k106_122, Option.toList_some, Option.toList_none, List.cons_append, List.nil_append, nl_i, nl_r, nl_l, nl_n, c118, hb.1, hb.2, bI_0, Bool.true_eq_false, not_false_eq_true, not_true_eq_false, ↓reduceIte, c53 hs, c53 ht, z2, y2, q1, q2, decide_true, decide_false, c111]
      · have q12 : ¬ (ty σ s = -1 ∨ ty σ t = -1) := by rintro (w | w); exact q1 w; exact q2 w
        rw [if_neg q12, if_neg q12]
        by_cases q3 : ty σ s = ty σ t
        · have nq3 : ¬ ¬ ty σ s = ty σ t := fun w => w q3
          rw [if_neg nq3, if_neg nq3]
          by_cases q4 : rgB σ s x1 x4 = true
          · by_cases q5 : rgB σ t x3 x4 = true
            · obtain ⟨i, n, hi, rfl, rfl⟩ := rg_n z1 q4
              obtain ⟨j, n', hj, rfl, en⟩ := rg_n y1 q5
              have en' : n = n' := by rw [nI_eq (by omega) (by omega)] at en; exact en
              subst en'
              have q45 : rgB σ s (nI i) (nI n) = true ∧ rgB σ t (nI j) (nI n) = true := ⟨q4, q5⟩
              rw [if_pos q45, if_pos q45, tN_nI (show i < 2 ^ 31 by omega), tN_nI (show j < 2 ^ 31 by omega), tN_nI (show n < 2 ^ 31 by omega)]
              refine ⟨_, J, ⟨RC_sheet (I' := va_up I 44 (va_cpy (I 44) (I 44) (48 * s + i) (48 * t + j) n)) hR (fun k hk => by simp (disch := omega) only [up_ne]) ⟨fun s' hs' => ?_, fun k hk => ?_⟩, fun k hk => ⟨by simp (disch := omega) only [up_ne], rfl⟩⟩, fun Q => ?_⟩
              · simp (disch := omega) only [up_ne]; exact SC_s hR hs'
              · rw [va_up_s]
                exact cpy_v (N := 192) (fun k hk => SC_i hR hk) (fun k hk => SC_i hR hk) (by omega) hk
              · rw [en106]
                simp (disch := omega) only [k106_0, k106_1, k106_4, k106_7, k106_8, k106_11, k106_14, k106_16, k106_17, k106_18, k106_21, k106_22, k106_25, k106_28, k106_29, k106_32, k106_33, k106_36, k106_39, k106_40, k106_41, k106_44, k106_45, k106_46, k106_49, k106_52, k106_53, k106_54, k106_55, k106_58, k106_61, k106_62, k106_63, k106_66, k106_67, k106_68, k106_71, k106_72, k106_73, k106_76, k106_77, k106_78, k106_80, k106_83, k106_86, k106_87, k106_90, k106_91, k106_93, k106_95, k106_98, k106_101, k106_102, k106_103, k106_106, k106_107, k106_108, k106_111, k106_112, k106_113, k106_114, k106_116, k106_118, k106_121, k106_122, Option.toList_some, Option.toList_none, List.cons_append, List.nil_append, nl_i, nl_r, nl_l, nl_n, c118, hb.1, hb.2, bI_0, Bool.true_eq_false, not_false_eq_true, not_true_eq_false, ↓reduceIte, c53 hs, c53 ht, z2, y2, q1, q2, decide_false, nI_clamp, bnd, ly_45, Nat.reduceLT, true_and, and_true, if_pos q3, q57 hR hs, q57 hR ht, q4, q5, q61 hs ht (show i + n ≤ 48 by omega) (show j + n ≤ 48 by omega)]
            · have q5' : rgB σ t x3 x4 = false := by simpa using q5
              have q45 : ¬ (rgB σ s x1 x4 = true ∧ rgB σ t x3 x4 = true) := fun w => q5 w.2
              rw [if_neg q45, if_neg q45]
              refine ⟨_, J, ⟨RC_find hR, Hi_find⟩, fun Q => ?_⟩
              rw [en106]
              simp (disch := omega) only [k106_0, k106_1, k106_4, k106_7, k106_8, k106_11, k106_14, k106_16, k106_17, k106_18, k106_21, k106_22, k106_25, k106_28, k106_29, k106_32, k106_33, k106_36, k106_39, k106_40, k106_41, k106_44, k106_45, k106_46, k106_49, k106_52, k106_53, k106_54, k106_55, k106_58, k106_61, k106_62, k106_63, k106_66, k106_67, k106_68, k106_71, k106_72, k106_73, k106_76, k106_77, k106_78, k106_80, k106_83, k106_86, k106_87, k106_90, k106_91, k106_93, k106_95, k106_98, k106_101, k106_102, k106_103, k106_106, k106_107, k106_108, k106_111, k106_112, k106_113, k106_114, k106_116, k106_118, k106_121, k106_122, Option.toList_some, Option.toList_none, List.cons_append, List.nil_append, nl_i, nl_r, nl_l, nl_n, c118, hb.1, hb.2, bI_0, Bool.true_eq_false, not_false_eq_true, not_true_eq_false, ↓reduceIte, c53 hs, c53 ht, z2, y2, q1, q2, decide_false, nI_clamp, bnd, ly_45, Nat.reduceLT, true_and, and_true, if_pos q3, q57 hR hs, q57 hR ht, q4, q5', c111]
          · have q4' : rgB σ s x1 x4 = false := by simpa using q4
            have q45 : ¬ (rgB σ s x1 x4 = true ∧ rgB σ t x3 x4 = true) := fun w => q4 w.1
            rw [if_neg q45, if_neg q45]
            refine ⟨_, J, ⟨RC_find hR, Hi_find⟩, fun Q => ?_⟩
            rw [en106]
            simp (disch := omega) only [k106_0, k106_1, k106_4, k106_7, k106_8, k106_11, k106_14, k106_16, k106_17, k106_18, k106_21, k106_22, k106_25, k106_28, k106_29, k106_32, k106_33, k106_36, k106_39, k106_40, k106_41, k106_44, k106_45, k106_46, k106_49, k106_52, k106_53, k106_54, k106_55, k106_58, k106_61, k106_62, k106_63, k106_66, k106_67, k106_68, k106_71, k106_72, k106_73, k106_76, k106_77, k106_78, k106_80, k106_83, k106_86, k106_87, k106_90, k106_91, k106_93, k106_95, k106_98, k106_101, k106_102, k106_103, k106_106, k106_107, k106_108, k106_111, k106_112, k106_113, k106_114, k106_116, k106_118, k106_121, k106_122, Option.toList_some, Option.toList_none, List.cons_append, List.nil_append, nl_i, nl_r, nl_l, nl_n, c118, hb.1, hb.2, bI_0, Bool.true_eq_false, not_false_eq_true, not_true_eq_false, ↓reduceIte, c53 hs, c53 ht, z2, y2, q1, q2, decide_false, nI_clamp, bnd, ly_45, Nat.reduceLT, true_and, and_true, if_pos q3, q57 hR hs, q57 hR ht, q4', c111]
        · rw [if_pos q3, if_pos q3]
          refine ⟨_, J, ⟨RC_find hR, Hi_find⟩, fun Q => ?_⟩
          rw [en106]
          simp (disch := omega) only [k106_0, k106_1, k106_4, k106_7, k106_8, k106_11, k106_14, k106_16, k106_17, k106_18, k106_21, k106_22, k106_25, k106_28, k106_29, k106_32, k106_33, k106_36, k106_39, k106_40, k106_41, k106_44, k106_45, k106_46, k106_49, k106_52, k106_53, k106_54, k106_55, k106_58, k106_61, k106_62, k106_63, k106_66, k106_67, k106_68, k106_71, k106_72, k106_73, k106_76, k106_77, k106_78, k106_80, k106_83, k106_86, k106_87, k106_90, k106_91, k106_93, k106_95, k106_98, k106_101, k106_102, k106_103, k106_106, k106_107, k106_108, k106_111, k106_112, k106_113, k106_114, k106_116, k106_118, k106_121, k106_122, Option.toList_some, Option.toList_none, List.cons_append, List.nil_append, nl_i, nl_r, nl_l, nl_n, c118, hb.1, hb.2, bI_0, Bool.true_eq_false, not_false_eq_true, not_true_eq_false, ↓reduceIte, c53 hs, c53 ht, z2, y2, q1, q2, decide_false, nI_clamp, bnd, ly_45, Nat.reduceLT, true_and, and_true, q3, c111]
  · refine ⟨I, J, ⟨?_, Hi_refl⟩, fun Q => ?_⟩
    · rw [show sCopy σ x x1 x2 x3 x4 = σ from if_neg hb]; exact hR
    · rw [en106, show aCopy σ x x1 x2 x3 x4 = _ from if_neg hb]
      cases q1 : inr x 4
      · simp only [k106_0, k106_1, k106_4, k106_7, k106_8, k106_11, k106_14, k106_16, k106_17, k106_18, k106_21, k106_22, k106_25, k106_28, k106_29, k106_32, k106_33, k106_36, k106_39, k106_40, k106_41, k106_44, k106_45, k106_46, k106_49, k106_52, k106_53, k106_54, k106_55, k106_58, k106_61, k106_62, k106_63, k106_66, k106_67, k106_68, k106_71, k106_72, k106_73, k106_76, k106_77, k106_78, k106_80, k106_83, k106_86, k106_87, k106_90, k106_91, k106_93, k106_95, k106_98, k106_101, k106_102, k106_103, k106_106, k106_107, k106_108, k106_111, k106_112, k106_113, k106_114, k106_116, k106_118, k106_121, k106_122, Option.toList_some, Option.toList_none, List.cons_append, List.nil_append, nl_i, nl_r, nl_l, nl_n, c118, q1, bI_0, ↓reduceIte]
      · cases q2 : inr x2 4
        · simp only [k106_0, k106_1, k106_4, k106_7, k106_8, k106_11, k106_14, k106_16, k106_17, k106_18, k106_21, k106_22, k106_25, k106_28, k106_29, k106_32, k106_33, k106_36, k106_39, k106_40, k106_41, k106_44, k106_45, k106_46, k106_49, k106_52, k106_53, k106_54, k106_55, k106_58, k106_61, k106_62, k106_63, k106_66, k106_67, k106_68, k106_71, k106_72, k106_73, k106_76, k106_77, k106_78, k106_80, k106_83, k106_86, k106_87, k106_90, k106_91, k106_93, k106_95, k106_98, k106_101, k106_102, k106_103, k106_106, k106_107, k106_108, k106_111, k106_112, k106_113, k106_114, k106_116, k106_118, k106_121, k106_122, Option.toList_some, Option.toList_none, List.cons_append, List.nil_append, nl_i, nl_r, nl_l, nl_n, c118, q1, q2, bI_0, Bool.true_eq_false, not_true_eq_false, ↓reduceIte]
        · exact absurd ⟨q1, q2⟩ hb
theorem rgL {s : Nat} (hz : sz σ s ≤ 48) : (x.toInt64 + x1.toInt64 ≤ (nI (sz σ s)).toInt64) ↔ x.toInt + x1.toInt ≤ sz σ s := by
  rw [i2l_zL, i2l_zL, nI_l (by omega), lN_zL, zL_add]
  have h1 := x.toInt_lt
  have h2 := x1.toInt_lt
  have h3 := x.le_toInt
  have h4 := x1.le_toInt
  rw [zL_le (by unfold ok; omega) (okN (by omega))]
set_option maxRecDepth 100000 in
theorem r196 (hR : RR σ I) : ∃ I' J', (RR (sCopy σ x x1 x2 x3 x4) I' ∧ Lo I J I' J') ∧ ∀ Q : Option Value → ab_I → ab_J → Prop, Cal 196 [.ref 49, .int x, .int x1, .int x2, .int x3, .int x4] I J Q ↔ Q (some (.int (aCopy σ x x1 x2 x3 x4))) I' J' := by
  by_cases hb : inr x 4 = true ∧ inr x2 4 = true
  · obtain ⟨s, hs, rfl⟩ := inr_nI hb.1
    obtain ⟨t, ht, rfl⟩ := inr_nI hb.2
    obtain ⟨z1, z2, z3⟩ := SR_s hR hs
    obtain ⟨y1, y2, y3⟩ := SR_s hR ht
    rw [show aCopy σ (nI s) x1 (nI t) x3 x4 = _ from if_pos hb, show sCopy σ (nI s) x1 (nI t) x3 x4 = _ from if_pos hb, tN_nI (show s < 2 ^ 31 by omega), tN_nI (show t < 2 ^ 31 by omega)]
    by_cases q1 : ty σ s = -1
    · rw [decide_eq_false (fun w => w q1)] at z2
      rw [if_pos (Or.inl q1), if_pos (Or.inl q1)]
      refine ⟨_, J, ⟨RR_find hR, Lo_find⟩, fun Q => ?_⟩
      rw [en196]
      simp (disch := omega) only [k196_0, k196_1, k196_4, k196_7, k196_8, k196_11, k196_14, k196_16, k196_17, k196_18, k196_21, k196_22, k196_23, k196_26, k196_27, k196_30, k196_31, k196_32, k196_35, k196_36, k196_37, k196_40, k196_41, k196_42, k196_45, k196_46, k196_47, k196_48, k196_51, k196_52, k196_53, k196_56, k196_57, k196_58, k196_61, k196_62, k196_63, k196_66, k196_68, k196_71, k196_73, k196_76, k196_77, k196_78, k196_80, k196_81, k196_82, k196_83, k196_86, k196_87, k196_88, k196_89, k196_90, k196_93, k196_95, k196_96, k196_98, k196_99, k196_100, k196_101, k196_104, k196_105, k196_106, k196_107, k196_108, k196_111, k196_112, k196_113, k196_116, k196_117, k196_118, k196_122, k196_124, k196_127, k196_128, k196_131, k196_133, k196_134, k196_137, k196_139, k196_140, k196_141, k196_142, k196_143, k196_145, k196_146, k196_147, k196_148, k196_151, k196_154, k196_155, k196_159, k196_161, k196_164, k196_165, k196_168, k196_170, k196_171, k196_172, k196_174, k196_175, k196_177, k196_178, k196_179, k196_182, k196_184, k196_185, k196_186, k196_189, k196_192, k196_193, Option.toList_some, Option.toList_none, List.cons_append, List.nil_append, nl_i, nl_r, nl_l, nl_n, c189, hb.1, hb.2, bI_0, Bool.true_eq_false, not_false_eq_true, ↓reduceIte, nI_clamp, bnd, ly_70, Nat.reduceLT, true_and, and_true, z2, c188]
    · rw [decide_eq_true q1] at z2
      obtain ⟨v1, v2⟩ := z3 q1
      by_cases q2 : ty σ t = -1
      · rw [decide_eq_false (fun w => w q2)] at y2
        rw [if_pos (Or.inr q2), if_pos (Or.inr q2)]
        refine ⟨_, J, ⟨RR_find hR, Lo_find⟩, fun Q => ?_⟩
        rw [en196]
        simp (disch := omega) only [k196_0, k196_1, k196_4, k196_7, k196_8, k196_11, k196_14, k196_16, k196_17, k196_18, k196_21, k196_22, k196_23, k196_26, k196_27, k196_30, k196_31, k196_32, k196_35, k196_36, k196_37, k196_40, k196_41, k196_42, k196_45, k196_46, k196_47, k196_48, k196_51, k196_52, k196_53, k196_56, k196_57, k196_58, k196_61, k196_62, k196_63, k196_66, k196_68, k196_71, k196_73, k196_76, k196_77, k196_78, k196_80, k196_81, k196_82, k196_83, k196_86, k196_87, k196_88, k196_89, k196_90, k196_93, k196_95, k196_96, k196_98, k196_99, k196_100, k196_101, k196_104, k196_105, k196_106, k196_107, k196_108, k196_111, k196_112, k196_113, k196_116, k196_117, k196_118, k196_122, k196_124, k196_127, k196_128, k196_131, k196_133, k196_134, k196_137, k196_139, k196_140, k196_141, k196_142, k196_143, k196_145, k196_146, k196_147, k196_148, k196_151, k196_154, k196_155, k196_159, k196_161, k196_164, k196_165, k196_168, k196_170, k196_171, k196_172, k196_174, k196_175, k196_177, k196_178, k196_179, k196_182, k196_184, k196_185, k196_186, k196_189, k196_192, k196_193, Option.toList_some, Option.toList_none, List.cons_append, List.nil_append, nl_i, nl_r, nl_l, nl_n, c189, hb.1, hb.2, bI_0, Bool.true_eq_false, not_false_eq_true, not_true_eq_false, ↓reduceIte, nI_clamp, bnd, ly_70, Nat.reduceLT, true_and, and_true, z2, y2, c188]
      · rw [decide_eq_true q2] at y2
        obtain ⟨w1, w2⟩ := y3 q2
        have q12 : ¬ (ty σ s = -1 ∨ ty σ t = -1) := by rintro (w | w); exact q1 w; exact q2 w
        rw [if_neg q12, if_neg q12]
        by_cases q3 : ty σ s = ty σ t
        · have nq3 : ¬ ¬ ty σ s = ty σ t := fun w => w q3
          rw [if_neg nq3, if_neg nq3]
          have rA := rgL (x := x1) (x1 := x4) z1
          have rB := rgL (x := x3) (x1 := x4) y1
          by_cases q45 : rgB σ s x1 x4 = true ∧ rgB σ t x3 x4 = true
          · obtain ⟨q4, q5⟩ := id q45
            obtain ⟨i, n, hi, rfl, rfl⟩ := rg_n z1 q4
            obtain ⟨j, n', hj, rfl, en⟩ := rg_n y1 q5
            have en' : n = n' := by rw [nI_eq (by omega) (by omega)] at en; exact en
            subst en'
            rw [if_pos q45, if_pos q45, tN_nI (show i < 2 ^ 31 by omega), tN_nI (show j < 2 ^ 31 by omega), tN_nI (show n < 2 ^ 31 by omega)]
            refine ⟨_, J, ⟨RR_sheet (I' := va_up (va_up I 73 (va_cpy (I 73) (I 73) (48 * s + i) (48 * t + j) n)) 74 (fll (fun k => I 73 (48 * s + i + k)) (I 74) n)) hR (fun k hk => by simp (disch := omega) only [up_ne]) ⟨fun s' hs' => ?_, fun k hk => ?_⟩, fun k hk => ⟨by simp (disch := omega) only [up_ne], rfl⟩⟩, fun Q => Cal_of (fun Q hQ => ?_)⟩
            · simp (disch := omega) only [up_ne]; exact SR_s hR hs'
            · rw [up_ne _ _ (by omega), va_up_s]
              exact cpy_v (N := 192) (fun k hk => SR_i hR hk) (fun k hk => SR_i hR hk) (by omega) hk
            · rw [nI_toInt (by omega), nI_toInt (by omega)] at rA rB
              have rA' : (0 < lg_cmp ((nI i).toInt64 + (nI n).toInt64) (nI (sz σ s)).toInt64) = False := eq_false (fun w => by have := rA.mpr (by omega); rw [lg_cmp_gt] at w; rw [Int64.le_iff_toInt_le] at this; rw [Int64.lt_iff_toInt_lt] at w; omega)
              have rB' : (lg_cmp ((nI j).toInt64 + (nI n).toInt64) (nI (sz σ t)).toInt64 ≤ 0) = True := eq_true (by rw [lg_cmp_le]; exact rB.mpr (by omega))
              rw [en196]
              simp (disch := omega) only [k196_0, k196_1, k196_4, k196_7, k196_8, k196_11, k196_17, k196_18, k196_21, k196_22, k196_23, k196_26, k196_27, k196_30, k196_31, k196_32, k196_41, k196_42, k196_45, k196_46, k196_47, k196_48, k196_51, k196_52, k196_53, k196_62, k196_63, k196_66, k196_68, k196_71, k196_73, k196_76, k196_77, k196_78, k196_80, k196_81, k196_82, k196_83, k196_86, k196_87, k196_88, k196_89, k196_90, k196_93, k196_95, k196_96, k196_98, k196_99, k196_100, k196_101, k196_104, k196_105, k196_106, k196_107, k196_108, k196_117, k196_118, Option.toList_some, Option.toList_none, List.cons_append, List.nil_append, nl_i, nl_r, nl_l, nl_n, c189, hb.1, hb.2, bI_0, Bool.true_eq_false, not_false_eq_true, not_true_eq_false, ↓reduceIte, nI_clamp, bnd, ly_70, ly_71, ly_72, Nat.reduceLT, true_and, and_true, z2, y2, v1, v2, w1, w2, if_pos q3, nlt0, rA', rB']
              have k1 : At 196 120 [some (.ref 49), some (.int (nI s)), some (.int (nI i)), some (.int (nI t)), some (.int (nI j)), some (.int (nI n)), some (.int (nI 0))] [] (va_up I 74 (fll (fun k => I 73 (48 * s + i + k)) (I 74) 0)) J Q := by
                refine loop_dn (N := n) (P := fun k => At 196 120 [some (.ref 49), some (.int (nI s)), some (.int (nI i)), some (.int (nI t)), some (.int (nI j)), some (.int (nI n)), some (.int (nI k))] [] (va_up I 74 (fll (fun k => I 73 (48 * s + i + k)) (I 74) k)) J Q) ?_ ?_
                · rw [k196_120]
                  simp (disch := omega) only [k196_122, k196_124, k196_154, k196_155, nI_leI, Nat.le_refl, ↓reduceIte, Option.toList_some, Option.toList_none, List.cons_append, List.nil_append, nl_i, nl_r, nl_l, nl_n]
                  have k2 : At 196 157 [some (.ref 49), some (.int (nI s)), some (.int (nI i)), some (.int (nI t)), some (.int (nI j)), some (.int (nI n)), some (.int (nI 0))] [] (va_up (va_up I 73 (va_cpy (I 73) (I 73) (48 * s + i) (48 * t + j) 0)) 74 (fll (fun k => I 73 (48 * s + i + k)) (I 74) n)) J Q := by
                    refine loop_dn (N := n) (P := fun k => At 196 157 [some (.ref 49), some (.int (nI s)), some (.int (nI i)), some (.int (nI t)), some (.int (nI j)), some (.int (nI n)), some (.int (nI k))] [] (va_up (va_up I 73 (va_cpy (I 73) (I 73) (48 * s + i) (48 * t + j) k)) 74 (fll (fun k => I 73 (48 * s + i + k)) (I 74) n)) J Q) ?_ ?_
                    · rw [k196_157]
                      simp (disch := omega) only [k196_159, k196_161, k196_192, k196_193, nI_leI, Nat.le_refl, ↓reduceIte]
                      exact hQ
                    · intro k hk ih
                      have e0 : ¬ n ≤ k := by omega
                      rw [← cpy_s] at ih
                      rw [k196_157]
                      simp (disch := omega) only [k196_159, k196_161, k196_164, k196_165, k196_168, k196_170, k196_171, k196_172, k196_174, k196_175, k196_177, k196_178, k196_179, k196_182, k196_184, k196_185, k196_186, k196_189, Option.toList_some, Option.toList_none, List.cons_append, List.nil_append, nl_i, nl_r, nl_l, nl_n, nI_leI, e0, ↓reduceIte, pk_mul, nI_add, nI_clamp, bnd, ly_73, ly_74, Nat.reduceLT, true_and, and_true, up_ne, va_up_s, up_same, up_cm, id_eq, fll_lt hk]
                      exact ih
                  rw [cpy_0, up_id] at k2
                  exact k2
                · intro k hk ih
                  have e0 : ¬ n ≤ k := by omega
                  rw [← fll_s] at ih
                  rw [k196_120]
                  simp (disch := omega) only [k196_122, k196_124, k196_127, k196_128, k196_131, k196_133, k196_134, k196_137, k196_139, k196_140, k196_141, k196_142, k196_143, k196_145, k196_146, k196_147, k196_148, k196_151, Option.toList_some, Option.toList_none, List.cons_append, List.nil_append, nl_i, nl_r, nl_l, nl_n, nI_leI, e0, ↓reduceIte, pk_mul, nI_add, nI_clamp, bnd, ly_73, ly_74, Nat.reduceLT, true_and, and_true, up_ne, va_up_s, up_same]
                  exact ih
              rw [fll_0, up_id] at k1
              exact k1
          · rw [if_neg q45, if_neg q45]
            refine ⟨_, J, ⟨RR_find hR, Lo_find⟩, fun Q => ?_⟩
            rw [en196]
            simp (disch := omega) only [k196_0, k196_1, k196_4, k196_7, k196_8, k196_11, k196_17, k196_18, k196_21, k196_22, k196_23, k196_26, k196_27, k196_30, k196_31, k196_32, k196_41, k196_42, k196_45, k196_46, k196_47, k196_48, k196_51, k196_52, k196_53, k196_62, k196_63, Option.toList_some, Option.toList_none, List.cons_append, List.nil_append, nl_i, nl_r, nl_l, nl_n, c189, hb.1, hb.2, bI_0, Bool.true_eq_false, not_false_eq_true, not_true_eq_false, ↓reduceIte, nI_clamp, bnd, ly_70, ly_71, ly_72, Nat.reduceLT, true_and, and_true, z2, y2, v1, v2, w1, w2, if_pos q3]
            by_cases p1 : x1 < 0
            · simp (disch := omega) only [k196_111, k196_112, k196_113, k196_116, Option.toList_some, Option.toList_none, List.cons_append, List.nil_append, nl_i, nl_r, nl_l, nl_n, p1, ↓reduceIte, c188]
            · simp (disch := omega) only [k196_66, k196_68, p1, ↓reduceIte]
              by_cases p2 : x3 < 0
              · simp (disch := omega) only [k196_111, k196_112, k196_113, k196_116, Option.toList_some, Option.toList_none, List.cons_append, List.nil_append, nl_i, nl_r, nl_l, nl_n, p2, ↓reduceIte, c188]
              · simp (disch := omega) only [k196_71, k196_73, p2, ↓reduceIte]
                by_cases p3 : x4 < 0
                · simp (disch := omega) only [k196_111, k196_112, k196_113, k196_116, Option.toList_some, Option.toList_none, List.cons_append, List.nil_append, nl_i, nl_r, nl_l, nl_n, p3, ↓reduceIte, c188]
                · simp (disch := omega) only [k196_76, k196_77, k196_78, k196_80, k196_81, k196_82, k196_83, k196_86, k196_87, k196_88, k196_89, k196_90, p3, ↓reduceIte, nI_clamp, bnd, ly_72, Nat.reduceLT, true_and, and_true, v2, lg_cmp_gt]
                  rw [i_lt, t0] at p1 p2 p3
                  by_cases p4 : (nI (sz σ s)).toInt64 < x1.toInt64 + x4.toInt64
                  · simp (disch := omega) only [k196_111, k196_112, k196_113, k196_116, Option.toList_some, Option.toList_none, List.cons_append, List.nil_append, nl_i, nl_r, nl_l, nl_n, p4, ↓reduceIte, c188]
                  · have p5 : ¬ x3.toInt64 + x4.toInt64 ≤ (nI (sz σ t)).toInt64 := by
                      intro w
                      refine q45 ⟨decide_eq_true ⟨by omega, by omega, rA.mp ?_⟩, decide_eq_true ⟨by omega, by omega, rB.mp w⟩⟩
                      rw [Int64.le_iff_toInt_le]
                      rw [Int64.lt_iff_toInt_lt] at p4
                      omega
                    simp (disch := omega) only [k196_93, k196_95, k196_96, k196_98, k196_99, k196_100, k196_101, k196_104, k196_105, k196_106, k196_107, k196_108, k196_111, k196_112, k196_113, k196_116, Option.toList_some, Option.toList_none, List.cons_append, List.nil_append, nl_i, nl_r, nl_l, nl_n, p4, p5, ↓reduceIte, nI_clamp, bnd, ly_72, Nat.reduceLT, true_and, and_true, w2, lg_cmp_le, c188]
        · rw [if_pos q3, if_pos q3]
          refine ⟨_, J, ⟨RR_find hR, Lo_find⟩, fun Q => ?_⟩
          rw [en196]
          simp (disch := omega) only [k196_0, k196_1, k196_4, k196_7, k196_8, k196_11, k196_14, k196_16, k196_17, k196_18, k196_21, k196_22, k196_23, k196_26, k196_27, k196_30, k196_31, k196_32, k196_35, k196_36, k196_37, k196_40, k196_41, k196_42, k196_45, k196_46, k196_47, k196_48, k196_51, k196_52, k196_53, k196_56, k196_57, k196_58, k196_61, k196_62, k196_63, k196_66, k196_68, k196_71, k196_73, k196_76, k196_77, k196_78, k196_80, k196_81, k196_82, k196_83, k196_86, k196_87, k196_88, k196_89, k196_90, k196_93, k196_95, k196_96, k196_98, k196_99, k196_100, k196_101, k196_104, k196_105, k196_106, k196_107, k196_108, k196_111, k196_112, k196_113, k196_116, k196_117, k196_118, k196_122, k196_124, k196_127, k196_128, k196_131, k196_133, k196_134, k196_137, k196_139, k196_140, k196_141, k196_142, k196_143, k196_145, k196_146, k196_147, k196_148, k196_151, k196_154, k196_155, k196_159, k196_161, k196_164, k196_165, k196_168, k196_170, k196_171, k196_172, k196_174, k196_175, k196_177, k196_178, k196_179, k196_182, k196_184, k196_185, k196_186, k196_189, k196_192, k196_193, Option.toList_some, Option.toList_none, List.cons_append, List.nil_append, nl_i, nl_r, nl_l, nl_n, c189, hb.1, hb.2, bI_0, Bool.true_eq_false, not_false_eq_true, not_true_eq_false, ↓reduceIte, nI_clamp, bnd, ly_70, ly_71, Nat.reduceLT, true_and, and_true, z2, y2, v1, w1, q3, c188]
  · refine ⟨I, J, ⟨?_, Lo_refl⟩, fun Q => ?_⟩
    · rw [show sCopy σ x x1 x2 x3 x4 = σ from if_neg hb]; exact hR
    · rw [en196, show aCopy σ x x1 x2 x3 x4 = _ from if_neg hb]
      cases q1 : inr x 4
      · simp only [k196_0, k196_1, k196_4, k196_7, k196_8, k196_11, k196_14, k196_16, k196_17, k196_18, k196_21, k196_22, k196_23, k196_26, k196_27, k196_30, k196_31, k196_32, k196_35, k196_36, k196_37, k196_40, k196_41, k196_42, k196_45, k196_46, k196_47, k196_48, k196_51, k196_52, k196_53, k196_56, k196_57, k196_58, k196_61, k196_62, k196_63, k196_66, k196_68, k196_71, k196_73, k196_76, k196_77, k196_78, k196_80, k196_81, k196_82, k196_83, k196_86, k196_87, k196_88, k196_89, k196_90, k196_93, k196_95, k196_96, k196_98, k196_99, k196_100, k196_101, k196_104, k196_105, k196_106, k196_107, k196_108, k196_111, k196_112, k196_113, k196_116, k196_117, k196_118, k196_122, k196_124, k196_127, k196_128, k196_131, k196_133, k196_134, k196_137, k196_139, k196_140, k196_141, k196_142, k196_143, k196_145, k196_146, k196_147, k196_148, k196_151, k196_154, k196_155, k196_159, k196_161, k196_164, k196_165, k196_168, k196_170, k196_171, k196_172, k196_174, k196_175, k196_177, k196_178, k196_179, k196_182, k196_184, k196_185, k196_186, k196_189, k196_192, k196_193, Option.toList_some, Option.toList_none, List.cons_append, List.nil_append, nl_i, nl_r, nl_l, nl_n, c189, q1, bI_0, ↓reduceIte]
      · cases q2 : inr x2 4
        · simp only [k196_0, k196_1, k196_4, k196_7, k196_8, k196_11, k196_14, k196_16, k196_17, k196_18, k196_21, k196_22, k196_23, k196_26, k196_27, k196_30, k196_31, k196_32, k196_35, k196_36, k196_37, k196_40, k196_41, k196_42, k196_45, k196_46, k196_47, k196_48, k196_51, k196_52, k196_53, k196_56, k196_57, k196_58, k196_61, k196_62, k196_63, k196_66, k196_68, k196_71, k196_73, k196_76, k196_77, k196_78, k196_80, k196_81, k196_82, k196_83, k196_86, k196_87, k196_88, k196_89, k196_90, k196_93, k196_95, k196_96, k196_98, k196_99, k196_100, k196_101, k196_104, k196_105, k196_106, k196_107, k196_108, k196_111, k196_112, k196_113, k196_116, k196_117, k196_118, k196_122, k196_124, k196_127, k196_128, k196_131, k196_133, k196_134, k196_137, k196_139, k196_140, k196_141, k196_142, k196_143, k196_145, k196_146, k196_147, k196_148, k196_151, k196_154, k196_155, k196_159, k196_161, k196_164, k196_165, k196_168, k196_170, k196_171, k196_172, k196_174, k196_175, k196_177, k196_178, k196_179, k196_182, k196_184, k196_185, k196_186, k196_189, k196_192, k196_193, Option.toList_some, Option.toList_none, List.cons_append, List.nil_append, nl_i, nl_r, nl_l, nl_n, c189, q1, q2, bI_0, Bool.true_eq_false, not_true_eq_false, ↓reduceIte]
        · exact absurd ⟨q1, q2⟩ hb
end COPY
