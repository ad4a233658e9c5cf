/-! CONTRACTS: seekWorst -/
def wsB (D : Nat → Nat → Int64) (a : Nat) (z : Int64 × Int32 × Int32) : Nat → Int64 × Int32 × Int32
  | 0 => z
  | k + 1 => if D a (a + 1 + k) ≤ (wsB D a z k).1 then wsB D a z k else (D a (a + 1 + k), nI a, nI (a + 1 + k))
def wsA (D : Nat → Nat → Int64) : Nat → Int64 × Int32 × Int32
  | 0 => (0, -1, -1)
  | a + 1 => wsB D a (wsA D a) (11 - a)
def wsI (B : Nat) (z : Int64 × Int32 × Int32) (I : ab_I) : ab_I := va_up I B (va_up (va_up (va_up (I B) 14 z.2.1) 15 z.2.2) 16 (nI 1))
def wsJ (B : Nat) (z : Int64 × Int32 × Int32) (J : ab_J) : ab_J := va_up J B (va_up (J B) 13 z.1)
/-- a pair's doubt, 0 if not tied -/
def dbD (sb : Nat → Int32) (h : Nat → Nat) (f : Nat) (S A : Nat → Int64) (w : Int64) (a b : Nat) : Int64 := if ¬ sb a = -1 ∧ sb a = sb b then dbI A (dfl h f S a b) (w * (S a + S b)) 3 else 0
section WORST
variable {I : ab_I} {J : ab_J} {Q : Option Value → ab_I → ab_J → Prop} {x x1 x2 : Int32} {u : Int64}
theorem c34k_5 (hk : I 5 16 = nI 1) : Cal 34 [.ref 5] I J Q ↔ Q none I J := by
  rw [en34]
  simp (disch := omega) only [k34_0, k34_1_5, k34_4, k34_7, hk, eq0, Nat.reduceEqDiff, ↓reduceIte]
set_option maxRecDepth 100000 in
theorem c34_5 {h : Nat → Nat} {f : Nat} {S A : Nat → Int64} {sb : Nat → Int32} (hk : I 5 16 = nI 0) (hf : I 5 12 = nI f) (hh : ∀ s, s < 12 → I 7 s = nI (h s) ∧ h s < 16) (hS : J 8 = S) (hA : J 13 = A) (hsb : I 11 = sb) : Cal 34 [.ref 5] I J Q ↔ Q none (wsI 5 (wsA (dbD sb h f S A (J 5 11)) 12) I) (wsJ 5 (wsA (dbD sb h f S A (J 5 11)) 12) J) := by
  refine Cal_iff ?_
  generalize hD : dbD sb h f S A (J 5 11) = D
  have hc33 : ∀ (z : Int64 × Int32 × Int32) (a b : Nat) (K : Option Value → ab_I → ab_J → Prop), a < 12 → b < 12 → (Cal 33 [.ref 5, .int (nI a), .int (nI b)] (wsI 5 z I) (wsJ 5 z J) K ↔ K (some (.long (dbI A (dfl h f S a b) (J 5 11 * (S a + S b)) 3))) (wsI 5 z I) (wsJ 5 z J)) := by
    intro z a b K ha hb
    have e := c33_5 (I := wsI 5 z I) (J := wsJ 5 z J) (Q := K) (h := h) (f := f) (S := S) (A := A) hf hh hS hA ha hb
    exact e
  have hc32 : ∀ (z : Int64 × Int32 × Int32) (a b : Nat) (K : Option Value → ab_I → ab_J → Prop), a < 12 → b < 12 → (Cal 32 [.ref 5, .int (nI a), .int (nI b)] (wsI 5 z I) (wsJ 5 z J) K ↔ K (some (.int (bI (decide (¬ sb a = -1 ∧ sb a = sb b))))) (wsI 5 z I) (wsJ 5 z J)) := by
    intro z a b K ha hb
    have e := c32_5 (I := wsI 5 z I) (J := wsJ 5 z J) (Q := K) ha hb
    rw [show wsI 5 z I 11 = sb from hsb] at e
    exact e
  rw [en34]
  simp (disch := omega) only [k34_0, k34_1_5, k34_4, k34_8, k34_9, k34_10_5v1, k34_13, k34_14, k34_15_5, k34_18, k34_19, k34_20_5, k34_23, k34_24, k34_25_5, k34_28, k34_29, Option.toList_some, Option.toList_none, List.cons_append, List.nil_append, nl_i, nl_r, nl_l, nl_n, hk, eq0, ↓reduceIte, va_up_s, up_same, up_cm, id_eq]
  have key : ∀ a2 a3 a4 : Option Value, At 34 30 [some (.ref 5), some (.int (nI 0)), a2, a3, a4] [] (wsI 5 (wsA D 0) I) (wsJ 5 (wsA D 0) J) (fun v' I1 J1 => v' = none ∧ I1 = wsI 5 (wsA D 12) I ∧ J1 = wsJ 5 (wsA D 12) J) := by
    refine loop_dn (N := 12) (P := fun a => ∀ a2 a3 a4 : Option Value, At 34 30 [some (.ref 5), some (.int (nI a)), a2, a3, a4] [] (wsI 5 (wsA D a) I) (wsJ 5 (wsA D a) J) (fun v' I1 J1 => v' = none ∧ I1 = wsI 5 (wsA D 12) I ∧ J1 = wsJ 5 (wsA D 12) J)) ?_ ?_
    · intro a2 a3 a4
      rw [k34_30]
      simp (disch := omega) only [k34_31, k34_33, k34_102, nI_leI, Nat.le_refl, ↓reduceIte, and_self]
    · intro a ha ih a2 a3 a4
      have e0 : ¬ 12 ≤ a := by omega
      rw [k34_30]
      simp (disch := omega) only [k34_31, k34_33, k34_36, k34_37, k34_38, k34_39, Option.toList_some, Option.toList_none, List.cons_append, List.nil_append, nl_i, nl_r, nl_l, nl_n, nI_leI, e0, ↓reduceIte, nI_add]
      have key2 : ∀ a3 a4 : Option Value, At 34 40 [some (.ref 5), some (.int (nI a)), some (.int (nI (a + 1 + 0))), a3, a4] [] (wsI 5 (wsB D a (wsA D a) 0) I) (wsJ 5 (wsB D a (wsA D a) 0) J) (fun v' I1 J1 => v' = none ∧ I1 = wsI 5 (wsA D 12) I ∧ J1 = wsJ 5 (wsA D 12) J) := by
        refine loop_dn (N := 11 - a) (P := fun k => ∀ a3 a4 : Option Value, At 34 40 [some (.ref 5), some (.int (nI a)), some (.int (nI (a + 1 + k))), a3, a4] [] (wsI 5 (wsB D a (wsA D a) k) I) (wsJ 5 (wsB D a (wsA D a) k) J) (fun v' I1 J1 => v' = none ∧ I1 = wsI 5 (wsA D 12) I ∧ J1 = wsJ 5 (wsA D 12) J)) ?_ ?_
        · intro a3 a4
          have e1 : 12 ≤ a + 1 + (11 - a) := by omega
          rw [k34_40]
          simp (disch := omega) only [k34_41, k34_43, k34_96, k34_99, Option.toList_some, Option.toList_none, List.cons_append, List.nil_append, nl_i, nl_r, nl_l, nl_n, nI_leI, e1, ↓reduceIte, nI_add]
          exact ih _ _ _
        · intro k hk2 ihk a3 a4
          have e1 : ¬ 12 ≤ a + 1 + k := by omega
          rw [wsB] at ihk
          generalize wsB D a (wsA D a) k = z at ihk ⊢
          have hDa : D a (a + 1 + k) = dbD sb h f S A (J 5 11) a (a + 1 + k) := by rw [hD]
          rw [k34_40]
          simp (disch := omega) only [k34_41, k34_43, k34_46, k34_47, k34_48, k34_49_5, k34_52, k34_55, k34_56, k34_57, k34_58_5, k34_61, k34_64, k34_65, k34_66, k34_67, k34_68_5, k34_71, k34_72, Option.toList_some, Option.toList_none, List.cons_append, List.nil_append, nl_i, nl_r, nl_l, nl_n, nI_leI, e1, ↓reduceIte, hc32, hc33, bI_0, lg_cmp_le]
          have hw : wsJ 5 z J 5 13 = z.1 := by unfold wsJ; rw [va_up_s, va_up_s]
          rw [hw]
          have last : ∀ d : Int64, D a (a + 1 + k) = d → ∀ b3 b4 : Option Value, (if d ≤ z.1 then At 34 90 [some (.ref 5), some (.int (nI a)), some (.int (nI (a + 1 + k))), some (.long d), none] [] (wsI 5 z I) (wsJ 5 z J) (fun v' I1 J1 => v' = none ∧ I1 = wsI 5 (wsA D 12) I ∧ J1 = wsJ 5 (wsA D 12) J) else At 34 75 [some (.ref 5), some (.int (nI a)), some (.int (nI (a + 1 + k))), some (.long d), none] [] (wsI 5 z I) (wsJ 5 z J) (fun v' I1 J1 => v' = none ∧ I1 = wsI 5 (wsA D 12) I ∧ J1 = wsJ 5 (wsA D 12) J)) := by
            intro d hd b3 b4
            rw [hd] at ihk
            by_cases hq : d ≤ z.1
            · rw [if_pos hq] at ihk ⊢
              simp (disch := omega) only [k34_90, k34_93, Option.toList_some, Option.toList_none, List.cons_append, List.nil_append, nl_i, nl_r, nl_l, nl_n, nI_add]
              exact ihk _ _
            · rw [if_neg hq] at ihk ⊢
              unfold wsI wsJ at ihk
              unfold wsI wsJ
              simp (disch := omega) only [k34_75, k34_76, k34_77_5, k34_80, k34_81, k34_82_5, k34_85, k34_86, k34_87_5, k34_90, k34_93, Option.toList_some, Option.toList_none, List.cons_append, List.nil_append, nl_i, nl_r, nl_l, nl_n, nI_add, va_up_s, up_same, up_cm, id_eq] at ihk ⊢
              exact ihk _ _
          by_cases ht : ¬ sb a = -1 ∧ sb a = sb (a + 1 + k)
          · have eD : D a (a + 1 + k) = dbI A (dfl h f S a (a + 1 + k)) (J 5 11 * (S a + S (a + 1 + k))) 3 := by rw [hDa]; exact if_pos ht
            rw [if_neg (by rw [decide_eq_true ht]; decide)]
            exact last _ eD none none
          · have eD : D a (a + 1 + k) = 0 := by rw [hDa]; exact if_neg ht
            rw [if_pos (decide_eq_false ht)]
            exact last _ eD none none
      exact key2 _ _
  exact key _ _ _
theorem c34k_17 (hk : I 17 16 = nI 1) : Cal 34 [.ref 17] I J Q ↔ Q none I J := by
  rw [en34]
  simp (disch := omega) only [k34_0, k34_1_17, k34_4, k34_7, hk, eq0, Nat.reduceEqDiff, ↓reduceIte]
set_option maxRecDepth 100000 in
theorem c34_17 {h : Nat → Nat} {f : Nat} {S A : Nat → Int64} {sb : Nat → Int32} (hk : I 17 16 = nI 0) (hf : I 17 12 = nI f) (hh : ∀ s, s < 12 → I 19 s = nI (h s) ∧ h s < 16) (hS : J 20 = S) (hA : J 25 = A) (hsb : I 23 = sb) : Cal 34 [.ref 17] I J Q ↔ Q none (wsI 17 (wsA (dbD sb h f S A (J 17 11)) 12) I) (wsJ 17 (wsA (dbD sb h f S A (J 17 11)) 12) J) := by
  refine Cal_iff ?_
  generalize hD : dbD sb h f S A (J 17 11) = D
  have hc33 : ∀ (z : Int64 × Int32 × Int32) (a b : Nat) (K : Option Value → ab_I → ab_J → Prop), a < 12 → b < 12 → (Cal 33 [.ref 17, .int (nI a), .int (nI b)] (wsI 17 z I) (wsJ 17 z J) K ↔ K (some (.long (dbI A (dfl h f S a b) (J 17 11 * (S a + S b)) 3))) (wsI 17 z I) (wsJ 17 z J)) := by
    intro z a b K ha hb
    have e := c33_17 (I := wsI 17 z I) (J := wsJ 17 z J) (Q := K) (h := h) (f := f) (S := S) (A := A) hf hh hS hA ha hb
    exact e
  have hc32 : ∀ (z : Int64 × Int32 × Int32) (a b : Nat) (K : Option Value → ab_I → ab_J → Prop), a < 12 → b < 12 → (Cal 32 [.ref 17, .int (nI a), .int (nI b)] (wsI 17 z I) (wsJ 17 z J) K ↔ K (some (.int (bI (decide (¬ sb a = -1 ∧ sb a = sb b))))) (wsI 17 z I) (wsJ 17 z J)) := by
    intro z a b K ha hb
    have e := c32_17 (I := wsI 17 z I) (J := wsJ 17 z J) (Q := K) ha hb
    rw [show wsI 17 z I 23 = sb from hsb] at e
    exact e
  rw [en34]
  simp (disch := omega) only [k34_0, k34_1_17, k34_4, k34_8, k34_9, k34_10_17v1, k34_13, k34_14, k34_15_17, k34_18, k34_19, k34_20_17, k34_23, k34_24, k34_25_17, k34_28, k34_29, Option.toList_some, Option.toList_none, List.cons_append, List.nil_append, nl_i, nl_r, nl_l, nl_n, hk, eq0, ↓reduceIte, va_up_s, up_same, up_cm, id_eq]
  have key : ∀ a2 a3 a4 : Option Value, At 34 30 [some (.ref 17), some (.int (nI 0)), a2, a3, a4] [] (wsI 17 (wsA D 0) I) (wsJ 17 (wsA D 0) J) (fun v' I1 J1 => v' = none ∧ I1 = wsI 17 (wsA D 12) I ∧ J1 = wsJ 17 (wsA D 12) J) := by
    refine loop_dn (N := 12) (P := fun a => ∀ a2 a3 a4 : Option Value, At 34 30 [some (.ref 17), some (.int (nI a)), a2, a3, a4] [] (wsI 17 (wsA D a) I) (wsJ 17 (wsA D a) J) (fun v' I1 J1 => v' = none ∧ I1 = wsI 17 (wsA D 12) I ∧ J1 = wsJ 17 (wsA D 12) J)) ?_ ?_
    · intro a2 a3 a4
      rw [k34_30]
      simp (disch := omega) only [k34_31, k34_33, k34_102, nI_leI, Nat.le_refl, ↓reduceIte, and_self]
    · intro a ha ih a2 a3 a4
      have e0 : ¬ 12 ≤ a := by omega
      rw [k34_30]
      simp (disch := omega) only [k34_31, k34_33, k34_36, k34_37, k34_38, k34_39, Option.toList_some, Option.toList_none, List.cons_append, List.nil_append, nl_i, nl_r, nl_l, nl_n, nI_leI, e0, ↓reduceIte, nI_add]
      have key2 : ∀ a3 a4 : Option Value, At 34 40 [some (.ref 17), some (.int (nI a)), some (.int (nI (a + 1 + 0))), a3, a4] [] (wsI 17 (wsB D a (wsA D a) 0) I) (wsJ 17 (wsB D a (wsA D a) 0) J) (fun v' I1 J1 => v' = none ∧ I1 = wsI 17 (wsA D 12) I ∧ J1 = wsJ 17 (wsA D 12) J) := by
        refine loop_dn (N := 11 - a) (P := fun k => ∀ a3 a4 : Option Value, At 34 40 [some (.ref 17), some (.int (nI a)), some (.int (nI (a + 1 + k))), a3, a4] [] (wsI 17 (wsB D a (wsA D a) k) I) (wsJ 17 (wsB D a (wsA D a) k) J) (fun v' I1 J1 => v' = none ∧ I1 = wsI 17 (wsA D 12) I ∧ J1 = wsJ 17 (wsA D 12) J)) ?_ ?_
        · intro a3 a4
          have e1 : 12 ≤ a + 1 + (11 - a) := by omega
          rw [k34_40]
          simp (disch := omega) only [k34_41, k34_43, k34_96, k34_99, Option.toList_some, Option.toList_none, List.cons_append, List.nil_append, nl_i, nl_r, nl_l, nl_n, nI_leI, e1, ↓reduceIte, nI_add]
          exact ih _ _ _
        · intro k hk2 ihk a3 a4
          have e1 : ¬ 12 ≤ a + 1 + k := by omega
          rw [wsB] at ihk
          generalize wsB D a (wsA D a) k = z at ihk ⊢
          have hDa : D a (a + 1 + k) = dbD sb h f S A (J 17 11) a (a + 1 + k) := by rw [hD]
          rw [k34_40]
          simp (disch := omega) only [k34_41, k34_43, k34_46, k34_47, k34_48, k34_49_17, k34_52, k34_55, k34_56, k34_57, k34_58_17, k34_61, k34_64, k34_65, k34_66, k34_67, k34_68_17, k34_71, k34_72, Option.toList_some, Option.toList_none, List.cons_append, List.nil_append, nl_i, nl_r, nl_l, nl_n, nI_leI, e1, ↓reduceIte, hc32, hc33, bI_0, lg_cmp_le]
          have hw : wsJ 17 z J 17 13 = z.1 := by unfold wsJ; rw [va_up_s, va_up_s]
          rw [hw]
          have last : ∀ d : Int64, D a (a + 1 + k) = d → ∀ b3 b4 : Option Value, (if d ≤ z.1 then At 34 90 [some (.ref 17), some (.int (nI a)), some (.int (nI (a + 1 + k))), some (.long d), none] [] (wsI 17 z I) (wsJ 17 z J) (fun v' I1 J1 => v' = none ∧ I1 = wsI 17 (wsA D 12) I ∧ J1 = wsJ 17 (wsA D 12) J) else At 34 75 [some (.ref 17), some (.int (nI a)), some (.int (nI (a + 1 + k))), some (.long d), none] [] (wsI 17 z I) (wsJ 17 z J) (fun v' I1 J1 => v' = none ∧ I1 = wsI 17 (wsA D 12) I ∧ J1 = wsJ 17 (wsA D 12) J)) := by
            intro d hd b3 b4
            rw [hd] at ihk
            by_cases hq : d ≤ z.1
            · rw [if_pos hq] at ihk ⊢
              simp (disch := omega) only [k34_90, k34_93, Option.toList_some, Option.toList_none, List.cons_append, List.nil_append, nl_i, nl_r, nl_l, nl_n, nI_add]
              exact ihk _ _
            · rw [if_neg hq] at ihk ⊢
              unfold wsI wsJ at ihk
              unfold wsI wsJ
              simp (disch := omega) only [k34_75, k34_76, k34_77_17, k34_80, k34_81, k34_82_17, k34_85, k34_86, k34_87_17, k34_90, k34_93, Option.toList_some, Option.toList_none, List.cons_append, List.nil_append, nl_i, nl_r, nl_l, nl_n, nI_add, va_up_s, up_same, up_cm, id_eq] at ihk ⊢
              exact ihk _ _
          by_cases ht : ¬ sb a = -1 ∧ sb a = sb (a + 1 + k)
          · have eD : D a (a + 1 + k) = dbI A (dfl h f S a (a + 1 + k)) (J 17 11 * (S a + S (a + 1 + k))) 3 := by rw [hDa]; exact if_pos ht
            rw [if_neg (by rw [decide_eq_true ht]; decide)]
            exact last _ eD none none
          · have eD : D a (a + 1 + k) = 0 := by rw [hDa]; exact if_neg ht
            rw [if_pos (decide_eq_false ht)]
            exact last _ eD none none
      exact key2 _ _
  exact key _ _ _
end WORST
