/-! CONTRACTS: settle -/
def pulC (c : Nat → Int32) (S : Nat → Int64) : Nat → Int64 := fun i => pl c (hnd c) (fC c) S i 12
/-- weigh over the longs J of the balance B with the marks c -/
def weJ (B : Nat) (c : Nat → Int32) (J : ab_J) : ab_J := va_up (va_up (va_up J (B + 9) (fll (pulC c (J (B + 3))) (J (B + 9)) 3)) (B + 10) (fll (hrd (J (B + 8)) (pulC c (J (B + 3)))) (J (B + 10)) 4)) (B + 11) (fll (wrt c (hnd c) (J (B + 3)) (hrd (J (B + 8)) (pulC c (J (B + 3)))) (J B 11)) (J (B + 11)) 12)
/-- the ints behind settle: nothing is stale, the next step isn't known, marks C in the order O, what hangs on them -/
def stI (C O : Nat → Int32) (I : ab_I) : ab_I := tiI 5 C (va_up (va_up (va_up (va_up I 0 (va_up (I 0) 10 (nI 0))) 6 C) 29 (va_up (I 29) 0 (nI 0))) 47 O)
section SETTLE
variable {I : ab_I} {J : ab_J} {Q : Option Value → ab_I → ab_J → Prop} {x x1 x2 : Int32} {u : Int64}
theorem c27t_5 {c : Nat → Int32} {I0 : ab_I} (hc : I0 6 = c) : Cal 27 [.ref 5] (tiI 5 c I0) J Q ↔ Q none (tiI 5 c I0) (weJ 5 c J) := by
  refine Iff.trans (c27_5 (c := c) (h := hnd c) (f := fC c) (S := J 8) (A := J 13) ?_ ?_ ?_ rfl rfl) Iff.rfl
  · exact hc
  · rfl
  · intro s hs
    refine ⟨?_, hnd_lt c s⟩
    unfold tiI
    simp (disch := omega) only [va_up_s, up_ne]
    exact fll_lt hs
theorem c27t_17 {c : Nat → Int32} {I0 : ab_I} (hc : I0 18 = c) : Cal 27 [.ref 17] (tiI 17 c I0) J Q ↔ Q none (tiI 17 c I0) (weJ 17 c J) := by
  refine Iff.trans (c27_17 (c := c) (h := hnd c) (f := fC c) (S := J 20) (A := J 25) ?_ ?_ ?_ rfl rfl) Iff.rfl
  · exact hc
  · rfl
  · intro s hs
    refine ⟨?_, hnd_lt c s⟩
    unfold tiI
    simp (disch := omega) only [va_up_s, up_ne]
    exact fll_lt hs
theorem c110a (h : I 0 10 = nI 0) : Cal 110 [.ref 0] I J Q ↔ Q none I J := by
  rw [en110]
  simp (disch := omega) only [k110_0, k110_1, k110_4, k110_7, h, eq0, not_true_eq_false, ↓reduceIte]
set_option maxRecDepth 100000 in
theorem c110b {n : Nat} {tc : Nat → Nat} (hst : ¬ I 0 10 = nI 0) (h : I 1 3 = nI n) (hn : n ≤ 100) (hc : ∀ i, i < n → tc i < 48 ∧ I 2 i = nI (tc i)) : Cal 110 [.ref 0] I J Q ↔ Q none (stI (lyF (I 6) (I 47) tc (I 3) (I 4) (I 1 5) n).1 (lyF (I 6) (I 47) tc (I 3) (I 4) (I 1 5) n).2 I) (weJ 5 (lyF (I 6) (I 47) tc (I 3) (I 4) (I 1 5) n).1 (tiJ 5 (lyF (I 6) (I 47) tc (I 3) (I 4) (I 1 5) n).1 J)) := by
  have hst' : ¬ I 0 10 = 0 := hst
  rw [en110]
  simp (disch := omega) only [k110_0, k110_1, k110_4, k110_7, k110_8, k110_9, k110_10v0, k110_10v1, k110_13, k110_14, k110_17, k110_18v0, k110_18v1, k110_21, k110_22, k110_25, k110_26, k110_29_5, k110_29_17, k110_32, k110_33, k110_36, k110_39, k110_40, k110_43_5, k110_43_17, k110_46, k110_47, k110_50_5, k110_50_17, k110_53, Option.toList_some, Option.toList_none, List.cons_append, List.nil_append, nl_i, nl_r, nl_l, nl_n, hst', not_false_eq_true, ↓reduceIte]
  refine Iff.trans (c70 (n := n) (tc := tc) ?_ hn ?_) ?_
  · simp (disch := omega) only [up_ne]; exact h
  · intro i hi
    simp (disch := omega) only [up_ne]
    exact hc i hi
  simp (disch := omega) only [Option.toList_some, Option.toList_none, List.cons_append, List.nil_append, nl_i, nl_r, nl_l, nl_n, k110_0, k110_1, k110_4, k110_7, k110_8, k110_9, k110_10v0, k110_10v1, k110_13, k110_14, k110_17, k110_18v0, k110_18v1, k110_21, k110_22, k110_25, k110_26, k110_29_5, k110_29_17, k110_32, k110_33, k110_36, k110_39, k110_40, k110_43_5, k110_43_17, k110_46, k110_47, k110_50_5, k110_50_17, k110_53, up_ne, va_up_s, up_same, up_cm, id_eq]
  refine Iff.trans (c17_5 (c := (lyF (I 6) (I 47) tc (I 3) (I 4) (I 1 5) n).1) ?_) ?_
  · simp (disch := omega) only [up_ne, va_up_s]
  simp (disch := omega) only [Option.toList_some, Option.toList_none, List.cons_append, List.nil_append, nl_i, nl_r, nl_l, nl_n, k110_0, k110_1, k110_4, k110_7, k110_8, k110_9, k110_10v0, k110_10v1, k110_13, k110_14, k110_17, k110_18v0, k110_18v1, k110_21, k110_22, k110_25, k110_26, k110_29_5, k110_29_17, k110_32, k110_33, k110_36, k110_39, k110_40, k110_43_5, k110_43_17, k110_46, k110_47, k110_50_5, k110_50_17, k110_53, up_ne, va_up_s, up_same, up_cm, id_eq]
  refine Iff.trans (c27t_5 ?_) ?_
  · simp (disch := omega) only [up_ne, va_up_s]
  simp (disch := omega) only [Option.toList_some, Option.toList_none, List.cons_append, List.nil_append, nl_i, nl_r, nl_l, nl_n, k110_0, k110_1, k110_4, k110_7, k110_8, k110_9, k110_10v0, k110_10v1, k110_13, k110_14, k110_17, k110_18v0, k110_18v1, k110_21, k110_22, k110_25, k110_26, k110_29_5, k110_29_17, k110_32, k110_33, k110_36, k110_39, k110_40, k110_43_5, k110_43_17, k110_46, k110_47, k110_50_5, k110_50_17, k110_53]
  rfl
end SETTLE
