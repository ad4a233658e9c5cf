/-! CONTRACTS: tie, copyWith -/
theorem up_cm {α : Type} (f : Nat → α) {a b : Nat} (v w : α) (h : a < b) : va_up (va_up f b w) a v = va_up (id (va_up f a v)) b w := up_comm f v w h
/-- what follows from who marked what: connected markers, free markers -/
def wC (c : Nat → Int32) : Nat → Nat := w1 (fun m => rb (hnd c) m 12) 4
def fC (c : Nat → Int32) : Nat := fr (wC c) 4
theorem wC_lt (c : Nat → Int32) {m : Nat} (hm : m < 4) : wC c m < 16 := w1_lt (fun m _ => rb_lt (fun s _ => hnd_lt c s) m 12 (Nat.le_refl _)) 4 (Nat.le_refl _) m hm
theorem fC_lt (c : Nat → Int32) : fC c < 16 := fr_lt _ 4 (Nat.le_refl _)
/-- shares and rows of the marks c, over what the arrays held -/
def shC (c : Nat → Int32) (g : Nat → Int64) : Nat → Int64 := fll (fun s => lN (shr (hnd c s))) g 12
def rwC (c : Nat → Int32) (g g2 : Nat → Int64) : Nat → Int64 := fll (rS (hnd c) (fC c) (shC c g) 12) g2 9
def whR (R : Nat → Int64) : Int64 := R 0 * cof R 0 0 + R 1 * cof R 0 1 + R 2 * cof R 0 2
def tiI (B : Nat) (c : Nat → Int32) (I : ab_I) : ab_I := va_up (va_up (va_up (va_up (va_up I B (va_up (va_up (I B) 12 (nI (fC c))) 16 (nI 0))) (B + 2) (fll (fun s => nI (hnd c s)) (I (B + 2)) 12)) (B + 4) (fll (fun m => nI (wC c m)) (I (B + 4)) 4)) (B + 5) (fll (fun m => lbit (wC c m)) (I (B + 5)) 4)) (B + 6) (fll (sbF (wC c) (hnd c)) (I (B + 6)) 12)
def tiJ (B : Nat) (c : Nat → Int32) (J : ab_J) : ab_J := va_up (va_up (va_up (va_up J B (va_up (J B) 11 (whR (rwC c (J (B + 3)) (J (B + 7)))))) (B + 3) (shC c (J (B + 3)))) (B + 7) (rwC c (J (B + 3)) (J (B + 7)))) (B + 8) (fll (fun k => cof (rwC c (J (B + 3)) (J (B + 7))) (k / 3) (k % 3)) (J (B + 8)) 9)
section TIED
variable {I : ab_I} {J : ab_J} {Q : Option Value → ab_I → ab_J → Prop} {x x1 x2 : Int32} {u : Int64}
set_option maxRecDepth 100000 in
theorem c17_5 {c : Nat → Int32} (hc : I 6 = c) : Cal 17 [.ref 5] I J Q ↔ Q none (tiI 5 c I) (tiJ 5 c J) := by
  rw [en17]
  simp only [k17_0, k17_1, k17_2_5v0, k17_5, k17_6_5, Option.toList_some, Option.toList_none, List.cons_append, List.nil_append, nl_i, nl_r, nl_l, nl_n]
  refine Iff.trans (c18_5 (c := c) ?_) ?_
  · exact hc
  simp only [Option.toList_some, Option.toList_none, List.cons_append, List.nil_append, nl_i, nl_r, nl_l, nl_n, k17_9, k17_10_5]
  refine Iff.trans (c19_5 (h := hnd c) ?_) ?_
  · intro s hs
    refine ⟨?_, hnd_lt c s⟩
    simp (disch := omega) only [va_up_s, up_ne]
    exact fll_lt hs
  simp only [Option.toList_some, Option.toList_none, List.cons_append, List.nil_append, nl_i, nl_r, nl_l, nl_n, k17_13, k17_14_5]
  refine Iff.trans (c20_5 (w := wC c) (h := hnd c) ?_ ?_) ?_
  · intro m hm
    refine ⟨?_, wC_lt c hm⟩
    simp (disch := omega) only [va_up_s, up_ne]
    exact fll_lt hm
  · intro s hs
    refine ⟨?_, hnd_lt c s⟩
    simp (disch := omega) only [va_up_s, up_ne]
    exact fll_lt hs
  simp only [Option.toList_some, Option.toList_none, List.cons_append, List.nil_append, nl_i, nl_r, nl_l, nl_n, k17_17, k17_18_5]
  refine Iff.trans (c21_5 (h := hnd c) (f := fC c) (S := shC c (J 8)) ?_ (fC_lt c) ?_ ?_) ?_
  · rfl
  · intro s hs
    refine ⟨?_, hnd_lt c s⟩
    simp (disch := omega) only [va_up_s, up_ne]
    exact fll_lt hs
  · rfl
  simp only [Option.toList_some, Option.toList_none, List.cons_append, List.nil_append, nl_i, nl_r, nl_l, nl_n, k17_21, k17_22_5]
  refine Iff.trans c25_5 ?_
  simp (disch := omega) only [Option.toList_some, Option.toList_none, List.cons_append, List.nil_append, nl_i, nl_r, nl_l, nl_n, k17_25, up_ne, va_up_s, up_same, up_cm, id_eq]
  rfl
set_option maxRecDepth 100000 in
theorem c17_17 {c : Nat → Int32} (hc : I 18 = c) : Cal 17 [.ref 17] I J Q ↔ Q none (tiI 17 c I) (tiJ 17 c J) := by
  rw [en17]
  simp only [k17_0, k17_1, k17_2_17v0, k17_5, k17_6_17, Option.toList_some, Option.toList_none, List.cons_append, List.nil_append, nl_i, nl_r, nl_l, nl_n]
  refine Iff.trans (c18_17 (c := c) ?_) ?_
  · exact hc
  simp only [Option.toList_some, Option.toList_none, List.cons_append, List.nil_append, nl_i, nl_r, nl_l, nl_n, k17_9, k17_10_17]
  refine Iff.trans (c19_17 (h := hnd c) ?_) ?_
  · intro s hs
    refine ⟨?_, hnd_lt c s⟩
    simp (disch := omega) only [va_up_s, up_ne]
    exact fll_lt hs
  simp only [Option.toList_some, Option.toList_none, List.cons_append, List.nil_append, nl_i, nl_r, nl_l, nl_n, k17_13, k17_14_17]
  refine Iff.trans (c20_17 (w := wC c) (h := hnd c) ?_ ?_) ?_
  · intro m hm
    refine ⟨?_, wC_lt c hm⟩
    simp (disch := omega) only [va_up_s, up_ne]
    exact fll_lt hm
  · intro s hs
    refine ⟨?_, hnd_lt c s⟩
    simp (disch := omega) only [va_up_s, up_ne]
    exact fll_lt hs
  simp only [Option.toList_some, Option.toList_none, List.cons_append, List.nil_append, nl_i, nl_r, nl_l, nl_n, k17_17, k17_18_17]
  refine Iff.trans (c21_17 (h := hnd c) (f := fC c) (S := shC c (J 20)) ?_ (fC_lt c) ?_ ?_) ?_
  · rfl
  · intro s hs
    refine ⟨?_, hnd_lt c s⟩
    simp (disch := omega) only [va_up_s, up_ne]
    exact fll_lt hs
  · rfl
  simp only [Option.toList_some, Option.toList_none, List.cons_append, List.nil_append, nl_i, nl_r, nl_l, nl_n, k17_21, k17_22_17]
  refine Iff.trans c25_17 ?_
  simp (disch := omega) only [Option.toList_some, Option.toList_none, List.cons_append, List.nil_append, nl_i, nl_r, nl_l, nl_n, k17_25, up_ne, va_up_s, up_same, up_cm, id_eq]
  rfl
set_option maxRecDepth 100000 in
theorem c16_17 {k : Nat} (hk : k < 48) : Cal 16 [.ref 17, .ref 5, .int (nI k), .int x] I J Q ↔ Q none (tiI 17 (fll (va_up (I 6) k x) (I 18) 48) (va_up I 18 (fll (va_up (I 6) k x) (I 18) 48))) (tiJ 17 (fll (va_up (I 6) k x) (I 18) 48) J) := by
  refine Cal_iff ?_
  rw [en16]
  simp only [k16_0, k16_1, Option.toList_some, Option.toList_none, List.cons_append, List.nil_append, nl_i, nl_r, nl_l, nl_n]
  have key : At 16 3 [some (.ref 17), some (.ref 5), some (.int (nI k)), some (.int x), some (.int (nI 0))] [] (va_up I 18 (fll (va_up (I 6) k x) (I 18) 0)) J (fun v' I1 J1 => v' = none ∧ I1 = tiI 17 (fll (va_up (I 6) k x) (I 18) 48) (va_up I 18 (fll (va_up (I 6) k x) (I 18) 48)) ∧ J1 = tiJ 17 (fll (va_up (I 6) k x) (I 18) 48) J) := by
    refine loop_dn (N := 48) (P := fun i => At 16 3 [some (.ref 17), some (.ref 5), some (.int (nI k)), some (.int x), some (.int (nI i))] [] (va_up I 18 (fll (va_up (I 6) k x) (I 18) i)) J (fun v' I1 J1 => v' = none ∧ I1 = tiI 17 (fll (va_up (I 6) k x) (I 18) 48) (va_up I 18 (fll (va_up (I 6) k x) (I 18) 48)) ∧ J1 = tiJ 17 (fll (va_up (I 6) k x) (I 18) 48) J)) ?_ ?_
    · rw [k16_3]
      simp (disch := omega) only [k16_5, k16_7, k16_40, k16_41_17, Option.toList_some, Option.toList_none, List.cons_append, List.nil_append, nl_i, nl_r, nl_l, nl_n, nI_leI, Nat.le_refl, ↓reduceIte]
      refine (c17_17 (c := fll (va_up (I 6) k x) (I 18) 48) (va_up_s _ _ _)).mpr ?_
      simp only [Option.toList_some, Option.toList_none, List.cons_append, List.nil_append, nl_i, nl_r, nl_l, nl_n, k16_44, and_self]
    · intro i hi ih
      have e0 : ¬ 48 ≤ i := by omega
      rw [← fll_s] at ih
      rw [k16_3]
      simp (disch := omega) only [k16_0, k16_1, k16_5, k16_7, k16_10, k16_11_5, k16_11_17, k16_14, k16_16, k16_18, k16_19, k16_22, k16_23, k16_26, k16_27_5, k16_27_17, k16_30, k16_32, k16_33, k16_34, k16_37, k16_44, Option.toList_some, Option.toList_none, List.cons_append, List.nil_append, nl_i, nl_r, nl_l, nl_n, nI_leI, e0, ↓reduceIte, nI_clamp, bnd, ly_6, ly_18, Nat.reduceLT, true_and, and_true, va_up_s, up_same, up_ne, nIeq, nI_add]
      split
      · rename_i hq
        rw [va_up_n _ _ hq] at ih
        exact ih
      · rename_i hq
        have hq := Classical.not_not.mp hq
        subst hq
        rw [va_up_s] at ih
        exact ih
  rw [fll_0, up_id] at key
  exact key
end TIED
