/-! CONTRACTS: commonDivisor, side -/
def cdF : Nat → Int64 → Int64 → Int64
  | 0, g, _ => g
  | n + 1, g, l => if l = 0 then g else cdF n l (g - g / l * l)
def sdF (a b : Int64) (w : Int32) : Int64 := if 0 < cdF 100 (abL a) b then (if ¬ w = 0 then b / cdF 100 (abL a) b else a / cdF 100 (abL a) b) else 0
section SIDE
variable {I : ab_I} {J : ab_J} {Q : Option Value → ab_I → ab_J → Prop} {x x1 x2 : Int32} {u : Int64}
set_option maxRecDepth 100000 in
theorem c123 {a b : Int64} : Cal 123 [.long a, .long b] I J Q ↔ Q (some (.long (cdF 100 a b))) I J := by
  refine Cal_iff ?_
  rw [en123]
  simp only [k123_0, k123_1, k123_3, k123_4, k123_6, k123_7, Option.toList_some, Option.toList_none, List.cons_append, List.nil_append, nl_i, nl_r, nl_l, nl_n]
  have key : ∀ (n i : Nat) (g l : Int64) (a9 a10 : Option Value), i + n = 100 → At 123 9 [some (.long a), none, some (.long b), none, some (.long g), none, some (.long l), none, some (.int (nI i)), a9, a10] [] I J (fun v' I1 J1 => v' = some (.long (cdF n g l)) ∧ I1 = I ∧ J1 = J) := by
    intro n
    induction n with
    | zero =>
      intro i g l a9 a10 hi
      have e0 : 100 ≤ i := by omega
      rw [k123_9]
      simp (disch := omega) only [k123_11, k123_13, k123_44, k123_46, nI_leI, e0, ↓reduceIte, cdF, and_self]
    | succ n ih =>
      intro i g l a9 a10 hi
      have e0 : ¬ 100 ≤ i := by omega
      rw [k123_9]
      by_cases hl : l = 0
      · simp (disch := omega) only [k123_11, k123_13, k123_16, k123_18, k123_19, k123_20, k123_44, k123_46, nI_leI, e0, ↓reduceIte, lg_cmp_eq, hl, cdF, and_self]
      · have ih2 := ih (i + 1) l (g - g / l * l) (some (.long (g - g / l * l))) none (by omega)
        rw [cdF, if_neg hl]
        simp (disch := omega) only [k123_0, k123_1, k123_3, k123_4, k123_6, k123_7, k123_11, k123_13, k123_16, k123_18, k123_19, k123_20, k123_23, k123_25, k123_27, k123_28, k123_30, k123_32, k123_34, k123_36, k123_38, k123_41, k123_44, k123_46, Option.toList_some, Option.toList_none, List.cons_append, List.nil_append, nl_i, nl_r, nl_l, nl_n, nI_leI, e0, ↓reduceIte, lg_cmp_eq, hl, not_false_eq_true, true_and, nI_add]
        exact ih2
  exact key 100 0 a b none none rfl
set_option maxRecDepth 100000 in
theorem c122 {a b : Int64} : Cal 122 [.long a, .long b, .int x] I J Q ↔ Q (some (.long (sdF a b x))) I J := by
  have ea : ∀ u : Int64, (if 0 < u then u else -u) = abL u := fun _ => rfl
  rw [en122]
  simp (disch := omega) only [k122_0, k122_1, k122_4, k122_5, k122_8, k122_10, k122_12, k122_13, k122_14, k122_17, k122_18, k122_19, k122_21, k122_24, k122_25, k122_27, k122_28, k122_31, k122_32, k122_34, k122_35, Option.toList_some, Option.toList_none, List.cons_append, List.nil_append, nl_i, nl_r, nl_l, nl_n, ea, c123, lg_cmp_gt]
  unfold sdF
  by_cases h0 : 0 < cdF 100 (abL a) b
  · have hn : ¬ cdF 100 (abL a) b = 0 := by
      intro q
      rw [q] at h0
      exact absurd h0 (by decide)
    rw [if_pos h0, if_pos h0]
    by_cases hx : x = 0
    · rw [if_neg (show ¬ ¬ x = 0 from fun q => q hx), if_neg (show ¬ ¬ x = 0 from fun q => q hx)]
      exact ⟨fun q => q.2, fun q => ⟨hn, q⟩⟩
    · rw [if_pos hx, if_pos hx]
      exact ⟨fun q => q.2, fun q => ⟨hn, q⟩⟩
  · rw [if_neg h0, if_neg h0]
end SIDE
