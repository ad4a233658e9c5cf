/-! WHAT IS NEVER WRITTEN: behind an array's end -/
def SUP (I : ab_I) : Prop := ∀ k, (ab_ly k).1 ≠ 0 → ∀ j, (ab_ly k).2 ≤ j → I k j = 0
theorem SUP_pf {I : ab_I} {k c : Nat} {f : Nat → Int32} (h : ab_ly k = (0, c)) (hs : SUP I) : SUP (va_up I k f) := by
  intro k' h1 j hj
  by_cases e : k' = k
  · subst e; rw [h] at h1; exact absurd rfl h1
  · rw [va_up_n _ _ e]; exact hs k' h1 j hj
theorem SUP_ar {I : ab_I} {k : Nat} {x v : Int32} (h0 : 0 ≤ x.toInt) (h1 : x.toInt < (ab_ly k).2) (hs : SUP I) : SUP (va_up I k (va_up (I k) x.toNatClampNeg v)) := by
  intro k' h2 j hj
  by_cases e : k' = k
  · subst e
    have e2 : x.toNatClampNeg = x.toInt.toNat := rfl
    rw [va_up_s, va_up_n _ _ (by rw [e2]; omega)]
    exact hs k' h2 j hj
  · rw [va_up_n _ _ e]; exact hs k' h2 j hj
theorem SUP_cp {I : ab_I} {k h : Nat} {sp x y : Int32} (h0 : 0 ≤ x.toInt) (h3 : 0 ≤ y.toInt) (h1 : x.toInt + y.toInt ≤ (ab_ly k).2) (hs : SUP I) : SUP (va_up I k (va_cpy (I h) (I k) sp.toNatClampNeg x.toNatClampNeg y.toNatClampNeg)) := by
  intro k' h2 j hj
  by_cases e : k' = k
  · subst e
    have e2 : x.toNatClampNeg = x.toInt.toNat := rfl
    have e3 : y.toNatClampNeg = y.toInt.toNat := rfl
    rw [va_up_s]
    unfold va_cpy
    rw [if_neg (by rw [e2, e3]; omega)]
    exact hs k' h2 j hj
  · rw [va_up_n _ _ e]; exact hs k' h2 j hj
theorem SUP_nw {I : ab_I} {k : Nat} (hs : SUP I) : SUP (va_up I k (fun _ => 0)) := by
  intro k' h1 j hj
  by_cases e : k' = k
  · subst e; rw [va_up_s]
  · rw [va_up_n _ _ e]; exact hs k' h1 j hj
set_option maxHeartbeats 1000000 in
theorem SUP_he {o : Nat} {b : Bool} {i : Instr} {st st' : List Value} {z z' : ab_S} (hs : SUP z.1) (h : ab_he o b i st z = some (st', z')) : SUP z'.1 := by
  unfold ab_he at h
  split at h
  all_goals first
    | (rw [Option.map_eq_some_iff] at h; obtain ⟨_, _, h2⟩ := h; cases h2; exact hs)
    | (repeat' split at h) <;> first
      | (cases h; exact hs)
      | (rename_i hc; cases h; exact SUP_pf hc.1 hs)
      | (rename_i hc; cases h; exact SUP_ar hc.2.2.1 hc.2.2.2 hs)
      | (rename_i hc; cases h; exact SUP_ar hc.2.2.2.1 hc.2.2.2.2 hs)
      | (rename_i hc; cases h; exact SUP_cp hc.2.2.2.1 hc.2.1 hc.2.2.2.2.2 hs)
      | (cases h)
theorem SUP_nw' {o : Nat} {i : Instr} {ls : ab_L} {st st' : List Value} {z z' : ab_S} (hs : SUP z.1) (h : ab_nw o i ls st z = some (st', z')) : SUP z'.1 := by
  unfold ab_nw at h
  split at h
  all_goals (repeat' split at h) <;> first | (cases h; exact SUP_nw hs) | (cases h)
theorem SUP_ex {o : Nat} {b : Bool} {i : Instr} {pc : Nat} {ls : ab_L} {st : List Value} {z : ab_S} {q : Nat × ab_L × List Value × ab_S} (hs : SUP z.1) (h : ab_ex o b i pc ls st z = some q) : SUP q.2.2.2.1 := by
  unfold ab_ex at h
  split at h
  · cases h; exact hs
  · split at h
    · cases h; exact hs
    · split at h
      · split at h
        · cases h; exact hs
        · cases h
      · split at h
        · rename_i hq; cases h; exact SUP_he hs hq
        · split at h
          · rename_i hq; cases h; exact SUP_nw' hs hq
          · cases h
theorem SUP_run : ∀ (n y pc : Nat) (ls : ab_L) (st : List Value) (z : ab_S) (v : Option Value) (z' : ab_S), SUP z.1 → ab_run n y pc ls st z = some (v, z') → SUP z'.1
  | 0, _, _, _, _, _, _, _, _, h => by cases h
  | n + 1, y, pc, ls, st, z, v, z', hs, h => by
    unfold ab_run at h
    split at h
    · cases h
    · split at h
      · cases h; exact hs
      · split at h
        · rw [Option.bind_eq_some_iff] at h
          obtain ⟨r, h1, h2⟩ := h
          split at h2
          · exact SUP_run n _ _ _ _ _ _ _ (SUP_run n _ _ _ _ _ r.1 r.2 hs h1) h2
          · cases h2
        · rw [Option.bind_eq_some_iff] at h
          obtain ⟨q, h1, h2⟩ := h
          exact SUP_run n _ _ _ _ _ _ _ (SUP_ex hs h1) h2
/-- the closed runs, as equations -/
theorem zz_1 : ab_nw 11 (.new 7) [some (.ref 999), none, none, none] [] ab_s0 = some ([.ref 0], zz1) := by
  have h := zckn_1
  unfold zckn at h
  split at h
  · rename_i q z hq
    simp only [Bool.and_eq_true, decide_eq_true_eq] at h
    rw [zz1, hq, h.1]
    rfl
  · cases h
theorem zz_2 : ab_run 3000 75 0 (ab_en (ab_row 75).2.2.1 [.ref 0]) [] zz1 = some (none, zz2) ∧ zz2.2.2.2 = 49 := by
  have h := zck1_t
  unfold zck1 at h
  split at h
  · rename_i z hq
    have e : zz2 = z := by rw [zz2, hq]; rfl
    rw [e]
    exact ⟨hq, of_decide_eq_true h⟩
  · cases h
theorem zz_3 : ab_nw 11 (.new 10) [some (.ref 999), some (.ref 0), none, none] [] zz2 = some ([.ref 49], zz3) ∧ zz3.2.2.2 = 50 := by
  have h := zckn_3
  unfold zckn at h
  split at h
  · rename_i q z hq
    simp only [Bool.and_eq_true, decide_eq_true_eq] at h
    have e : zz3 = z := by rw [zz3, hq]; rfl
    rw [e, hq, h.1]
    exact ⟨rfl, h.2⟩
  · cases h
theorem zz_4 : ab_run 3000 125 0 (ab_en (ab_row 125).2.2.1 [.ref 49]) [] zz3 = some (none, zz4) ∧ zz4.2.2 = (ab_RF, 75) := by
  have h := zck2_t
  unfold zck2 at h
  split at h
  · rename_i z hq
    have e : zz4 = z := by rw [zz4, hq]; rfl
    rw [e]
    exact ⟨hq, of_decide_eq_true h⟩
  · cases h
theorem zz4_sup : SUP zz4.1 := by
  have h0 : SUP ab_s0.1 := fun _ _ _ _ => rfl
  have h1 := SUP_nw' h0 zz_1
  have h2 := SUP_run _ _ _ _ _ _ _ _ h1 zz_2.1
  have h3 := SUP_nw' h2 zz_3.1
  exact SUP_run _ _ _ _ _ _ _ _ h3 zz_4.1
