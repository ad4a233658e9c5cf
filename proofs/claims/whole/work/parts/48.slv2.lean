/-! CONTRACTS: solves, the loops -/
section SLV
variable {I : ab_I} {J : ab_J} {Q : Option Value → ab_I → ab_J → Prop} {x x1 x2 : Int32} {u : Int64}
/-- a script is laid into the table -/
theorem Tz_s {h g : Nat → Nat} {n r c s b : Nat} (hh : h s < 16) (H : isAm h b n g) (hr : r < n) (hc : c < n) : Tz h g (s + 1) r c = Tz h g s r c + (if (h s).testBit (g r) && (h s).testBit (g c) then (if r = c then 12 else 0) - (shr (h s) : Int) else 0) := by
  unfold Tz
  rw [dN_s, wN_s]
  have g1 := H.2.2.1 r
  by_cases e : r = c
  · subst e
    rw [if_pos rfl, if_pos rfl, if_pos rfl, Bool.and_self]
    cases q : (h s).testBit (g r) with
    | false => simp
    | true =>
      have := (shr_f _ hh _ (by omega) q).2.1
      simp only [↓reduceIte]
      omega
  · rw [if_neg e, if_neg e, if_neg e]
    cases q : (h s).testBit (g r) && (h s).testBit (g c) with
    | false => simp
    | true =>
      simp only [↓reduceIte]
      omega
set_option maxRecDepth 100000 in
theorem s145_61 {c : Nat → Int32} {b n : Nat} {g : Nat → Nat} {f : Nat → Int64} {a3 a4 a5 a6 a7 : Option Value} (hc : I 55 = c) (hb : b < 4) (hL : ∀ k, k < 16 → I 57 k = enc (LB (hnd c) k)) (H : isAm (hnd c) b n g) (hA : ∀ r, r < n → I 58 r = nI (g r)) (hJ : J 59 = f)
    (hQ : ∀ a3 a4 a5 a6 a7 : Option Value, At 145 215 [some (.ref 49), some (.int (nI b)), some (.int (nI n)), a3, a4, a5, a6, a7] [] I (va_up J 59 (tab n (fun r c' => zL (Tz (hnd c) g 12 r c')) f)) Q) (hf0 : ∀ r c', r < n → c' < n → f (4 * r + c') = 0) : At 145 61 [some (.ref 49), some (.int (nI b)), some (.int (nI n)), a3, a4, a5, a6, a7] [] I J Q := by
  have hn := H.1
  have hg := H.2.2.1
  simp only [k145_61, k145_62, Option.toList_some, Option.toList_none, List.cons_append, List.nil_append, nl_i, nl_r, nl_l, nl_n]
  have key : ∀ a4 a5 a6 a7 : Option Value, At 145 63 [some (.ref 49), some (.int (nI b)), some (.int (nI n)), some (.int (nI 0)), a4, a5, a6, a7] [] I (va_up J 59 (tab n (fun r c' => zL (Tz (hnd c) g 0 r c')) f)) Q := by
    refine loop_dn (N := 12) (P := fun s => ∀ a4 a5 a6 a7 : Option Value, At 145 63 [some (.ref 49), some (.int (nI b)), some (.int (nI n)), some (.int (nI s)), a4, a5, a6, a7] [] I (va_up J 59 (tab n (fun r c' => zL (Tz (hnd c) g s r c')) f)) Q) ?_ ?_
    · intro a4 a5 a6 a7
      rw [k145_63]
      simp (disch := omega) only [k145_64, k145_66, nI_leI, Nat.le_refl, ↓reduceIte]
      exact hQ _ _ _ _ _
    · intro s hs ih a4 a5 a6 a7
      have e0 : ¬ 12 ≤ s := by omega
      have hLs := hL s (by omega)
      have hLB : LB (hnd c) s = slb (hnd c) s := by unfold LB; rw [if_pos hs]
      rw [hLB] at hLs
      have henc : (enc (slb (hnd c) s) = nI b) = (slb (hnd c) s = b) := by rw [← enc_lt hb]; exact enc_eq (slb_le4 _ _) (by omega)
      have hit : ∀ r, r < n → (hnd c s).testBit (g r) = true → slb (hnd c) s = b := fun r hr q => by rw [slb_of hs (hg r).2 q]; exact (H.2.1 r hr).2
      rw [k145_63]
      simp (disch := omega) only [k145_64, k145_66, k145_69, k145_70, k145_73, k145_74, k145_75, k145_76, Option.toList_some, Option.toList_none, List.cons_append, List.nil_append, nl_i, nl_r, nl_l, nl_n, nI_leI, e0, ↓reduceIte, nI_clamp, bnd, ly_57, Nat.reduceLT, true_and, and_true, hLs, henc]
      by_cases hlab : slb (hnd c) s = b
      · rw [if_neg (show ¬ ¬ slb (hnd c) s = b from fun q => q hlab)]
        have hpop : 0 < pop (hnd c s) := by
          refine Nat.pos_of_ne_zero (fun q => ?_)
          have := (slb_4 hs (hnd_lt c s)).mpr ((pop_0 _ (hnd_lt c s)).mp q)
          omega
        have hpl := pop_le (hnd c s)
        have hshr : shr (hnd c s) = 12 / pop (hnd c s) := by unfold shr; rw [if_neg (by omega)]
        simp (disch := omega) only [k145_79, k145_80, k145_81, k145_84, k145_88, k145_90, k145_91, Option.toList_some, Option.toList_none, List.cons_append, List.nil_append, nl_i, nl_r, nl_l, nl_n, c143 hs, hc, msF_pop]
        have rl : ∀ a6 a7 : Option Value, At 145 93 [some (.ref 49), some (.int (nI b)), some (.int (nI n)), some (.int (nI s)), some (.int (nI (pop (hnd c s)))), some (.int (nI 0)), a6, a7] [] I (va_up J 59 (tabP n (fun r c' => zL (Tz (hnd c) g s r c')) (fun r c' => zL (Tz (hnd c) g (s + 1) r c')) 0 0 f)) Q := by
          refine loop_dn (N := n) (P := fun r => ∀ a6 a7 : Option Value, At 145 93 [some (.ref 49), some (.int (nI b)), some (.int (nI n)), some (.int (nI s)), some (.int (nI (pop (hnd c s)))), some (.int (nI r)), a6, a7] [] I (va_up J 59 (tabP n (fun r c' => zL (Tz (hnd c) g s r c')) (fun r c' => zL (Tz (hnd c) g (s + 1) r c')) r 0 f)) Q) ?_ ?_
          · intro a6 a7
            rw [k145_93]
            simp (disch := omega) only [k145_95, k145_96, k145_209, k145_212, Option.toList_some, Option.toList_none, List.cons_append, List.nil_append, nl_i, nl_r, nl_l, nl_n, nI_leI, Nat.le_refl, ↓reduceIte, nI_add, tabP_n]
            exact ih _ _ _ _
          · intro r hr ih2 a6 a7
            have e1 : ¬ n ≤ r := by omega
            have e2 : ¬ pop (hnd c s) ≤ 0 := by omega
            have hAr := hA r hr
            have hgr := (hg r).2
            rw [k145_93]
            simp (disch := omega) only [k145_95, k145_96, k145_99, k145_101, k145_104, k145_105, Option.toList_some, Option.toList_none, List.cons_append, List.nil_append, nl_i, nl_r, nl_l, nl_n, nI_leI, e1, e2, ↓reduceIte, ← nI_0]
            have cl : ∀ a7 : Option Value, At 145 107 [some (.ref 49), some (.int (nI b)), some (.int (nI n)), some (.int (nI s)), some (.int (nI (pop (hnd c s)))), some (.int (nI r)), some (.int (nI 0)), a7] [] I (va_up J 59 (tabP n (fun r c' => zL (Tz (hnd c) g s r c')) (fun r c' => zL (Tz (hnd c) g (s + 1) r c')) r 0 f)) Q := by
              refine loop_dn (N := n) (P := fun c' => ∀ a7 : Option Value, At 145 107 [some (.ref 49), some (.int (nI b)), some (.int (nI n)), some (.int (nI s)), some (.int (nI (pop (hnd c s)))), some (.int (nI r)), some (.int (nI c')), a7] [] I (va_up J 59 (tabP n (fun r c' => zL (Tz (hnd c) g s r c')) (fun r c' => zL (Tz (hnd c) g (s + 1) r c')) r c' f)) Q) ?_ ?_
              · intro a7
                rw [k145_107]
                simp (disch := omega) only [k145_109, k145_110, k145_203, k145_206, Option.toList_some, Option.toList_none, List.cons_append, List.nil_append, nl_i, nl_r, nl_l, nl_n, nI_leI, Nat.le_refl, ↓reduceIte, nI_add, tabP_r]
                exact ih2 _ _
              · intro q hq ih3 a7
                have e3 : ¬ n ≤ q := by omega
                have hAq := hA q hq
                have hgq := (hg q).2
                have b1 := hnd_bit c s hgr
                have b2 := hnd_bit c s hgq
                have hstep := Tz_s (s := s) (hnd_lt c s) H hr hq
                rw [b1, b2] at hstep
                have fin : ∀ v7 : Option Value, At 145 195 [some (.ref 49), some (.int (nI b)), some (.int (nI n)), some (.int (nI s)), some (.int (nI (pop (hnd c s)))), some (.int (nI r)), some (.int (nI q)), v7] [.long (zL (if decide (c (4 * s + g r) ≠ -1) && decide (c (4 * s + g q) ≠ -1) then (if r = q then 12 else 0) - (shr (hnd c s) : Int) else 0)), .long (zL (Tz (hnd c) g s r q)), .int (nI (4 * r + q)), .ref 59] I (va_up J 59 (tabP n (fun r c' => zL (Tz (hnd c) g s r c')) (fun r c' => zL (Tz (hnd c) g (s + 1) r c')) r q f)) Q := by
                  intro v7
                  simp (disch := omega) only [k145_195, k145_196, k145_197, k145_200, Option.toList_some, Option.toList_none, List.cons_append, List.nil_append, nl_i, nl_r, nl_l, nl_n, zL_add, ← hstep, nI_clamp, bnd, ly_59, Nat.reduceLT, true_and, and_true, va_up_s, up_same, nI_add, tabP_s hn hr hq]
                  exact ih3 _
                have tv := tabP_v (T := fun r c' => zL (Tz (hnd c) g s r c')) (T' := fun r c' => zL (Tz (hnd c) g (s + 1) r c')) (f := f) hn hr hq
                rw [k145_107]
                simp (disch := omega) only [k145_109, k145_110, k145_113, k145_114, k145_115, k145_116, k145_119, k145_121, k145_122, k145_125, k145_126, Option.toList_some, Option.toList_none, List.cons_append, List.nil_append, nl_i, nl_r, nl_l, nl_n, nI_leI, e3, ↓reduceIte, nI_clamp, bnd, ly_58, Nat.reduceLT, true_and, and_true, hAr, c140 hs hgr, hc]
                by_cases q1 : c (4 * s + g r) = -1
                · have := fin (some (.int (nI 0)))
                  simp only [q1, ne_eq, not_true_eq_false, decide_false, Bool.false_and, Bool.false_eq_true, ↓reduceIte, ← zL_0] at this
                  rw [if_pos q1]
                  simp (disch := omega) only [k145_149, k145_150, k145_152, k145_153, k145_156, k145_157, k145_159, k145_160, k145_162, k145_163, k145_164, k145_165, k145_167, k145_194, Option.toList_some, Option.toList_none, List.cons_append, List.nil_append, nl_i, nl_r, nl_l, nl_n, pk_mul, nI_add, nI_clamp, bnd, ly_59, Nat.reduceLT, true_and, and_true, va_up_s, tv, eq0, ↓reduceIte]
                  exact this
                · rw [if_neg q1]
                  simp (disch := omega) only [k145_129, k145_130, k145_131, k145_132, k145_135, k145_137, k145_138, k145_141, k145_142, Option.toList_some, Option.toList_none, List.cons_append, List.nil_append, nl_i, nl_r, nl_l, nl_n, nI_clamp, bnd, ly_58, Nat.reduceLT, true_and, and_true, hAq, c140 hs hgq, hc]
                  by_cases q2 : c (4 * s + g q) = -1
                  · have := fin (some (.int (nI 0)))
                    simp only [q2, ne_eq, not_true_eq_false, decide_false, Bool.and_false, Bool.false_eq_true, ↓reduceIte, ← zL_0] at this
                    rw [if_pos q2]
                    simp (disch := omega) only [k145_149, k145_150, k145_152, k145_153, k145_156, k145_157, k145_159, k145_160, k145_162, k145_163, k145_164, k145_165, k145_167, k145_194, Option.toList_some, Option.toList_none, List.cons_append, List.nil_append, nl_i, nl_r, nl_l, nl_n, pk_mul, nI_add, nI_clamp, bnd, ly_59, Nat.reduceLT, true_and, and_true, va_up_s, tv, eq0, ↓reduceIte]
                    exact this
                  · have := fin (some (.int (nI 1)))
                    simp only [q1, q2, ne_eq, not_false_eq_true, decide_true, Bool.and_self, ↓reduceIte] at this
                    rw [if_neg q2]
                    simp (disch := omega) only [k145_145, k145_146, k145_150, k145_152, k145_153, k145_156, k145_157, k145_159, k145_160, k145_162, k145_163, k145_164, k145_165, k145_167, k145_170, k145_172, k145_174, Option.toList_some, Option.toList_none, List.cons_append, List.nil_append, nl_i, nl_r, nl_l, nl_n, pk_mul, nI_add, nI_clamp, bnd, ly_59, Nat.reduceLT, true_and, and_true, va_up_s, tv, eq0, Nat.one_ne_zero, ↓reduceIte, nIeq]
                    by_cases q3 : r = q
                    · rw [if_pos q3] at this
                      rw [if_neg (show ¬ ¬ r = q from fun w => w q3)]
                      simp (disch := omega) only [k145_177, k145_180, k145_184, k145_186, k145_188, k145_189, k145_190, k145_191, eq0, idiv12, show ¬ pop (hnd c s) = 0 by omega, not_false_eq_true, true_and, ← hshr, lN_zL, zL_12, zL_sub]
                      exact this
                    · rw [if_neg q3] at this
                      rw [if_pos q3]
                      simp (disch := omega) only [k145_183, k145_184, k145_186, k145_188, k145_189, k145_190, k145_191, eq0, idiv12, show ¬ pop (hnd c s) = 0 by omega, not_false_eq_true, true_and, ← hshr, lN_zL, zL_0, zL_sub]
                      exact this
            exact cl _
        rw [tabP_0] at rl
        exact rl _ _
      · rw [if_pos hlab]
        have e5 : tab n (fun r c' => zL (Tz (hnd c) g s r c')) f = tab n (fun r c' => zL (Tz (hnd c) g (s + 1) r c')) f := by
          refine tab_cg (fun r q hr hq => ?_)
          have hstep := Tz_s (s := s) (hnd_lt c s) H hr hq
          have b0 : (hnd c s).testBit (g r) = false := by
            cases w : (hnd c s).testBit (g r) with
            | false => rfl
            | true => exact absurd (hit r hr w) hlab
          rw [b0] at hstep
          simp only [Bool.false_and, Bool.false_eq_true, ↓reduceIte, Int.add_zero] at hstep
          rw [hstep]
        simp (disch := omega) only [k145_87, k145_88, k145_90, k145_91, k145_93, k145_95, k145_96, Option.toList_some, Option.toList_none, List.cons_append, List.nil_append, nl_i, nl_r, nl_l, nl_n, nI_leI]
        rw [e5]
        split
        · simp (disch := omega) only [k145_209, k145_212, Option.toList_some, Option.toList_none, List.cons_append, List.nil_append, nl_i, nl_r, nl_l, nl_n, nI_add]
          exact ih _ _ _ _
        · simp (disch := omega) only [k145_99, k145_101, k145_209, k145_212, Option.toList_some, Option.toList_none, List.cons_append, List.nil_append, nl_i, nl_r, nl_l, nl_n, nI_add, nI_0, Int32.le_refl, ↓reduceIte]
          exact ih _ _ _ _
  have e1 : tab n (fun r c' => zL (Tz (hnd c) g 0 r c')) f = J 59 := by
    rw [hJ]
    funext j
    unfold tab
    split
    · rename_i q
      have := hf0 (j / 4) (j % 4) q.1 q.2
      rw [show 4 * (j / 4) + j % 4 = j by omega] at this
      have z : Tz (hnd c) g 0 (j / 4) (j % 4) = 0 := by unfold Tz dN wN; split <;> rfl
      rw [this, zL_0]
      exact congrArg zL z
    · rfl
  rw [e1, up_id] at key
  exact key _ _ _ _
end SLV
