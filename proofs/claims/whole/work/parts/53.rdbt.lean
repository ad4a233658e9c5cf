/-! CONTRACTS: doubts -/
theorem bd_K {a b K : Int} {A : Nat} (h : bd a A) (e : a = K * b) (hK : 0 < K) : bd b A := by
  unfold bd at *
  rw [e, Int.natAbs_mul] at h
  have : 1 * b.natAbs ≤ K.natAbs * b.natAbs := Nat.mul_le_mul_right _ (by omega)
  omega
theorem db_solved {h : Nat → Nat} (hh : ∀ s, s < 12 → h s < 16) {a b t : Nat} (ha : a < 12) (hb : b < 12) (hta : slb h a = t) (htb : slb h b = t) {K ov : Int} {lev : Nat → Int} (hS : Solved h t (fun m => ps h a m - ps h b m) K ov lev) : dbC h a b = K * (smC (h a) lev ov 4 * shr (h a) - smC (h b) lev (-ov) 4 * shr (h b)) := by
  obtain ⟨k1, k2, k3, k4, k5, k6⟩ := hS
  have key : ∀ m, m < 4 → K * lev m * (ps h a m - ps h b m) = solZ (Mz h 12) (flC h a b) m * (if m = 0 then 0 else flC h a b (m - 1)) := by
    intro m hm
    by_cases q : (h a).testBit m = true ∨ (h b).testBit m = true
    · have hl : lb h m = t := by
        rcases q with q | q
        · rw [← slb_of ha hm q]; exact hta
        · rw [← slb_of hb hm q]; exact htb
      have e := k4 m hm hl
      have e' : solZ (Mz h 12) (flC h a b) m = K * lev m := e
      rw [← e']
      by_cases m0 : m = 0
      · subst m0; simp [solZ]
      · rw [if_neg m0]
        cases hf : fre h m with
        | false =>
          have z : solZ (Mz h 12) (flC h a b) m = 0 := sol_nf hm hf (fun _ => by unfold flC; rw [show m - 1 + 1 = m by omega, hf]; rfl)
          rw [z, Int.zero_mul, Int.zero_mul]
        | true =>
          have z : flC h a b (m - 1) = ps h a m - ps h b m := by unfold flC; rw [show m - 1 + 1 = m by omega, hf]; rfl
          rw [z]
    · have qa : ps h a m = 0 := by unfold ps; rw [if_neg (fun w => q (Or.inl w))]
      have qb : ps h b m = 0 := by unfold ps; rw [if_neg (fun w => q (Or.inr w))]
      rw [qa, qb]
      by_cases m0 : m = 0
      · subst m0; simp
      · have z : flC h a b (m - 1) = 0 := by
          unfold flC
          rw [show m - 1 + 1 = m by omega, qa, qb]
          split <;> rfl
        rw [if_neg m0, z]
        simp
  have x0 := key 0 (by decide)
  have x1 := key 1 (by decide)
  have x2 := key 2 (by decide)
  have x3 := key 3 (by decide)
  simp only [↓reduceIte, Nat.one_ne_zero, Nat.reduceEqDiff, Nat.reduceSub, Int.mul_zero] at x0 x1 x2 x3
  have sa : ∀ u : Int, smC (h a) lev u 4 * (shr (h a) : Int) = u * shr (h a) + lev 0 * ps h a 0 + lev 1 * ps h a 1 + lev 2 * ps h a 2 + lev 3 * ps h a 3 := by
    intro u
    unfold ps
    simp only [smC]
    cases (h a).testBit 0 <;> cases (h a).testBit 1 <;> cases (h a).testBit 2 <;> cases (h a).testBit 3 <;> simp <;> grind
  have sb : ∀ u : Int, smC (h b) lev u 4 * (shr (h b) : Int) = u * shr (h b) + lev 0 * ps h b 0 + lev 1 * ps h b 1 + lev 2 * ps h b 2 + lev 3 * ps h b 3 := by
    intro u
    unfold ps
    simp only [smC]
    cases (h b).testBit 0 <;> cases (h b).testBit 1 <;> cases (h b).testBit 2 <;> cases (h b).testBit 3 <;> simp <;> grind
  rw [sa, sb]
  unfold dbC
  simp only [dzI, solZ, ↓reduceIte, Nat.one_ne_zero, Nat.reduceEqDiff, Nat.reduceSub, Nat.reduceMul, Nat.reduceAdd, Nat.reduceDiv, Nat.reduceMod] at x0 x1 x2 x3 ⊢
  rw [k3]
  grind
theorem smC_up {a : Nat} {H : Nat → Int} {u : Int} {m : Nat} : smC a H u (m + 1) = smC a H u m + (if a.testBit m = false then 0 else H m) := rfl
section RDBT
variable {I : ab_I} {J : ab_J} {Q : Option Value → ab_I → ab_J → Prop} {x x1 x2 : Int32} {u : Int64}
theorem pop_pos {c : Nat → Int32} {s m : Nat} (hm : m < 4) (q : c (4 * s + m) ≠ -1) : 0 < pop (hnd c s) := by
  refine Nat.pos_of_ne_zero (fun w => ?_)
  have hb1 : (hnd c s).testBit m = true := by rw [hnd_bit c s hm]; exact decide_eq_true q
  rw [(pop_0 _ (hnd_lt c s)).mp w] at hb1
  simp at hb1
theorem pop_pos2 {c : Nat → Int32} {s : Nat} (hs : s < 12) (q : slb (hnd c) s < 4) : 0 < pop (hnd c s) := by
  refine Nat.pos_of_ne_zero (fun w => ?_)
  have := (slb_4 hs (hnd_lt c s)).mpr ((pop_0 _ (hnd_lt c s)).mp w)
  omega
set_option maxRecDepth 100000 in
theorem c170 {c : Nat → Int32} {a b : Nat} (hc : I 55 = c) (hL : ∀ k, k < 16 → I 57 k = enc (LB (hnd c) k)) (ha : a < 12) (hb : b < 12) (hs4 : slb (hnd c) a < 4) (hab : slb (hnd c) b = slb (hnd c) a) :
    ∃ (a' : Nat → Int32) (J' : ab_J), ((∀ k, k < 49 → J' k = J k) ∧ (∀ j, j ≠ 14 → j ≠ 25 → j ≠ 26 → J' 49 j = J 49 j) ∧ J' 49 25 = zL (low (dbC (hnd c) a b) (12 * whC c) 0) ∧ J' 49 26 = zL (low (dbC (hnd c) a b) (12 * whC c) 1)) ∧ ∀ Q : Option Value → ab_I → ab_J → Prop, Cal 170 [.ref 49, .int (nI a), .int (nI b)] I J Q ↔ Q none (va_up I 58 a') J' := by
  have main : ∀ Q : Option Value → ab_I → ab_J → Prop, (∀ v I' J', (∃ (a' : Nat → Int32), ((∀ k, k < 49 → J' k = J k) ∧ (∀ j, j ≠ 14 → j ≠ 25 → j ≠ 26 → J' 49 j = J 49 j) ∧ J' 49 25 = zL (low (dbC (hnd c) a b) (12 * whC c) 0) ∧ J' 49 26 = zL (low (dbC (hnd c) a b) (12 * whC c) 1)) ∧ v = none ∧ I' = va_up I 58 a') → Q v I' J') → Cal 170 [.ref 49, .int (nI a), .int (nI b)] I J Q := by
    intro Q hQ
    have hpa := pop_pos2 (c := c) ha hs4
    have hpb := pop_pos2 (c := c) hb (by omega)
    have hla := pop_le (hnd c a)
    have hlb := pop_le (hnd c b)
    have hsa : shr (hnd c a) = 12 / pop (hnd c a) := by unfold shr; rw [if_neg (by omega)]
    have hsb : shr (hnd c b) = 12 / pop (hnd c b) := by unfold shr; rw [if_neg (by omega)]
    have pza : ¬ lN (pop (hnd c a)) = 0 := by rw [lN_zL, zL_0, zL_eq (okN (by omega)) ok_0]; omega
    have pzb : ¬ lN (pop (hnd c b)) = 0 := by rw [lN_zL, zL_0, zL_eq (okN (by omega)) ok_0]; omega
    have da := div12 hpa (by omega)
    have db := div12 hpb (by omega)
    rw [← hsa] at da
    rw [← hsb] at db
    rw [en170]
    simp (disch := omega) only [k170_0, k170_1, k170_2, k170_5, k170_6, k170_7, k170_8, k170_11, k170_13, k170_14, Option.toList_some, Option.toList_none, List.cons_append, List.nil_append, nl_i, nl_r, nl_l, nl_n, c143 ha, c143 hb, hc, msF_pop]
    have key : At 170 16 [some (.ref 49), some (.int (nI a)), some (.int (nI b)), some (.int (nI (pop (hnd c a)))), some (.int (nI (pop (hnd c b)))), some (.int (nI 0)), none, none, none, none, none, none, none] [] I (va_up J 60 (fll (fun m => zL (ps (hnd c) a m - ps (hnd c) b m)) (J 60) 0)) Q := by
      refine loop_dn (N := 4) (P := fun m => At 170 16 [some (.ref 49), some (.int (nI a)), some (.int (nI b)), some (.int (nI (pop (hnd c a)))), some (.int (nI (pop (hnd c b)))), some (.int (nI m)), none, none, none, none, none, none, none] [] I (va_up J 60 (fll (fun m => zL (ps (hnd c) a m - ps (hnd c) b m)) (J 60) m)) Q) ?_ ?_
      · have hLa : I 57 a = nI (slb (hnd c) a) := by rw [hL a (by omega), ← enc_lt hs4]; unfold LB; rw [if_pos ha]
        have hbb : lb (hnd c) (slb (hnd c) a) = slb (hnd c) a := by
          have z : ∀ x, x < 16 → (lbn x = 4 ↔ x = 0) := by decide +kernel
          have h4 : lbn (hnd c a) ≠ 4 := fun w => by
            have := (slb_4 ha (hnd_lt c a)).mpr ((z _ (hnd_lt c a)).mp w)
            omega
          have h5 := lbn_le (hnd c a)
          have e := slb_of ha (show lbn (hnd c a) < 4 by omega) (lbn_bit h4)
          rw [e] at hs4 ⊢
          exact lb_lb (by omega) hs4
        rw [k170_16]
        simp (disch := omega) only [k170_18, k170_19, k170_79, k170_80, k170_81, k170_84, k170_85, k170_86, nI_leI, Nat.le_refl, ↓reduceIte, nI_clamp, bnd, ly_57, Nat.reduceLT, true_and, and_true, hLa]
        obtain ⟨a', t', l', K, ov, lev, ⟨hS, hl⟩, hcal⟩ := c145 (I := I) (J := va_up J 60 (fll (fun m => zL (ps (hnd c) a m - ps (hnd c) b m)) (J 60) 4)) (b := slb (hnd c) a) (fz := fun m => ps (hnd c) a m - ps (hnd c) b m) hc hs4 hL hbb (fun m hm _ => by rw [va_up_s, fll_lt hm]) (fun m hm => bd_le (bd_sub (ps_bd (hnd_lt c a)) (ps_bd (hnd_lt c b))) (by decide))
        rw [hcal]
        have hdb := db_solved (fun s _ => hnd_lt c s) ha hb rfl hab hS
        have hK := hS.1
        have hov := hS.2.1
        have hwh : whC c = K * ov := hS.2.2.1
        have btop := bd_K (db_bd (fun s _ => hnd_lt c s) ha hb) hdb hK
        have bov := bd_K (wh_bd c) hwh hK
        have o12 : ok (12 * ov) := bd_ok (bd_mul (A := 12) (by unfold bd; omega) bov) (by decide)
        have otop := bd_ok btop (by decide)
        have elow : ∀ w, low (smC (hnd c a) lev ov 4 * shr (hnd c a) - smC (hnd c b) lev (-ov) 4 * shr (hnd c b)) (12 * ov) w = low (dbC (hnd c) a b) (12 * whC c) w := by
          intro w
          rw [hdb, hwh, show 12 * (K * ov) = K * (12 * ov) by rw [Int.mul_left_comm]]
          exact (low_mul hK (by omega)).symm
        simp (disch := omega) only [k170_89, k170_90, k170_93, k170_95, k170_96, k170_99, k170_100, k170_102, k170_103, Option.toList_some, Option.toList_none, List.cons_append, List.nil_append, nl_i, nl_r, nl_l, nl_n, up_ne, va_up_s, zL_neg]
        generalize hJ2 : va_up (va_up (va_up (va_up J 60 (fll (fun m => zL (ps (hnd c) a m - ps (hnd c) b m)) (J 60) 4)) 49 (va_up (J 49) 14 (zL ov))) 59 t') 61 l' = J2
        have j61 : ∀ m, m < 4 → J2 61 m = zL (lev m) := by
          intro m hm
          rw [← hJ2, va_up_s]
          exact hl m hm
        have j49 : J2 49 = va_up (J 49) 14 (zL ov) := by
          rw [← hJ2]
          simp (disch := omega) only [up_ne, va_up_s]
        have jlo : ∀ k, k < 49 → J2 k = J k := by
          intro k hk
          rw [← hJ2]
          simp (disch := omega) only [up_ne]
        have jov : J2 49 14 = zL ov := by rw [j49, va_up_s]
        have ml : ∀ a10 a11 a12 : Option Value, At 170 105 [some (.ref 49), some (.int (nI a)), some (.int (nI b)), some (.int (nI (pop (hnd c a)))), some (.int (nI (pop (hnd c b)))), some (.long (zL (smC (hnd c a) lev ov 0))), none, some (.long (zL (smC (hnd c b) lev (-ov) 0))), none, some (.int (nI 0)), a10, a11, a12] [] (va_up I 58 a') J2 Q := by
          refine loop_dn (N := 4) (P := fun m => ∀ a10 a11 a12 : Option Value, At 170 105 [some (.ref 49), some (.int (nI a)), some (.int (nI b)), some (.int (nI (pop (hnd c a)))), some (.int (nI (pop (hnd c b)))), some (.long (zL (smC (hnd c a) lev ov m))), none, some (.long (zL (smC (hnd c b) lev (-ov) m))), none, some (.int (nI m)), a10, a11, a12] [] (va_up I 58 a') J2 Q) ?_ ?_
          · intro a10 a11 a12
            have hgp : 0 < Int.gcd (smC (hnd c a) lev ov 4 * shr (hnd c a) - smC (hnd c b) lev (-ov) 4 * shr (hnd c b)) (12 * ov) := Int.gcd_pos_of_ne_zero_right _ (by omega)
            have hgle : Int.gcd (smC (hnd c a) lev ov 4 * shr (hnd c a) - smC (hnd c b) lev (-ov) 4 * shr (hnd c b)) (12 * ov) ≤ (12 * ov).natAbs := Nat.le_of_dvd (by omega) (Nat.gcd_dvd_right _ _)
            have hgo : ok ((Int.gcd (smC (hnd c a) lev ov 4 * shr (hnd c a) - smC (hnd c b) lev (-ov) 4 * shr (hnd c b)) (12 * ov) : Nat) : Int) := okN (by unfold ok at o12; omega)
            have hg0 : ¬ zL ((Int.gcd (smC (hnd c a) lev ov 4 * shr (hnd c a) - smC (hnd c b) lev (-ov) 4 * shr (hnd c b)) (12 * ov) : Nat) : Int) = 0 := by rw [zL_0, zL_eq hgo ok_0]; omega
            rw [k170_105]
            simp (disch := omega) only [k170_107, k170_108, k170_171, k170_173, k170_175, k170_176, k170_177, k170_178, k170_179, k170_181, k170_183, k170_185, k170_186, k170_187, k170_188, k170_189, k170_191, k170_193, k170_196, k170_197, k170_200, k170_201, k170_204, k170_206, k170_207, k170_209, k170_211, k170_212, k170_215, k170_216, k170_219, k170_220, k170_223, k170_224, k170_226, k170_227, k170_230, Option.toList_some, Option.toList_none, List.cons_append, List.nil_append, nl_i, nl_r, nl_l, nl_n, nI_leI, Nat.le_refl, ↓reduceIte, eq0, show ¬ pop (hnd c a) = 0 by omega, show ¬ pop (hnd c b) = 0 by omega, not_false_eq_true, true_and, idiv12, ← hsa, ← hsb, lN_zL, jov, zL_12, zL_mul, zL_sub, c129 otop o12, hg0, zL_div otop hgo, zL_div o12 hgo, up_ne, va_up_s, up_same]
            refine hQ _ _ _ ⟨a', ⟨fun k hk => ?_, fun j h1 h2 h3 => ?_, ?_, ?_⟩, rfl, rfl⟩
            · simp (disch := omega) only [up_ne]; exact jlo k hk
            · simp (disch := omega) only [va_up_s, up_ne, j49]
            · simp (disch := omega) only [va_up_s, up_ne]
              rw [← elow 0]
              rfl
            · simp (disch := omega) only [va_up_s]
              rw [← elow 1]
              rfl
          · intro m hm ih a10 a11 a12
            have e1 : ¬ 4 ≤ m := by omega
            have hlm := j61 m hm
            rw [smC_up, smC_up, hnd_bit c a hm, hnd_bit c b hm] at ih
            rw [k170_105]
            simp (disch := omega) only [k170_107, k170_108, k170_111, k170_113, k170_114, k170_115, k170_117, k170_120, k170_121, Option.toList_some, Option.toList_none, List.cons_append, List.nil_append, nl_i, nl_r, nl_l, nl_n, nI_leI, e1, ↓reduceIte, c140 ha hm, up_ne, hc]
            have rest : ∀ a10 a11 a12 : Option Value, At 170 138 [some (.ref 49), some (.int (nI a)), some (.int (nI b)), some (.int (nI (pop (hnd c a)))), some (.int (nI (pop (hnd c b)))), some (.long (zL (smC (hnd c a) lev ov m + (if decide (c (4 * a + m) ≠ -1) = false then 0 else lev m)))), none, some (.long (zL (smC (hnd c b) lev (-ov) m))), none, some (.int (nI m)), a10, a11, a12] [] (va_up I 58 a') J2 Q := by
              intro a10 a11 a12
              simp (disch := omega) only [k170_138, k170_140, k170_141, k170_142, k170_144, k170_147, k170_148, Option.toList_some, Option.toList_none, List.cons_append, List.nil_append, nl_i, nl_r, nl_l, nl_n, c140 hb hm, up_ne, hc]
              by_cases q1 : c (4 * b + m) = -1
              · have ih := ih a10 a11 a12
                simp only [q1, ne_eq, not_true_eq_false, decide_false, ↓reduceIte, Int.add_zero] at ih
                rw [if_neg (show ¬ ¬ c (4 * b + m) = -1 from fun w => w q1)]
                simp (disch := omega) only [k170_151, k170_152, k170_162, k170_163, k170_165, k170_168, Option.toList_some, Option.toList_none, List.cons_append, List.nil_append, nl_i, nl_r, nl_l, nl_n, zL_0, zL_add, Int.add_zero, nI_add]
                exact ih
              · have ih := ih a10 a11 a12
                simp only [q1, ne_eq, not_false_eq_true, decide_true, Bool.true_eq_false, ↓reduceIte] at ih
                rw [if_pos q1]
                simp (disch := omega) only [k170_155, k170_156, k170_159, k170_161, k170_162, k170_163, k170_165, k170_168, Option.toList_some, Option.toList_none, List.cons_append, List.nil_append, nl_i, nl_r, nl_l, nl_n, nI_clamp, bnd, ly_61, Nat.reduceLT, true_and, and_true, hlm, zL_add, nI_add]
                exact ih
            by_cases q1 : c (4 * a + m) = -1
            · have rest := rest a10 a11 a12
              simp only [q1, ne_eq, not_true_eq_false, decide_false, ↓reduceIte, Int.add_zero] at rest
              rw [if_neg (show ¬ ¬ c (4 * a + m) = -1 from fun w => w q1)]
              simp (disch := omega) only [k170_124, k170_125, k170_135, k170_136, Option.toList_some, Option.toList_none, List.cons_append, List.nil_append, nl_i, nl_r, nl_l, nl_n, zL_0, zL_add, Int.add_zero]
              exact rest
            · have rest := rest a10 a11 a12
              simp only [q1, ne_eq, not_false_eq_true, decide_true, Bool.true_eq_false, ↓reduceIte] at rest
              rw [if_pos q1]
              simp (disch := omega) only [k170_128, k170_129, k170_132, k170_134, k170_135, k170_136, Option.toList_some, Option.toList_none, List.cons_append, List.nil_append, nl_i, nl_r, nl_l, nl_n, nI_clamp, bnd, ly_61, Nat.reduceLT, true_and, and_true, hlm, zL_add]
              exact rest
        exact ml _ _ _
      · intro m hm ih
        have e1 : ¬ 4 ≤ m := by omega
        rw [← fll_s] at ih
        have pa : ps (hnd c) a m = if c (4 * a + m) = -1 then 0 else (shr (hnd c a) : Int) := by
          unfold ps
          rw [hnd_bit c a hm]
          by_cases q : c (4 * a + m) = -1 <;> simp [q]
        have pb : ps (hnd c) b m = if c (4 * b + m) = -1 then 0 else (shr (hnd c b) : Int) := by
          unfold ps
          rw [hnd_bit c b hm]
          by_cases q : c (4 * b + m) = -1 <;> simp [q]
        rw [pa, pb] at ih
        rw [k170_16]
        simp (disch := omega) only [k170_18, k170_19, k170_22, k170_23, k170_26, k170_28, k170_29, k170_30, k170_32, k170_35, k170_36, Option.toList_some, Option.toList_none, List.cons_append, List.nil_append, nl_i, nl_r, nl_l, nl_n, nI_leI, e1, ↓reduceIte, c140 ha hm, hc]
        by_cases q1 : c (4 * a + m) = -1
        · rw [if_pos q1] at ih
          rw [if_neg (show ¬ ¬ c (4 * a + m) = -1 from fun w => w q1)]
          simp (disch := omega) only [k170_39, k170_40, k170_49, k170_50, k170_51, k170_53, k170_56, k170_57, Option.toList_some, Option.toList_none, List.cons_append, List.nil_append, nl_i, nl_r, nl_l, nl_n, c140 hb hm, hc]
          by_cases q2 : c (4 * b + m) = -1
          · rw [if_pos q2] at ih
            rw [if_neg (show ¬ ¬ c (4 * b + m) = -1 from fun w => w q2)]
            simp (disch := omega) only [k170_60, k170_61, k170_71, k170_72, k170_73, k170_76, Option.toList_some, Option.toList_none, List.cons_append, List.nil_append, nl_i, nl_r, nl_l, nl_n, zL_0, zL_sub, nI_clamp, bnd, ly_60, Nat.reduceLT, true_and, and_true, va_up_s, up_same, nI_add]
            exact ih
          · rw [if_neg q2] at ih
            rw [if_pos q2]
            simp (disch := omega) only [k170_64, k170_67, k170_69, k170_70, k170_71, k170_72, k170_73, k170_76, Option.toList_some, Option.toList_none, List.cons_append, List.nil_append, nl_i, nl_r, nl_l, nl_n, nI_l, pzb, not_false_eq_true, db, zL_0, zL_sub, nI_clamp, bnd, ly_60, Nat.reduceLT, true_and, and_true, va_up_s, up_same, nI_add]
            exact ⟨by rw [← zL_0]; exact pzb, ih⟩
        · rw [if_neg q1] at ih
          rw [if_pos q1]
          simp (disch := omega) only [k170_43, k170_46, k170_47, k170_48, k170_49, k170_50, k170_51, k170_53, k170_56, k170_57, Option.toList_some, Option.toList_none, List.cons_append, List.nil_append, nl_i, nl_r, nl_l, nl_n, nI_l, pza, not_false_eq_true, true_and, da, c140 hb hm, hc]
          by_cases q2 : c (4 * b + m) = -1
          · rw [if_pos q2] at ih
            rw [if_neg (show ¬ ¬ c (4 * b + m) = -1 from fun w => w q2)]
            simp (disch := omega) only [k170_60, k170_61, k170_71, k170_72, k170_73, k170_76, Option.toList_some, Option.toList_none, List.cons_append, List.nil_append, nl_i, nl_r, nl_l, nl_n, zL_0, zL_sub, nI_clamp, bnd, ly_60, Nat.reduceLT, true_and, and_true, va_up_s, up_same, nI_add]
            exact ih
          · rw [if_neg q2] at ih
            rw [if_pos q2]
            simp (disch := omega) only [k170_64, k170_67, k170_69, k170_70, k170_71, k170_72, k170_73, k170_76, Option.toList_some, Option.toList_none, List.cons_append, List.nil_append, nl_i, nl_r, nl_l, nl_n, nI_l, pzb, not_false_eq_true, db, zL_sub, nI_clamp, bnd, ly_60, Nat.reduceLT, true_and, and_true, va_up_s, up_same, nI_add]
            exact ih
    rw [fll_0, up_id] at key
    exact key
  obtain ⟨v, I', J', ⟨a', hJ, rfl, rfl⟩, hc2⟩ := Cal_ex main
  exact ⟨a', J', hJ, hc2⟩
end RDBT
