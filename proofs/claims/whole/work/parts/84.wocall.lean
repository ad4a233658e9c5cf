/-! CALLS: without -/
def aT (c : Nat → Int32) : Nat → Nat
  | 0 => 0
  | k + 1 => aT c k + (if c k ≠ -1 then (ftC c k).natAbs else 0)
def bT (c : Nat → Int32) : Nat → Nat
  | 0 => 0
  | m + 1 => bT c m + (if lb (hnd c) m = m then ofZ c (wC c m) 48 else 0)
theorem aT_le {c : Nat → Int32} (hM : MK c) : ∀ k, k ≤ 48 → aT c k ≤ k * 68024448000
  | 0, _ => Nat.le_refl _
  | k + 1, hk => by
    have ih := aT_le hM k (by omega)
    have h1 := ft_bd hM (show k < 48 by omega)
    unfold bd at h1
    unfold aT
    rw [Nat.succ_mul]
    generalize 68024448000 = X at *
    split <;> omega
theorem natAbs_pos {a : Int} {b : Int} (hb : 0 < b) : ((a * b).natAbs : Int) = (a.natAbs : Int) * b := by
  rw [Int.natAbs_mul, Int.natCast_mul, Int.natAbs_of_nonneg (Int.le_of_lt hb)]
theorem of_W {c : Nat → Int32} {b k0 m : Nat} (hk0 : k0 < 48) (hm : m < 4) (hb : lb (hnd c) m = b) (hb4 : b < 4) : ∀ k, k ≤ 48 → (ofZ (va_up c k0 (-1)) (wC c m) k : Int) * whC (cW c b k0) = (aT (cW c b k0) k : Int) * whC (va_up c k0 (-1))
  | 0, _ => by show (0 : Int) * _ = 0 * _; rw [Int.zero_mul, Int.zero_mul]
  | k + 1, hk => by
    have ih := of_W hk0 hm hb hb4 k (by omega)
    have ec := cW_v (c := c) (b := b) hk0 (show k < 48 by omega)
    unfold ofZ aT
    by_cases q1 : va_up c k0 (-1) k = -1
    · have e2 : cW c b k0 k = -1 := by rw [ec]; split; exact q1; rfl
      rw [if_pos q1, if_neg (fun w => w e2)]
      exact ih
    · rw [if_neg q1]
      have hb1 : (hnd (va_up c k0 (-1)) (k / 4)).testBit (k % 4) = true := by rw [hnd_b1]; exact decide_eq_true q1
      have e3 := slb_of (h := hnd c) (show k / 4 < 12 by omega) (show k % 4 < 4 by omega) (h1_sub hb1)
      have e4 : (wC c m).testBit (k % 4) = true ↔ slb (hnd c) (k / 4) = b := by
        rw [wC_bit c _ hm]
        constructor
        · intro w
          rw [e3, ← lb_eq hm (by omega) w]; exact hb
        · intro w
          have w2 : lb (hnd c) (k % 4) = b := by rw [← e3]; exact w
          have c1 : con (hnd c) m b = true := by rw [← hb]; exact lb_con (by omega)
          have c2 : con (hnd c) (k % 4) b = true := by
            have := lb_con (h := hnd c) (m := k % 4) (by omega)
            rw [w2] at this
            exact this
          exact con_trans hb4 c1 (by rw [con_symm]; exact c2)
      by_cases q2 : slb (hnd c) (k / 4) = b
      · have e5 : cW c b k0 k = va_up c k0 (-1) k := by rw [ec, if_pos q2]
        rw [if_neg (by rw [e4.mpr q2]; simp), if_pos (by rw [e5]; exact q1), Int.natCast_add, Int.natCast_add, Int.add_mul, Int.add_mul, ih]
        congr 1
        have f := congrArg (fun z => ((z.natAbs : Nat) : Int)) (ft_W (c := c) (b := b) hk0 (show k < 48 by omega) q2 q1)
        rw [natAbs_pos (wh_pos _), natAbs_pos (wh_pos _)] at f
        exact f
      · have e5 : cW c b k0 k = -1 := by rw [ec, if_neg q2]
        have e6 : (wC c m).testBit (k % 4) = false := by
          cases w : (wC c m).testBit (k % 4) with
          | false => rfl
          | true => exact absurd (e4.mp w) q2
        rw [if_pos e6, if_neg (fun w => w e5)]
        exact ih
theorem bT_aT (c : Nat → Int32) : bT c 4 = aT c 48 := by
  have key : ∀ k, k ≤ 48 → (if lb (hnd c) 0 = 0 then ofB c 0 (fun k => (ftC c k).natAbs) k else 0) + (if lb (hnd c) 1 = 1 then ofB c 1 (fun k => (ftC c k).natAbs) k else 0) + (if lb (hnd c) 2 = 2 then ofB c 2 (fun k => (ftC c k).natAbs) k else 0) + (if lb (hnd c) 3 = 3 then ofB c 3 (fun k => (ftC c k).natAbs) k else 0) = aT c k := by
    intro k
    induction k with
    | zero => intro _; unfold ofB aT; simp
    | succ k ih =>
      intro hk
      have ih := ih (by omega)
      unfold ofB aT
      by_cases q : c k = -1
      · simp only [q, ne_eq, not_true_eq_false, false_and, ↓reduceIte, Nat.add_zero]
        exact ih
      · have hb1 : (hnd c (k / 4)).testBit (k % 4) = true := by rw [hnd_b1]; exact decide_eq_true q
        have v4 := slb_lt (h := hnd c) (show k / 4 < 12 by omega) (show k % 4 < 4 by omega) hb1
        have vf := (slb_fix (c := c) (s := k / 4) (by omega) (by omega)).2
        simp only [ne_eq, q, not_false_eq_true, true_and, ↓reduceIte]
        generalize slb (hnd c) (k / 4) = v at v4 vf
        have : v = 0 ∨ v = 1 ∨ v = 2 ∨ v = 3 := by omega
        rcases this with w | w | w | w <;> subst w <;> simp only [vf, ↓reduceIte, Nat.reduceEqDiff, Nat.add_zero, Nat.one_ne_zero, Nat.zero_ne_one] at ih ⊢ <;> omega
  have e : ∀ m, m < 4 → lb (hnd c) m = m → ofZ c (wC c m) 48 = ofB c m (fun k => (ftC c k).natAbs) 48 := fun m hm q => ofB_Z hm q 48 (Nat.le_refl _)
  rw [← key 48 (Nat.le_refl _)]
  show 0 + _ + _ + _ + _ = _
  rw [Nat.zero_add]
  congr 1
  · congr 1
    · congr 1
      · by_cases q : lb (hnd c) 0 = 0
        · rw [if_pos q, if_pos q, e 0 (by omega) q]
        · rw [if_neg q, if_neg q]
      · by_cases q : lb (hnd c) 1 = 1
        · rw [if_pos q, if_pos q, e 1 (by omega) q]
        · rw [if_neg q, if_neg q]
    · by_cases q : lb (hnd c) 2 = 2
      · rw [if_pos q, if_pos q, e 2 (by omega) q]
      · rw [if_neg q, if_neg q]
  · by_cases q : lb (hnd c) 3 = 3
    · rw [if_pos q, if_pos q, e 3 (by omega) q]
    · rw [if_neg q, if_neg q]
theorem bT_le {c : Nat → Int32} (hM : MK c) {m : Nat} (hm : m ≤ 4) : bT c m ≤ 3265173504000 := by
  have h1 := aT_le hM 48 (Nat.le_refl _)
  have h2 := bT_aT c
  have mono : ∀ d, bT c m ≤ bT c (m + d) := by
    intro d
    induction d with
    | zero => exact Nat.le_refl _
    | succ d ih => show bT c m ≤ bT c (m + d) + _; omega
  have := mono (4 - m)
  rw [show m + (4 - m) = 4 by omega] at this
  omega
theorem wh_sm {c : Nat → Int32} {i : Nat} (hi : i < 3) (hf : fre (hnd c) (i + 1) = false) : whC c ≤ 11664 := by
  obtain ⟨⟨s3, s6, s7⟩, ⟨d0, d4, d8⟩, -, -, ⟨u0, u4, u8⟩, -⟩ := C_PD c
  have m0 := Mz_id (h := hnd c) (j := 0) hi (by omega) hf
  have m1 := Mz_id (h := hnd c) (j := 1) hi (by omega) hf
  have m2 := Mz_id (h := hnd c) (j := 2) hi (by omega) hf
  unfold whC whZ cofZ
  simp only [Nat.reduceAdd, Nat.reduceMul, Nat.reduceMod, s3, s6, s7]
  have : i = 0 ∨ i = 1 ∨ i = 2 := by omega
  rcases this with w | w | w <;> subst w <;> simp only [Nat.reduceAdd, Nat.reduceMul, Nat.mul_zero, Nat.zero_add, ↓reduceIte, Nat.reduceEqDiff, Nat.one_ne_zero, Nat.zero_ne_one, s3, s6, s7] at m0 m1 m2
  · rw [m0, m1, m2]
    have h1 := sq_nn (Mz (hnd c) 12 5)
    have h2 := Int.mul_le_mul u4 u8 (Int.le_of_lt d8) (by decide)
    omega
  · rw [m0, m1, m2]
    have h1 := sq_nn (Mz (hnd c) 12 2)
    have h2 := Int.mul_le_mul u0 u8 (Int.le_of_lt d8) (by decide)
    simp only [Int.one_mul, Int.zero_mul, Int.mul_zero, Int.sub_zero, Int.zero_sub, Int.mul_neg, Int.add_zero, Int.zero_add]
    omega
  · rw [m0, m1, m2]
    have h1 := sq_nn (Mz (hnd c) 12 1)
    have h2 := Int.mul_le_mul u0 u4 (Int.le_of_lt d4) (by decide)
    have e : Mz (hnd c) 12 0 * (Mz (hnd c) 12 4 * 1 - 0 * 0) + Mz (hnd c) 12 1 * (0 * 0 - Mz (hnd c) 12 1 * 1) + 0 * (Mz (hnd c) 12 1 * 0 - Mz (hnd c) 12 4 * 0) = Mz (hnd c) 12 0 * Mz (hnd c) 12 4 - Mz (hnd c) 12 1 * Mz (hnd c) 12 1 := by grind
    rw [e]
    omega
def aWithout (c : Nat → Int32) (x x1 x2 : Int32) : Int64 := if inr x 12 = true ∧ inr x1 4 = true ∧ inr x2 2 = true then (if c (4 * tN x + tN x1) = -1 then nO (-3) else zL (low (ofZ (va_up c (4 * tN x + tN x1) (-1)) (wC c (tN x1)) 48) (12 * whC (va_up c (4 * tN x + tN x1) (-1))) x2)) else nO (-2)
section WOC
variable {I : ab_I} {J : ab_J} {Q : Option Value → ab_I → ab_J → Prop} {σ : PS} {x x1 x2 x3 x4 : Int32}
theorem MK_up {c : Nat → Int32} (hM : MK c) (k0 : Nat) : MK (va_up c k0 (-1)) := by
  intro k hk
  by_cases e : k = k0
  · subst e; rw [va_up_s]; exact Or.inl rfl
  · rw [va_up_n _ _ e]; exact hM k hk
theorem MK_W {c : Nat → Int32} (hM : MK c) {b k0 : Nat} (hk0 : k0 < 48) : MK (cW c b k0) := by
  intro k hk
  rw [cW_v hk0 hk]
  split
  · exact MK_up hM k0 k hk
  · exact Or.inl rfl
theorem RC_trial {I' : ab_I} {J' : ab_J} (h : RC σ I J) (f : ∀ k, ¬ (17 ≤ k ∧ k ≤ 28) → I' k = I k ∧ J' k = J k) (z : ∀ k, 48 ≤ k → I' 18 k = 0) : RC σ I' J' := by
  have eI : ∀ k, ¬ (17 ≤ k ∧ k ≤ 28) → I' k = I k := fun k hk => (f k hk).1
  have eJ : ∀ k, ¬ (17 ≤ k ∧ k ≤ 28) → J' k = J k := fun k hk => (f k hk).2
  obtain ⟨⟨h1, ⟨a1, a2, a3, a4⟩, h3, ⟨b1, b2, b3, b4, b5, b6, b7, b8⟩, ⟨c1, c2⟩, h6⟩, hZ, hS⟩ := h
  refine ⟨⟨h1, ⟨?_, ?_, ?_, ?_⟩, ?_, ⟨b1, b2, ?_, ?_, b5, ?_, ?_, ?_⟩, ⟨?_, ?_⟩, ?_⟩, ?_, ?_⟩
  · rw [eI 1 (by omega)]; exact a1
  · rw [eI 2 (by omega), eI 3 (by omega), eI 4 (by omega)]; exact a2
  · rw [eI 1 (by omega)]; exact a3
  · rw [eI 1 (by omega)]; exact a4
  · rw [eI 48 (by omega)]; exact h3
  · rw [eI 39 (by omega)]; exact b3
  · rw [eI 40 (by omega)]; exact b4
  · rw [eI 39 (by omega)]; exact b6
  · rw [eI 41 (by omega), eI 42 (by omega)]; exact b7
  · rw [eI 39 (by omega)]; exact b8
  · rw [eI 45 (by omega), eI 46 (by omega)]; exact c1
  · rw [eI 44 (by omega)]; exact c2
  · rw [eI 0 (by omega)]; exact h6
  · intro k hk
    rw [eI 6 (by omega), eI 47 (by omega)]
    exact ⟨(hZ k hk).1, (hZ k hk).2.1, z k hk⟩
  · unfold SetOK TieOK WeiOK WsOK StOK at hS ⊢
    rw [eI 0 (by omega), eI (5 + 1) (by omega), eI (5 + 2) (by omega), eJ (5 + 3) (by omega), eI (5 + 4) (by omega), eI (5 + 5) (by omega), eI (5 + 6) (by omega), eI 5 (by omega), eJ (5 + 8) (by omega), eJ 5 (by omega), eJ (5 + 10) (by omega), eJ (5 + 11) (by omega), eI 47 (by omega), eI 29 (by omega), eJ 29 (by omega)]
    exact hS
set_option maxRecDepth 100000 in
theorem q101 (hR : RC σ I J) : ∃ I' J', (RC σ I' J' ∧ CF I J I' J') ∧ ∀ Q : Option Value → ab_I → ab_J → Prop, Cal 101 [.ref 0, .int x, .int x1, .int x2] I J Q ↔ Q (some (.long (aWithout (cc σ.1) x x1 x2))) I' J' := by
  by_cases hb : inr x 12 = true ∧ inr x1 4 = true ∧ inr x2 2 = true
  · obtain ⟨s, hs, rfl⟩ := inr_nI hb.1
    obtain ⟨m, hm, rfl⟩ := inr_nI hb.2.1
    obtain ⟨I1, J1, ⟨h1, hS, h3⟩, hcal⟩ := st110 hR
    have e6 : I1 6 = cc σ.1 := hS.2.1.1
    have hM := cc_MK hR.1.1
    have hk : 4 * s + m < 48 := by omega
    rw [show aWithout (cc σ.1) (nI s) (nI m) x2 = _ from if_pos hb, tN_nI (show s < 2 ^ 31 by omega), tN_nI (show m < 2 ^ 31 by omega)]
    by_cases q : cc σ.1 (4 * s + m) = -1
    · refine ⟨I1, J1, ⟨h1, h3⟩, fun Q => ?_⟩
      rw [en101, if_pos q]
      simp (disch := omega) only [k101_0, k101_1, k101_4, k101_7, k101_8, k101_11, k101_14, k101_15, k101_18, k101_21, k101_23, k101_26, k101_27, k101_28, k101_31, k101_32, k101_33, k101_34, k101_35, k101_36, k101_38, k101_39, k101_42_5, k101_42_17, k101_45, k101_47, k101_48, k101_49, k101_52, k101_54, k101_57, k101_58, k101_59, k101_62, k101_63, k101_66, k101_68, k101_69_5, k101_69_17, k101_72, k101_73, k101_76_5, k101_76_17, k101_79, k101_80, k101_83, k101_84, k101_87_5, k101_87_17, k101_90, k101_91, k101_92_5, k101_92_17, k101_95, k101_96, k101_99_5, k101_99_17, k101_102, k101_103, k101_106, Option.toList_some, Option.toList_none, List.cons_append, List.nil_append, nl_i, nl_r, nl_l, nl_n, c116, c117, c120, c121, hb.1, hb.2, bI_0, Bool.true_eq_false, not_false_eq_true, not_true_eq_false, ↓reduceIte, hcal, pk_mul, nI_add, nI_clamp, bnd, ly_6, Nat.reduceLT, true_and, and_true, e6, q, nO]
    · have ec : fll (va_up (I1 6) (4 * s + m) (-1)) (I1 18) 48 = va_up (cc σ.1) (4 * s + m) (-1) := by
        funext j
        unfold fll
        by_cases w : j < 48
        · rw [if_pos w, e6]
        · rw [if_neg w, va_up_n _ _ (by omega), (h1.2.1 j (by omega)).2.2, (cc_out hR.1.1 (by omega)).1]
      have c16 : ∀ Q : Option Value → ab_I → ab_J → Prop, Cal 16 [.ref 17, .ref 5, .int (nI (4 * s + m)), .int (-1)] I1 J1 Q ↔ Q none (tiI 17 (va_up (cc σ.1) (4 * s + m) (-1)) (va_up I1 18 (va_up (cc σ.1) (4 * s + m) (-1)))) (tiJ 17 (va_up (cc σ.1) (4 * s + m) (-1)) J1) := by
        intro Q
        have := c16_17 (I := I1) (J := J1) (Q := Q) (x := -1) hk
        rw [ec] at this
        exact this
      have hM' := MK_up hM (4 * s + m)
      have hT2 := tie_ok (B := 17) (c := va_up (cc σ.1) (4 * s + m) (-1)) (I := va_up I1 18 (va_up (cc σ.1) (4 * s + m) (-1))) (J := J1) (va_up_s _ _ _)
      obtain ⟨hT3, hW3⟩ := wei_ok hM' hT2
      have c27 : ∀ (J : ab_J) (Q : Option Value → ab_I → ab_J → Prop), Cal 27 [.ref 17] (tiI 17 (va_up (cc σ.1) (4 * s + m) (-1)) (va_up I1 18 (va_up (cc σ.1) (4 * s + m) (-1)))) J Q ↔ _ := fun J Q => c27t_17 (J := J) (Q := Q) (c := va_up (cc σ.1) (4 * s + m) (-1)) (I0 := va_up I1 18 (va_up (cc σ.1) (4 * s + m) (-1))) (va_up_s _ _ _)
      have fI : ∀ j, ¬ (17 ≤ j ∧ j ≤ 28) → tiI 17 (va_up (cc σ.1) (4 * s + m) (-1)) (va_up I1 18 (va_up (cc σ.1) (4 * s + m) (-1))) j = I1 j := by intro j hj; unfold tiI; simp (disch := omega) only [up_ne]
      have fJ : ∀ j, ¬ (17 ≤ j ∧ j ≤ 28) → weJ 17 (va_up (cc σ.1) (4 * s + m) (-1)) (tiJ 17 (va_up (cc σ.1) (4 * s + m) (-1)) J1) j = J1 j := by intro j hj; unfold weJ tiJ; simp (disch := omega) only [up_ne]
      generalize hI2 : tiI 17 (va_up (cc σ.1) (4 * s + m) (-1)) (va_up I1 18 (va_up (cc σ.1) (4 * s + m) (-1))) = I2 at *
      generalize hJ3 : weJ 17 (va_up (cc σ.1) (4 * s + m) (-1)) (tiJ 17 (va_up (cc σ.1) (4 * s + m) (-1)) J1) = J3 at *
      have e9 : I2 9 m = nI (wC (cc σ.1) m) := by rw [fI 9 (by omega)]; exact hS.2.1.2.2.2.1 m hm
      have e17 : J3 17 11 = zL (whC (va_up (cc σ.1) (4 * s + m) (-1))) := hT3.2.2.2.2.2.2.2.2
      have o1 : ok (ofZ (va_up (cc σ.1) (4 * s + m) (-1)) (wC (cc σ.1) m) 48 : Nat) := okN (by have := ofZ_le hM' (a := wC (cc σ.1) m) 48 (Nat.le_refl _); omega)
      obtain ⟨p1, p2⟩ := i2b12 (c := va_up (cc σ.1) (4 * s + m) (-1))
      have hf : CF I1 J1 I2 J3 := ⟨fun k hk => fI k (by omega), fun j _ => by rw [fI 0 (by omega)], fun k hk => fJ k (by omega)⟩
      refine ⟨I2, J3, ⟨RC_trial h1 (fun k hk => ⟨fI k hk, fJ k hk⟩) (fun k hk => ?_), CF_trans h3 hf⟩, fun Q => ?_⟩
      · have : I2 18 = va_up (cc σ.1) (4 * s + m) (-1) := hT3.1
        rw [this, va_up_n _ _ (by omega)]
        exact (cc_out hR.1.1 hk).1
      · rw [en101, if_neg q]
        simp (disch := omega) only [k101_0, k101_1, k101_4, k101_7, k101_8, k101_11, k101_14, k101_15, k101_18, k101_21, k101_23, k101_26, k101_27, k101_28, k101_31, k101_32, k101_33, k101_34, k101_35, k101_36, k101_38, k101_39, k101_42_5, k101_42_17, k101_45, k101_47, k101_48, k101_49, k101_52, k101_54, k101_57, k101_58, k101_59, k101_62, k101_63, k101_66, k101_68, k101_69_5, k101_69_17, k101_72, k101_73, k101_76_5, k101_76_17, k101_79, k101_80, k101_83, k101_84, k101_87_5, k101_87_17, k101_90, k101_91, k101_92_5, k101_92_17, k101_95, k101_96, k101_99_5, k101_99_17, k101_102, k101_103, k101_106, Option.toList_some, Option.toList_none, List.cons_append, List.nil_append, nl_i, nl_r, nl_l, nl_n, c116, c117, c120, c121, hb.1, hb.2, bI_0, Bool.true_eq_false, not_false_eq_true, not_true_eq_false, ↓reduceIte, hcal, pk_mul, nI_add, nI_clamp, bnd, ly_6, ly_9, Nat.reduceLT, true_and, and_true, e6, q, c16, c27, hJ3, e9, d31_17 hM' hT3 hW3 (wC_lt (cc σ.1) hm), ofA_z hM' 48 (Nat.le_refl _), c15_17, e17, zL_12, zL_mul, c122, sdF_low o1 p1 p2]
  · refine ⟨I, J, ⟨hR, CF_refl⟩, fun Q => ?_⟩
    rw [en101, show aWithout (cc σ.1) x x1 x2 = _ from if_neg hb]
    cases q1 : inr x 12
    · simp only [k101_0, k101_1, k101_4, k101_7, k101_8, k101_11, k101_14, k101_15, k101_18, k101_21, k101_23, k101_26, k101_27, k101_28, k101_31, k101_32, k101_33, k101_34, k101_35, k101_36, k101_38, k101_39, k101_42_5, k101_42_17, k101_45, k101_47, k101_48, k101_49, k101_52, k101_54, k101_57, k101_58, k101_59, k101_62, k101_63, k101_66, k101_68, k101_69_5, k101_69_17, k101_72, k101_73, k101_76_5, k101_76_17, k101_79, k101_80, k101_83, k101_84, k101_87_5, k101_87_17, k101_90, k101_91, k101_92_5, k101_92_17, k101_95, k101_96, k101_99_5, k101_99_17, k101_102, k101_103, k101_106, Option.toList_some, Option.toList_none, List.cons_append, List.nil_append, nl_i, nl_r, nl_l, nl_n, c116, c121, q1, bI_0, ↓reduceIte, nO]
    · cases q2 : inr x1 4
      · simp only [k101_0, k101_1, k101_4, k101_7, k101_8, k101_11, k101_14, k101_15, k101_18, k101_21, k101_23, k101_26, k101_27, k101_28, k101_31, k101_32, k101_33, k101_34, k101_35, k101_36, k101_38, k101_39, k101_42_5, k101_42_17, k101_45, k101_47, k101_48, k101_49, k101_52, k101_54, k101_57, k101_58, k101_59, k101_62, k101_63, k101_66, k101_68, k101_69_5, k101_69_17, k101_72, k101_73, k101_76_5, k101_76_17, k101_79, k101_80, k101_83, k101_84, k101_87_5, k101_87_17, k101_90, k101_91, k101_92_5, k101_92_17, k101_95, k101_96, k101_99_5, k101_99_17, k101_102, k101_103, k101_106, Option.toList_some, Option.toList_none, List.cons_append, List.nil_append, nl_i, nl_r, nl_l, nl_n, c116, c117, c121, q1, q2, bI_0, Bool.true_eq_false, ↓reduceIte, nO]
      · cases q3 : inr x2 2
        · simp only [k101_0, k101_1, k101_4, k101_7, k101_8, k101_11, k101_14, k101_15, k101_18, k101_21, k101_23, k101_26, k101_27, k101_28, k101_31, k101_32, k101_33, k101_34, k101_35, k101_36, k101_38, k101_39, k101_42_5, k101_42_17, k101_45, k101_47, k101_48, k101_49, k101_52, k101_54, k101_57, k101_58, k101_59, k101_62, k101_63, k101_66, k101_68, k101_69_5, k101_69_17, k101_72, k101_73, k101_76_5, k101_76_17, k101_79, k101_80, k101_83, k101_84, k101_87_5, k101_87_17, k101_90, k101_91, k101_92_5, k101_92_17, k101_95, k101_96, k101_99_5, k101_99_17, k101_102, k101_103, k101_106, Option.toList_some, Option.toList_none, List.cons_append, List.nil_append, nl_i, nl_r, nl_l, nl_n, c116, c117, c120, c121, q1, q2, q3, bI_0, Bool.true_eq_false, not_true_eq_false, ↓reduceIte, nO]
        · exact absurd ⟨q1, q2, q3⟩ hb
set_option maxRecDepth 100000 in
theorem r187 (hR : RR σ I) : ∃ I' J', (RR σ I' ∧ QF I J I' J') ∧ ∀ Q : Option Value → ab_I → ab_J → Prop, Cal 187 [.ref 49, .int x, .int x1, .int x2] I J Q ↔ Q (some (.long (aWithout (cc σ.1) x x1 x2))) I' J' := by
  by_cases hb : inr x 12 = true ∧ inr x1 4 = true ∧ inr x2 2 = true
  · obtain ⟨s, hs, rfl⟩ := inr_nI hb.1
    obtain ⟨m, hm, rfl⟩ := inr_nI hb.2.1
    obtain ⟨I1, ⟨h1, h3⟩, hcal⟩ := st138 (J := J) hR
    have e55 : I1 55 = cc σ.1 := h1.2.1
    have e57 : ∀ s, s < 12 → I1 57 s = enc (slb (hnd (cc σ.1)) s) := fun s hs => by rw [h1.2.2.2 s (by omega), LB_s hs]
    have hM := cc_MK hR.1.1
    have hk : 4 * s + m < 48 := by omega
    have n4 : ¬ nI 4 = 0 := by decide
    rw [show aWithout (cc σ.1) (nI s) (nI m) x2 = _ from if_pos hb, tN_nI (show s < 2 ^ 31 by omega), tN_nI (show m < 2 ^ 31 by omega)]
    by_cases q : cc σ.1 (4 * s + m) = -1
    · refine ⟨I1, J, ⟨RL_RR h1, h3⟩, fun Q => ?_⟩
      rw [en187, if_pos q]
      simp (disch := omega) only [k187_0, k187_1, k187_4, k187_7, k187_8, k187_11, k187_14, k187_15, k187_16, k187_17, k187_20, k187_23, k187_25, k187_28, k187_29, k187_30, k187_33, k187_34, k187_35, k187_36, k187_39, k187_40, k187_43, k187_45, k187_48, k187_49, k187_50, k187_53, k187_54, k187_55, k187_57, k187_58, k187_62, k187_64, k187_67, k187_68, k187_71, k187_73, k187_74, k187_77, k187_79, k187_80, k187_81, k187_82, k187_84, k187_87, k187_88, k187_91, k187_93, k187_94, k187_97, k187_98, k187_99, k187_102, k187_105, k187_106, k187_109, k187_110, k187_111, k187_112, k187_113, k187_114, k187_115, k187_116, k187_117, k187_120, k187_121, k187_123, k187_124, k187_126, k187_127, k187_131, k187_132, k187_135, k187_136, k187_138, k187_141, k187_144, k187_145, k187_147, k187_150, k187_152, k187_154, k187_155, k187_158, k187_159, k187_162, k187_164, k187_166, k187_167, k187_170, k187_171, k187_174, k187_176, k187_178, k187_180, k187_181, k187_183, k187_185, k187_186, k187_187, k187_189, k187_191, k187_193, k187_194, k187_196, k187_198, k187_200, k187_201, k187_204, k187_206, k187_208, k187_210, k187_211, k187_214, k187_216, k187_219, k187_222, k187_223, k187_226, k187_228, k187_231, k187_233, Option.toList_some, Option.toList_none, List.cons_append, List.nil_append, nl_i, nl_r, nl_l, nl_n, c131, c132, c126, in01, c127, hb.1, hb.2, bI_0, Bool.true_eq_false, not_false_eq_true, not_true_eq_false, ↓reduceIte, hcal, c140 hs hm, e55, q, nO]
    · rw [if_neg q]
      have hb1 : (hnd (cc σ.1) s).testBit m = true := by rw [hnd_bit _ s hm]; exact decide_eq_true q
      have b4 := slb_lt hs hm hb1
      have eb : lb (hnd (cc σ.1)) m = slb (hnd (cc σ.1)) s := (slb_of hs hm hb1).symm
      have hM2 := MK_W hM (b := slb (hnd (cc σ.1)) s) hk
      have hw : 0 < 12 * whC (cW (cc σ.1) (slb (hnd (cc σ.1)) s) (4 * s + m)) := by have := wh_pos (cW (cc σ.1) (slb (hnd (cc σ.1)) s) (4 * s + m)); omega
      have elow : ∀ w, low (bT (cW (cc σ.1) (slb (hnd (cc σ.1)) s) (4 * s + m)) 4) (12 * whC (cW (cc σ.1) (slb (hnd (cc σ.1)) s) (4 * s + m))) w = low (ofZ (va_up (cc σ.1) (4 * s + m) (-1)) (wC (cc σ.1) m) 48) (12 * whC (va_up (cc σ.1) (4 * s + m) (-1))) w := by
        intro w
        have hw1 : 0 < 12 * whC (va_up (cc σ.1) (4 * s + m) (-1)) := by have := wh_pos (va_up (cc σ.1) (4 * s + m) (-1)); omega
        refine low_eq hw hw1 ?_
        have f := of_W (c := cc σ.1) hk hm eb b4 48 (Nat.le_refl _)
        rw [bT_aT, Int.mul_left_comm, ← f, Int.mul_left_comm]
      generalize hcw : cW (cc σ.1) (slb (hnd (cc σ.1)) s) (4 * s + m) = c2 at *
      have c2out : ∀ k, 48 ≤ k → c2 k = 0 := by
        intro k hk2
        rw [← hcw]
        unfold cW cB
        rw [va_up_n _ _ (by omega), if_neg (fun w => by omega)]
        exact (cc_out hR.1.1 hk2).1
      have main : ∀ Q : Option Value → ab_I → ab_J → Prop, (∀ v I' J', ((RR σ I' ∧ QF I J I' J') ∧ v = some (.long (zL (low (ofZ (va_up (cc σ.1) (4 * s + m) (-1)) (wC (cc σ.1) m) 48) (12 * whC (va_up (cc σ.1) (4 * s + m) (-1))) x2)))) → Q v I' J') → Cal 187 [.ref 49, .int (nI s), .int (nI m), .int x2] I J Q := by
        intro Q hQ
        rw [en187]
        simp (disch := omega) only [k187_0, k187_1, k187_4, k187_7, k187_8, k187_11, k187_14, k187_15, k187_16, k187_17, k187_20, k187_29, k187_30, k187_33, k187_34, k187_35, k187_36, k187_39, k187_40, k187_49, k187_50, k187_53, k187_54, k187_55, k187_57, k187_58, Option.toList_some, Option.toList_none, List.cons_append, List.nil_append, nl_i, nl_r, nl_l, nl_n, c131, c132, c126, in01, hb.1, hb.2, bI_0, Bool.true_eq_false, not_false_eq_true, not_true_eq_false, ↓reduceIte, hcal, c140 hs hm, e55, q, nI_clamp, bnd, ly_57, Nat.reduceLT, true_and, and_true, e57 s hs, enc_lt b4]
        have k1 : At 187 60 [some (.ref 49), some (.int (nI s)), some (.int (nI m)), some (.int x2), some (.int (nI (slb (hnd (cc σ.1)) s))), some (.int (nI 0)), none, none, none, none, none, none, none, none, none, none, none, none, none, none] [] (va_up I1 55 (fll (fun k => if slb (hnd (cc σ.1)) (k / 4) = slb (hnd (cc σ.1)) s then cc σ.1 k else -1) (cc σ.1) 0)) J Q := by
          refine loop_dn (N := 48) (P := fun k => At 187 60 [some (.ref 49), some (.int (nI s)), some (.int (nI m)), some (.int x2), some (.int (nI (slb (hnd (cc σ.1)) s))), some (.int (nI k)), none, none, none, none, none, none, none, none, none, none, none, none, none, none] [] (va_up I1 55 (fll (fun k => if slb (hnd (cc σ.1)) (k / 4) = slb (hnd (cc σ.1)) s then cc σ.1 k else -1) (cc σ.1) k)) J Q) ?_ ?_
          · have ecW : va_up (fll (fun k => if slb (hnd (cc σ.1)) (k / 4) = slb (hnd (cc σ.1)) s then cc σ.1 k else -1) (cc σ.1) 48) (4 * s + m) (-1) = c2 := by
              rw [← hcw]
              unfold cW
              congr 1
              funext k
              unfold fll cB
              by_cases w : k < 48
              · rw [if_pos w]
                dsimp only
                by_cases w2 : slb (hnd (cc σ.1)) (k / 4) = slb (hnd (cc σ.1)) s
                · rw [if_pos w2, if_neg (fun v => v.2 w2)]
                · rw [if_neg w2, if_pos ⟨w, w2⟩]
              · rw [if_neg w, if_neg (fun v => w v.1)]
            have ca : ∀ Q : Option Value → ab_I → ab_J → Prop, Cal 139 [.ref 49] (va_up I1 55 c2) J Q ↔ Q none (va_up (va_up I1 55 c2) 57 (fll (fun k => enc (LB (hnd c2) k)) (I1 57) 16)) J := by
              intro Q
              have := c139 (I := va_up I1 55 c2) (J := J) (Q := Q) (c := c2) (va_up_s _ _ _)
              rw [up_ne _ _ (by omega)] at this
              exact this
            rw [k187_60]
            simp (disch := omega) only [k187_62, k187_64, k187_105, k187_106, k187_109, k187_110, k187_111, k187_112, k187_113, k187_114, k187_115, k187_116, k187_117, k187_120, k187_121, k187_123, k187_124, k187_126, k187_127, Option.toList_some, Option.toList_none, List.cons_append, List.nil_append, nl_i, nl_r, nl_l, nl_n, nI_leI, Nat.le_refl, ↓reduceIte, pk_mul, nI_add, nI_clamp, bnd, ly_55, Nat.reduceLT, true_and, and_true, va_up_s, up_same, ecW, ca]
            have f0 : QF I J (va_up (va_up I1 55 c2) 57 (fll (fun k => enc (LB (hnd c2) k)) (I1 57) 16)) J := QF_trans h3 ⟨fun k hk => by simp (disch := omega) only [up_ne], fun j _ => by simp (disch := omega) only [up_ne], fun _ _ => rfl⟩
            have hG0 : (Laid c2 (oo σ.1) (va_up (va_up I1 55 c2) 57 (fll (fun k => enc (LB (hnd c2) k)) (I1 57) 16)) ∧ QF I J (va_up (va_up I1 55 c2) 57 (fll (fun k => enc (LB (hnd c2) k)) (I1 57) 16)) J) := by
              refine ⟨⟨?_, ?_, fun k hk => ?_⟩, f0⟩
              · simp (disch := omega) only [up_ne, va_up_s]
              · simp (disch := omega) only [up_ne]; exact h1.2.2.1
              · rw [va_up_s]; exact fll_lt hk
            have outer : ∀ I2 J2, (Laid c2 (oo σ.1) I2 ∧ QF I J I2 J2) → ∀ a10 a11 a12 a13 a14 a15 a16 a17 a18 a19 : Option Value, At 187 129 [some (.ref 49), some (.int (nI s)), some (.int (nI m)), some (.int x2), some (.int (nI (slb (hnd (cc σ.1)) s))), some (.long (zL (low (bT c2 0) (12 * whC c2) 0))), none, some (.long (zL (low (bT c2 0) (12 * whC c2) 1))), none, some (.int (nI 0)), a10, a11, a12, a13, a14, a15, a16, a17, a18, a19] [] I2 J2 Q := by
              refine loop_ij (N := 4) (P := fun n I2 J2 => ∀ a10 a11 a12 a13 a14 a15 a16 a17 a18 a19 : Option Value, At 187 129 [some (.ref 49), some (.int (nI s)), some (.int (nI m)), some (.int x2), some (.int (nI (slb (hnd (cc σ.1)) s))), some (.long (zL (low (bT c2 n) (12 * whC c2) 0))), none, some (.long (zL (low (bT c2 n) (12 * whC c2) 1))), none, some (.int (nI n)), a10, a11, a12, a13, a14, a15, a16, a17, a18, a19] [] I2 J2 Q) (G := fun _ I2 J2 => Laid c2 (oo σ.1) I2 ∧ QF I J I2 J2) ?_ ?_
              · intro I2 J2 hG a10 a11 a12 a13 a14 a15 a16 a17 a18 a19
                have hQ := hQ _ I2 J2 ⟨⟨⟨RRb_qf hR.1 hG.2, fun k hk => ⟨by rw [hG.1.1]; exact c2out k hk, by rw [hG.1.2.1]; exact (cc_out hR.1.1 hk).2⟩⟩, hG.2⟩, rfl⟩
                rw [← elow x2] at hQ
                rw [k187_129]
                rcases inr2.mp hb.2.2 with r | r
                · subst r
                  simp (disch := omega) only [k187_131, k187_132, k187_222, k187_223, k187_226, k187_228, k187_233, Option.toList_some, Option.toList_none, List.cons_append, List.nil_append, nl_i, nl_r, nl_l, nl_n, nI_leI, Nat.le_refl, ↓reduceIte, n00', not_true_eq_false]
                  exact hQ
                · subst r
                  simp (disch := omega) only [k187_131, k187_132, k187_222, k187_223, k187_231, k187_233, Option.toList_some, Option.toList_none, List.cons_append, List.nil_append, nl_i, nl_r, nl_l, nl_n, nI_leI, Nat.le_refl, ↓reduceIte, n10', not_false_eq_true]
                  exact hQ
              · intro n I2 J2 hn hG ih a10 a11 a12 a13 a14 a15 a16 a17 a18 a19
                have e0 : ¬ 4 ≤ n := by omega
                unfold bT at ih
                rw [k187_129]
                simp (disch := omega) only [k187_131, k187_132, k187_135, k187_136, k187_138, Option.toList_some, Option.toList_none, List.cons_append, List.nil_append, nl_i, nl_r, nl_l, nl_n, nI_leI, e0, ↓reduceIte, r154 hG.1 hn]
                by_cases qr : lb (hnd c2) n = n
                · simp only [if_pos qr] at ih
                  obtain ⟨a', J', K, ov, F, ⟨w1, w2, w3, w4, w5, w6⟩, hcal2⟩ := r155 (J := J2) hG.1 hM2 hn qr
                  have kl := fun w => K_low (w := w) w1 w2 w3 w5
                  have bO : ofZ c2 (wC c2 n) 48 ≤ 3265173504000 := by have := ofZ_le hM2 (a := wC c2 n) 48 (Nat.le_refl _); omega
                  have bTn := bT_le hM2 (m := n) (by omega)
                  have p2 : ok (12 * ov) := bd_ok (bd_mul (A := 12) (by unfold bd; omega) (bd_K (wh_bd c2) w3 w1)) (by decide)
                  have o1 : ok (F : Int) := bd_ok (bd_K (A := 3265173504000) (by unfold bd; omega) w5 w1) (by decide)
                  obtain ⟨x1', x2', x3', x4'⟩ := low_b (a := (bT c2 n : Int)) hw
                  obtain ⟨y1', y2', y3', y4'⟩ := low_b (a := (ofZ c2 (wC c2 n) 48 : Int)) hw
                  have pall : 0 < low (bT c2 n) (12 * whC c2) 1 * low (ofZ c2 (wC c2 n) 48) (12 * whC c2) 1 := Int.mul_pos x1' y1'
                  have oks : ok (low (bT c2 n) (12 * whC c2) 0 * low (ofZ c2 (wC c2 n) 48) (12 * whC c2) 1 + low (ofZ c2 (wC c2 n) 48) (12 * whC c2) 0 * low (bT c2 n) (12 * whC c2) 1) ∧ ok (low (bT c2 n) (12 * whC c2) 1 * low (ofZ c2 (wC c2 n) 48) (12 * whC c2) 1) := by
                    have lt := low_bd hw (show bd (bT c2 n : Int) 3265173504000 by unfold bd; omega)
                    have lo := low_bd hw (show bd (ofZ c2 (wC c2 n) 48 : Int) 3265173504000 by unfold bd; omega)
                    have hwle := wh_le c2
                    by_cases qz : bT c2 n = 0
                    · obtain ⟨z1, z2⟩ := low_0 hw
                      rw [qz]
                      show ok (low 0 _ 0 * _ + _ * low 0 _ 1) ∧ ok (low 0 _ 1 * _)
                      rw [z1, z2, Int.zero_mul, Int.zero_add, Int.mul_one, Int.one_mul]
                      exact ⟨bd_ok lo.1 (by decide), bd_ok (bd_le lo.2 (show _ ≤ 15116544 by omega)) (by decide)⟩
                    · have hn1 : n ≠ 0 := fun w => qz (by rw [w]; rfl)
                      have hf : fre (hnd c2) (n - 1 + 1) = false := by
                        rw [show n - 1 + 1 = n by omega]
                        unfold fre
                        exact decide_eq_false (fun w => w.2 qr)
                      have hs := wh_sm (c := c2) (i := n - 1) (by omega) hf
                      have l2 := bd_le lt.2 (show _ ≤ 139968 by omega)
                      have l3 := bd_le lo.2 (show _ ≤ 139968 by omega)
                      exact ⟨bd_ok (bd_add (bd_mul lt.1 l3) (bd_mul lo.1 l2)) (by decide), bd_ok (bd_mul l2 l3) (by decide)⟩
                  have en : ∀ w, low (low (bT c2 n) (12 * whC c2) 0 * low (ofZ c2 (wC c2 n) 48) (12 * whC c2) 1 + low (ofZ c2 (wC c2 n) 48) (12 * whC c2) 0 * low (bT c2 n) (12 * whC c2) 1) (low (bT c2 n) (12 * whC c2) 1 * low (ofZ c2 (wC c2 n) 48) (12 * whC c2) 1) w = low ((bT c2 n + ofZ c2 (wC c2 n) 48 : Nat) : Int) (12 * whC c2) w := by
                    intro w
                    refine low_eq pall hw ?_
                    rw [Int.natCast_add, Int.add_mul, Int.add_mul]
                    have t1 : low (bT c2 n) (12 * whC c2) 0 * low (ofZ c2 (wC c2 n) 48) (12 * whC c2) 1 * (12 * whC c2) = (low (bT c2 n) (12 * whC c2) 0 * (12 * whC c2)) * low (ofZ c2 (wC c2 n) 48) (12 * whC c2) 1 := by ac_rfl
                    have t2 : low (ofZ c2 (wC c2 n) 48) (12 * whC c2) 0 * low (bT c2 n) (12 * whC c2) 1 * (12 * whC c2) = (low (ofZ c2 (wC c2 n) 48) (12 * whC c2) 0 * (12 * whC c2)) * low (bT c2 n) (12 * whC c2) 1 := by ac_rfl
                    rw [t1, t2, ← x3', ← y3']
                    congr 1 <;> ac_rfl
                  have z0 : ∀ a b : Int, low a b (nI 0) = low a b 0 := fun _ _ => rfl
                  have z1 : ∀ a b : Int, low a b (nI 1) = low a b 1 := fun _ _ => rfl
                  simp (disch := omega) only [k187_141, k187_144, k187_145, k187_147, k187_150, k187_152, k187_154, k187_155, k187_158, k187_159, k187_162, k187_164, k187_166, k187_167, k187_170, k187_171, k187_174, k187_176, k187_178, k187_180, k187_181, k187_183, k187_185, k187_186, k187_187, k187_189, k187_191, k187_193, k187_194, k187_196, k187_198, k187_200, k187_201, k187_204, k187_206, k187_208, k187_210, k187_211, k187_214, k187_216, k187_219, Option.toList_some, Option.toList_none, List.cons_append, List.nil_append, nl_i, nl_r, nl_l, nl_n, decide_eq_true qr, bI_0, Bool.true_eq_false, ↓reduceIte, hcal2, w4, c130 o1 p2 (show 0 < 12 * ov by omega), kl, z0, z1, zL_mul, zL_add, c130 oks.1 oks.2 pall, en, nI_add]
                  refine ih (va_up I2 58 a') J' ⟨Laid_58 hG.1, QF_trans hG.2 ⟨fun k hk => up_ne _ _ (by omega), fun j _ => by rw [up_ne _ _ (by omega)], w6⟩⟩ _ _ _ _ _ _ _ _ _ _
                · simp only [if_neg qr, Nat.add_zero] at ih
                  simp (disch := omega) only [k187_141, k187_216, k187_219, Option.toList_some, Option.toList_none, List.cons_append, List.nil_append, nl_i, nl_r, nl_l, nl_n, decide_eq_false qr, bI_0, ↓reduceIte, nI_add]
                  exact ih I2 J2 hG _ _ _ _ _ _ _ _ _ _
            obtain ⟨z1, z2⟩ := low_0 hw
            have o := outer _ _ hG0 none none none none none none none none none none
            rw [show ((bT c2 0 : Nat) : Int) = 0 from rfl, z1, z2] at o
            exact o
          · intro k hk2 ih
            have e0 : ¬ 48 ≤ k := by omega
            have e57' : (va_up I1 55 (fll (fun k => if slb (hnd (cc σ.1)) (k / 4) = slb (hnd (cc σ.1)) s then cc σ.1 k else -1) (cc σ.1) k)) 57 (k / 4) = enc (slb (hnd (cc σ.1)) (k / 4)) := by rw [up_ne _ _ (by omega)]; exact e57 _ (by omega)
            have henc : (enc (slb (hnd (cc σ.1)) (k / 4)) = nI (slb (hnd (cc σ.1)) s)) = (slb (hnd (cc σ.1)) (k / 4) = slb (hnd (cc σ.1)) s) := by rw [← enc_lt b4]; exact enc_eq (slb_le4 _ _) (by omega)
            have efk : fll (fun k => if slb (hnd (cc σ.1)) (k / 4) = slb (hnd (cc σ.1)) s then cc σ.1 k else -1) (cc σ.1) k k = cc σ.1 k := by unfold fll; rw [if_neg (by omega)]
            rw [← fll_s] at ih
            rw [k187_60]
            simp (disch := omega) only [k187_62, k187_64, k187_67, k187_68, k187_71, k187_73, k187_74, k187_77, k187_79, k187_80, k187_81, k187_82, k187_84, Option.toList_some, Option.toList_none, List.cons_append, List.nil_append, nl_i, nl_r, nl_l, nl_n, nI_leI, e0, ↓reduceIte, n4, not_false_eq_true, div4, nI_clamp, bnd, ly_57, Nat.reduceLT, true_and, and_true, e57', henc]
            by_cases qs : slb (hnd (cc σ.1)) (k / 4) = slb (hnd (cc σ.1)) s
            · rw [if_pos qs] at ih
              rw [if_neg (fun w => w qs)]
              simp (disch := omega) only [k187_87, k187_88, k187_91, k187_93, k187_94, k187_98, k187_99, k187_102, Option.toList_some, Option.toList_none, List.cons_append, List.nil_append, nl_i, nl_r, nl_l, nl_n, nI_clamp, bnd, ly_55, Nat.reduceLT, true_and, and_true, va_up_s, up_same, efk, nI_add]
              exact ih
            · rw [if_neg qs] at ih
              rw [if_pos qs]
              simp (disch := omega) only [k187_97, k187_98, k187_99, k187_102, Option.toList_some, Option.toList_none, List.cons_append, List.nil_append, nl_i, nl_r, nl_l, nl_n, nI_clamp, bnd, ly_55, Nat.reduceLT, true_and, and_true, va_up_s, up_same, nI_add]
              exact ih
        have e2 : va_up I1 55 (cc σ.1) = I1 := by rw [← e55, up_id]
        rw [fll_0, e2] at k1
        exact k1
      obtain ⟨v, I', J', ⟨g1, rfl⟩, hc2⟩ := Cal_ex main
      exact ⟨I', J', g1, hc2⟩
  · refine ⟨I, J, ⟨hR, QF_refl⟩, fun Q => ?_⟩
    rw [en187, show aWithout (cc σ.1) x x1 x2 = _ from if_neg hb]
    cases q1 : inr x 12
    · simp only [k187_0, k187_1, k187_4, k187_7, k187_8, k187_11, k187_14, k187_15, k187_16, k187_17, k187_20, k187_23, k187_25, k187_28, k187_29, k187_30, k187_33, k187_34, k187_35, k187_36, k187_39, k187_40, k187_43, k187_45, k187_48, k187_49, k187_50, k187_53, k187_54, k187_55, k187_57, k187_58, k187_62, k187_64, k187_67, k187_68, k187_71, k187_73, k187_74, k187_77, k187_79, k187_80, k187_81, k187_82, k187_84, k187_87, k187_88, k187_91, k187_93, k187_94, k187_97, k187_98, k187_99, k187_102, k187_105, k187_106, k187_109, k187_110, k187_111, k187_112, k187_113, k187_114, k187_115, k187_116, k187_117, k187_120, k187_121, k187_123, k187_124, k187_126, k187_127, k187_131, k187_132, k187_135, k187_136, k187_138, k187_141, k187_144, k187_145, k187_147, k187_150, k187_152, k187_154, k187_155, k187_158, k187_159, k187_162, k187_164, k187_166, k187_167, k187_170, k187_171, k187_174, k187_176, k187_178, k187_180, k187_181, k187_183, k187_185, k187_186, k187_187, k187_189, k187_191, k187_193, k187_194, k187_196, k187_198, k187_200, k187_201, k187_204, k187_206, k187_208, k187_210, k187_211, k187_214, k187_216, k187_219, k187_222, k187_223, k187_226, k187_228, k187_231, k187_233, Option.toList_some, Option.toList_none, List.cons_append, List.nil_append, nl_i, nl_r, nl_l, nl_n, c131, c127, q1, bI_0, ↓reduceIte, nO]
    · cases q2 : inr x1 4
      · simp only [k187_0, k187_1, k187_4, k187_7, k187_8, k187_11, k187_14, k187_15, k187_16, k187_17, k187_20, k187_23, k187_25, k187_28, k187_29, k187_30, k187_33, k187_34, k187_35, k187_36, k187_39, k187_40, k187_43, k187_45, k187_48, k187_49, k187_50, k187_53, k187_54, k187_55, k187_57, k187_58, k187_62, k187_64, k187_67, k187_68, k187_71, k187_73, k187_74, k187_77, k187_79, k187_80, k187_81, k187_82, k187_84, k187_87, k187_88, k187_91, k187_93, k187_94, k187_97, k187_98, k187_99, k187_102, k187_105, k187_106, k187_109, k187_110, k187_111, k187_112, k187_113, k187_114, k187_115, k187_116, k187_117, k187_120, k187_121, k187_123, k187_124, k187_126, k187_127, k187_131, k187_132, k187_135, k187_136, k187_138, k187_141, k187_144, k187_145, k187_147, k187_150, k187_152, k187_154, k187_155, k187_158, k187_159, k187_162, k187_164, k187_166, k187_167, k187_170, k187_171, k187_174, k187_176, k187_178, k187_180, k187_181, k187_183, k187_185, k187_186, k187_187, k187_189, k187_191, k187_193, k187_194, k187_196, k187_198, k187_200, k187_201, k187_204, k187_206, k187_208, k187_210, k187_211, k187_214, k187_216, k187_219, k187_222, k187_223, k187_226, k187_228, k187_231, k187_233, Option.toList_some, Option.toList_none, List.cons_append, List.nil_append, nl_i, nl_r, nl_l, nl_n, c131, c132, c127, q1, q2, bI_0, Bool.true_eq_false, ↓reduceIte, nO]
      · cases q3 : inr x2 2
        · simp only [k187_0, k187_1, k187_4, k187_7, k187_8, k187_11, k187_14, k187_15, k187_16, k187_17, k187_20, k187_23, k187_25, k187_28, k187_29, k187_30, k187_33, k187_34, k187_35, k187_36, k187_39, k187_40, k187_43, k187_45, k187_48, k187_49, k187_50, k187_53, k187_54, k187_55, k187_57, k187_58, k187_62, k187_64, k187_67, k187_68, k187_71, k187_73, k187_74, k187_77, k187_79, k187_80, k187_81, k187_82, k187_84, k187_87, k187_88, k187_91, k187_93, k187_94, k187_97, k187_98, k187_99, k187_102, k187_105, k187_106, k187_109, k187_110, k187_111, k187_112, k187_113, k187_114, k187_115, k187_116, k187_117, k187_120, k187_121, k187_123, k187_124, k187_126, k187_127, k187_131, k187_132, k187_135, k187_136, k187_138, k187_141, k187_144, k187_145, k187_147, k187_150, k187_152, k187_154, k187_155, k187_158, k187_159, k187_162, k187_164, k187_166, k187_167, k187_170, k187_171, k187_174, k187_176, k187_178, k187_180, k187_181, k187_183, k187_185, k187_186, k187_187, k187_189, k187_191, k187_193, k187_194, k187_196, k187_198, k187_200, k187_201, k187_204, k187_206, k187_208, k187_210, k187_211, k187_214, k187_216, k187_219, k187_222, k187_223, k187_226, k187_228, k187_231, k187_233, Option.toList_some, Option.toList_none, List.cons_append, List.nil_append, nl_i, nl_r, nl_l, nl_n, c131, c132, c126, in01, c127, q1, q2, q3, bI_0, Bool.true_eq_false, not_true_eq_false, ↓reduceIte, nO]
        · exact absurd ⟨q1, q2, q3⟩ hb
end WOC
