/-! CALLS: drift -/
def tbN (c o : Nat → Int32) (m s0 : Nat) : Nat → Nat
  | 0 => 0
  | s + 1 => tbN c o m s0 s + (if c (4 * s + m) ≠ -1 ∧ o (4 * s + m) < o (4 * s0 + m) then 1 else 0)
theorem tbN_le (c o : Nat → Int32) (m s0 : Nat) : ∀ s, tbN c o m s0 s ≤ s
  | 0 => Nat.le_refl _
  | s + 1 => by have := tbN_le c o m s0 s; unfold tbN; split <;> omega
def drS (c o : Nat → Int32) (m n : Nat) (f : Nat → Int) : Nat → Int
  | 0 => 0
  | s + 1 => drS c o m n f s + (if c (4 * s + m) = -1 then 0 else if n - n / 2 ≤ tbN c o m s 12 then f (4 * s + m) else if tbN c o m s 12 < n / 2 then - f (4 * s + m) else 0)
theorem drS_K {c o : Nat → Int32} {m n : Nat} {f g : Nat → Int} {K : Int} : ∀ s, (∀ s', s' < s → c (4 * s' + m) ≠ -1 → f (4 * s' + m) = K * g (4 * s' + m)) → drS c o m n f s = K * drS c o m n g s
  | 0, _ => (Int.mul_zero K).symm
  | s + 1, h => by
    unfold drS
    rw [drS_K s (fun s' hs' => h s' (by omega)), Int.mul_add]
    congr 1
    by_cases q : c (4 * s + m) = -1
    · rw [if_pos q, if_pos q, Int.mul_zero]
    · rw [if_neg q, if_neg q, h s (by omega) q]
      by_cases q1 : n - n / 2 ≤ tbN c o m s 12
      · rw [if_pos q1, if_pos q1]
      · rw [if_neg q1, if_neg q1]
        by_cases q2 : tbN c o m s 12 < n / 2
        · rw [if_pos q2, if_pos q2, Int.mul_neg]
        · rw [if_neg q2, if_neg q2, Int.mul_zero]
theorem drS_bd {c o : Nat → Int32} {m n : Nat} {f : Nat → Int} {A : Nat} : ∀ s, (∀ s', s' < s → c (4 * s' + m) ≠ -1 → bd (f (4 * s' + m)) A) → bd (drS c o m n f s) (s * A)
  | 0, _ => by unfold bd drS; simp
  | s + 1, h => by
    have ih := drS_bd (o := o) (n := n) s (fun s' hs' => h s' (by omega))
    unfold drS
    rw [show (s + 1) * A = s * A + A from Nat.succ_mul s A]
    refine bd_add ih ?_
    by_cases q : c (4 * s + m) = -1
    · rw [if_pos q]; unfold bd; simp
    · have h1 := h s (by omega) q
      rw [if_neg q]
      split
      · exact h1
      · split
        · exact bd_neg h1
        · unfold bd; simp
def aDrift (σ : PS) (x x1 : Int32) : Int64 := if inr x 4 = true ∧ inr x1 2 = true then (if mkN (hnd (cc σ.1)) (tN x) 12 < 2 then nO (-3) else zL (low (drS (cc σ.1) (oo σ.1) (tN x) (mkN (hnd (cc σ.1)) (tN x) 12) (ftC (cc σ.1)) 12) ((mkN (hnd (cc σ.1)) (tN x) 12 / 2 : Nat) * (12 * whC (cc σ.1))) x1)) else nO (-2)
section DRIFT
variable {I : ab_I} {J : ab_J} {Q : Option Value → ab_I → ab_J → Prop} {σ : PS} {x x1 x2 x3 x4 : Int32}
theorem ge_lt {a b : Int32} : ¬ b ≤ a ↔ a < b := by rw [i_le, i_lt]; omega
set_option maxRecDepth 100000 in
theorem q115 {c o : Nat → Int32} {s0 m : Nat} (hS : SetOK c o I J) (hs : s0 < 12) (hm : m < 4) : Cal 115 [.ref 0, .int (nI (4 * s0 + m)), .int (nI m)] I J Q ↔ Q (some (.int (nI (tbN c o m s0 12)))) I J := by
  have e6 : I 6 = c := hS.2.1.1
  have e47 : I 47 = o := hS.2.2.2.1
  refine Cal_of (fun Q hQ => ?_)
  rw [en115]
  simp (disch := omega) only [k115_0, k115_1, k115_2, k115_3, Option.toList_some, Option.toList_none, List.cons_append, List.nil_append, nl_i, nl_r, nl_l, nl_n]
  have key : At 115 5 [some (.ref 0), some (.int (nI (4 * s0 + m))), some (.int (nI m)), some (.int (nI (tbN c o m s0 0))), some (.int (nI (4 * 0 + m)))] [] I J Q := by
    refine loop_dn (N := 12) (P := fun s => At 115 5 [some (.ref 0), some (.int (nI (4 * s0 + m))), some (.int (nI m)), some (.int (nI (tbN c o m s0 s))), some (.int (nI (4 * s + m)))] [] I J Q) ?_ ?_
    · have e0 : 48 ≤ 4 * 12 + m := by omega
      rw [k115_5]
      simp (disch := omega) only [k115_7, k115_9, k115_51, k115_52, nI_leI, e0, ↓reduceIte]
      exact hQ
    · intro s hs ih
      have e0 : ¬ 48 ≤ 4 * s + m := by omega
      rw [show 4 * (s + 1) + m = 4 * s + m + 4 by omega] at ih
      unfold tbN at ih
      rw [k115_5]
      simp (disch := omega) only [k115_7, k115_9, k115_12, k115_13, k115_16_5, k115_19, k115_21, k115_22, k115_23, Option.toList_some, Option.toList_none, List.cons_append, List.nil_append, nl_i, nl_r, nl_l, nl_n, nI_leI, e0, ↓reduceIte, nI_clamp, bnd, ly_6, Nat.reduceLT, true_and, and_true, e6]
      by_cases q1 : c (4 * s + m) = -1
      · rw [if_neg (fun w => w.1 q1)] at ih
        rw [if_pos q1]
        simp (disch := omega) only [k115_45, k115_48, Option.toList_some, Option.toList_none, List.cons_append, List.nil_append, nl_i, nl_r, nl_l, nl_n, nI_add]
        exact ih
      · rw [if_neg q1]
        simp (disch := omega) only [k115_26, k115_27, k115_30, k115_32, k115_33, k115_34, k115_37, k115_38, k115_39, Option.toList_some, Option.toList_none, List.cons_append, List.nil_append, nl_i, nl_r, nl_l, nl_n, nI_clamp, bnd, ly_47, Nat.reduceLT, true_and, and_true, e47]
        by_cases q2 : o (4 * s0 + m) ≤ o (4 * s + m)
        · rw [if_neg (fun w => ge_lt.mpr w.2 q2)] at ih
          rw [if_pos q2]
          simp (disch := omega) only [k115_45, k115_48, Option.toList_some, Option.toList_none, List.cons_append, List.nil_append, nl_i, nl_r, nl_l, nl_n, nI_add]
          exact ih
        · rw [if_pos ⟨q1, ge_lt.mp q2⟩] at ih
          rw [if_neg q2]
          simp (disch := omega) only [k115_42, k115_45, k115_48, Option.toList_some, Option.toList_none, List.cons_append, List.nil_append, nl_i, nl_r, nl_l, nl_n, nI_add]
          exact ih
  rw [show 4 * 0 + m = m by omega] at key
  exact key
set_option maxRecDepth 100000 in
theorem q114 {c o : Nat → Int32} {m n : Nat} (hM : MK c) (hS : SetOK c o I J) (hm : m < 4) (hn : n = mkN (hnd c) m 12) : Cal 114 [.ref 0, .int (nI m), .int (nI (n / 2))] I J Q ↔ Q (some (.long (zL (drS c o m n (ftC c) 12)))) I J := by
  have e6 : I 6 = c := hS.2.1.1
  have hh : ∀ s, s < 12 → I 7 s = nI (hnd c s) ∧ hnd c s < 16 := fun s hs => ⟨hS.2.1.2.1 s hs, hnd_lt c s⟩
  have hn12 : n ≤ 12 := by rw [hn]; exact mkN_le _ _ _
  refine Cal_of (fun Q hQ => ?_)
  rw [en114]
  simp (disch := omega) only [k114_0, k114_1, k114_4, k114_5_5, k114_8, k114_9, k114_10, k114_12, k114_13, Option.toList_some, Option.toList_none, List.cons_append, List.nil_append, nl_i, nl_r, nl_l, nl_n, c38_5 hh hm, ← hn]
  have key : ∀ a7 : Option Value, At 114 15 [some (.ref 0), some (.int (nI m)), some (.int (nI (n / 2))), some (.int (nI n)), some (.long (zL (drS c o m n (ftC c) 0))), none, some (.int (nI (4 * 0 + m))), a7] [] I J Q := by
    refine loop_dn (N := 12) (P := fun s => ∀ a7 : Option Value, At 114 15 [some (.ref 0), some (.int (nI m)), some (.int (nI (n / 2))), some (.int (nI n)), some (.long (zL (drS c o m n (ftC c) s))), none, some (.int (nI (4 * s + m))), a7] [] I J Q) ?_ ?_
    · intro a7
      have e0 : 48 ≤ 4 * 12 + m := by omega
      rw [k114_15]
      simp (disch := omega) only [k114_17, k114_19, k114_96, k114_98, nI_leI, e0, ↓reduceIte]
      exact hQ
    · intro s hs ih a7
      have e0 : ¬ 48 ≤ 4 * s + m := by omega
      have hk : 4 * s + m < 48 := by omega
      have tl := tbN_le c o m s 12
      rw [show 4 * (s + 1) + m = 4 * s + m + 4 by omega] at ih
      unfold drS at ih
      rw [k114_15]
      simp (disch := omega) only [k114_17, k114_19, k114_22, k114_23, k114_26_5, k114_29, k114_31, k114_32, k114_33, Option.toList_some, Option.toList_none, List.cons_append, List.nil_append, nl_i, nl_r, nl_l, nl_n, nI_leI, e0, ↓reduceIte, nI_clamp, bnd, ly_6, Nat.reduceLT, true_and, and_true, e6]
      by_cases q1 : c (4 * s + m) = -1
      · have ih := ih a7
        rw [if_pos q1, Int.add_zero] at ih
        rw [if_neg (fun w => w q1)]
        simp (disch := omega) only [k114_36, k114_90, k114_93, Option.toList_some, Option.toList_none, List.cons_append, List.nil_append, nl_i, nl_r, nl_l, nl_n, nI_add]
        exact ih
      · rw [if_neg q1] at ih
        rw [if_pos q1]
        simp (disch := omega) only [k114_39, k114_40, k114_42, k114_43, k114_46, k114_48, k114_50, k114_51, Option.toList_some, Option.toList_none, List.cons_append, List.nil_append, nl_i, nl_r, nl_l, nl_n, q115 hS hs hm, nI_leI]
        by_cases q2 : n / 2 ≤ tbN c o m s 12
        · rw [if_pos q2]
          simp (disch := omega) only [k114_68, k114_70, k114_71, k114_72, k114_73, Option.toList_some, Option.toList_none, List.cons_append, List.nil_append, nl_i, nl_r, nl_l, nl_n, pk_sub, nI_ltI]
          by_cases q3 : tbN c o m s 12 < n - n / 2
          · rw [if_neg (by omega), if_neg (by omega), Int.add_zero] at ih
            rw [if_pos q3]
            simp (disch := omega) only [k114_90, k114_93, Option.toList_some, Option.toList_none, List.cons_append, List.nil_append, nl_i, nl_r, nl_l, nl_n, nI_add]
            exact ih _
          · rw [if_pos (by omega)] at ih
            rw [if_neg q3]
            simp (disch := omega) only [k114_76, k114_78, k114_79, k114_82, k114_84_5, k114_87, k114_88, k114_90, k114_93, Option.toList_some, Option.toList_none, List.cons_append, List.nil_append, nl_i, nl_r, nl_l, nl_n, d30_5 hM hS.2.1 hS.2.2.1 hk q1, zL_add, nI_add]
            exact ih _
        · rw [if_neg q2]
          have q3 : tbN c o m s 12 < n - n / 2 := by omega
          rw [if_neg (by omega), if_pos (by omega), ← Int.sub_eq_add_neg] at ih
          simp (disch := omega) only [k114_54, k114_56, k114_57, k114_60, k114_62_5, k114_65, k114_66, k114_68, k114_70, k114_71, k114_72, k114_73, k114_90, k114_93, Option.toList_some, Option.toList_none, List.cons_append, List.nil_append, nl_i, nl_r, nl_l, nl_n, d30_5 hM hS.2.1 hS.2.2.1 hk q1, zL_sub, pk_sub, nI_ltI, q3, ↓reduceIte, nI_add]
          exact ih _
  have key := key none
  rw [show 4 * 0 + m = m by omega] at key
  exact key
theorem n2 : ¬ nI 2 = 0 := by decide
theorem dv2 {a : Nat} (h : a < 2 ^ 31) : nI a / nI 2 = nI (a / 2) := pk_div h (by decide) (by decide)
set_option maxRecDepth 100000 in
theorem q98 (hR : RC σ I J) : ∃ I' J', (RC σ I' J' ∧ CF I J I' J') ∧ ∀ Q : Option Value → ab_I → ab_J → Prop, Cal 98 [.ref 0, .int x, .int x1] I J Q ↔ Q (some (.long (aDrift σ x x1))) I' J' := by
  by_cases hb : inr x 4 = true ∧ inr x1 2 = true
  · obtain ⟨m, hm, rfl⟩ := inr_nI hb.1
    obtain ⟨I1, J1, ⟨h1, hS, h3⟩, hcal⟩ := st110 hR
    have hM := cc_MK hR.1.1
    have hh : ∀ s, s < 12 → I1 7 s = nI (hnd (cc σ.1) s) ∧ hnd (cc σ.1) s < 16 := fun s hs => ⟨hS.2.1.2.1 s hs, hnd_lt _ s⟩
    have e5 : J1 5 11 = _ := hS.2.1.2.2.2.2.2.2.2.2
    have hn12 := mkN_le (hnd (cc σ.1)) m 12
    have hbd : bd (drS (cc σ.1) (oo σ.1) m (mkN (hnd (cc σ.1)) m 12) (ftC (cc σ.1)) 12) (12 * 68024448000) := drS_bd 12 (fun s' hs' _ => ft_bd hM (by omega))
    refine ⟨I1, J1, ⟨h1, h3⟩, fun Q => ?_⟩
    rw [en98, show aDrift σ (nI m) x1 = _ from if_pos hb, tN_nI (by omega)]
    by_cases q : mkN (hnd (cc σ.1)) m 12 < 2
    · have q' : mkN (hnd (cc σ.1)) m 12 / 2 = 0 := by omega
      rw [if_pos q]
      simp (disch := omega) only [k98_0, k98_1, k98_4, k98_7, k98_8, k98_11, k98_14, k98_16, k98_19, k98_20, k98_21, k98_24, k98_25, k98_28, k98_29_5, k98_29_17, k98_32, k98_33, k98_34, k98_35, k98_36, k98_39, k98_41, k98_44, k98_45, k98_46, k98_47, k98_48, k98_51, k98_52, k98_53, k98_54, k98_57_5, k98_57_17, k98_60, k98_61, k98_62, k98_65, Option.toList_some, Option.toList_none, List.cons_append, List.nil_append, nl_i, nl_r, nl_l, nl_n, c117, c120, c121, hb.1, hb.2, bI_0, Bool.true_eq_false, not_false_eq_true, not_true_eq_false, ↓reduceIte, hcal, c38_5 hh hm, n2, true_and, dv2, q', n00', nO]
    · have q' : ¬ mkN (hnd (cc σ.1)) m 12 / 2 = 0 := by omega
      rw [if_neg q]
      have hh2 : mkN (hnd (cc σ.1)) m 12 / 2 ≤ 6 := by omega
      have eh : (nI (mkN (hnd (cc σ.1)) m 12 / 2)).toInt64 = zL ((mkN (hnd (cc σ.1)) m 12 / 2 : Nat) : Int) := by rw [nI_l (by omega), lN_zL]
      obtain ⟨p1, -⟩ := i2b12 (c := cc σ.1)
      have p2 : (0 : Int) < ((mkN (hnd (cc σ.1)) m 12 / 2 : Nat) : Int) * (12 * whC (cc σ.1)) := Int.mul_pos (by omega) p1
      have p3 : ((mkN (hnd (cc σ.1)) m 12 / 2 : Nat) : Int) * (12 * whC (cc σ.1)) < 562949953421312 := by
        have := bd_mul (a := ((mkN (hnd (cc σ.1)) m 12 / 2 : Nat) : Int)) (b := 12 * whC (cc σ.1)) (A := 6) (B := 15116544) (by unfold bd; omega) (by have := wh_le (cc σ.1); unfold bd; omega)
        unfold bd at this
        omega
      have hm' : (mkN (hnd (cc σ.1)) m 12 / 2 = 0) = False := eq_false q'
      simp (disch := omega) only [k98_0, k98_1, k98_4, k98_7, k98_8, k98_11, k98_14, k98_16, k98_19, k98_20, k98_21, k98_24, k98_25, k98_28, k98_29_5, k98_29_17, k98_32, k98_33, k98_34, k98_35, k98_36, k98_39, k98_41, k98_44, k98_45, k98_46, k98_47, k98_48, k98_51, k98_52, k98_53, k98_54, k98_57_5, k98_57_17, k98_60, k98_61, k98_62, k98_65, Option.toList_some, Option.toList_none, List.cons_append, List.nil_append, nl_i, nl_r, nl_l, nl_n, c117, c120, c121, hb.1, hb.2, bI_0, Bool.true_eq_false, not_false_eq_true, not_true_eq_false, ↓reduceIte, hcal, c38_5 hh hm, n2, true_and, dv2, eq0, hm', q114 hM hS hm rfl, eh, c15_5, e5, zL_12, zL_mul, c122, sdF_low (bd_ok hbd (by decide)) p2 p3, show ¬ (2 : Nat) = 0 by decide]
  · refine ⟨I, J, ⟨hR, CF_refl⟩, fun Q => ?_⟩
    rw [en98, show aDrift σ x x1 = _ from if_neg hb]
    cases q1 : inr x 4
    · simp only [k98_0, k98_1, k98_4, k98_7, k98_8, k98_11, k98_14, k98_16, k98_19, k98_20, k98_21, k98_24, k98_25, k98_28, k98_29_5, k98_29_17, k98_32, k98_33, k98_34, k98_35, k98_36, k98_39, k98_41, k98_44, k98_45, k98_46, k98_47, k98_48, k98_51, k98_52, k98_53, k98_54, k98_57_5, k98_57_17, k98_60, k98_61, k98_62, k98_65, Option.toList_some, Option.toList_none, List.cons_append, List.nil_append, nl_i, nl_r, nl_l, nl_n, c117, c121, q1, bI_0, ↓reduceIte, nO]
    · cases q2 : inr x1 2
      · simp only [k98_0, k98_1, k98_4, k98_7, k98_8, k98_11, k98_14, k98_16, k98_19, k98_20, k98_21, k98_24, k98_25, k98_28, k98_29_5, k98_29_17, k98_32, k98_33, k98_34, k98_35, k98_36, k98_39, k98_41, k98_44, k98_45, k98_46, k98_47, k98_48, k98_51, k98_52, k98_53, k98_54, k98_57_5, k98_57_17, k98_60, k98_61, k98_62, k98_65, Option.toList_some, Option.toList_none, List.cons_append, List.nil_append, nl_i, nl_r, nl_l, nl_n, c117, c120, c121, q1, q2, bI_0, Bool.true_eq_false, not_true_eq_false, ↓reduceIte, nO]
      · exact absurd ⟨q1, q2⟩ hb
theorem mk_has {c : Nat → Int32} {m : Nat} (hm : m < 4) : ∀ n, (∃ s, s < n ∧ c (4 * s + m) ≠ -1) ∨ mkN (hnd c) m n = 0
  | 0 => Or.inr rfl
  | n + 1 => by
    rcases mk_has (c := c) hm n with ⟨s, h1, h2⟩ | h
    · exact Or.inl ⟨s, by omega, h2⟩
    · by_cases q : c (4 * n + m) = -1
      · refine Or.inr ?_
        unfold mkN
        rw [h, hnd_bit c n hm, decide_eq_false (fun w => w q)]
        rfl
      · exact Or.inl ⟨n, by omega, q⟩
set_option maxRecDepth 100000 in
theorem r180 (hR : RR σ I) : ∃ I' J', (RR σ I' ∧ QF I J I' J') ∧ ∀ Q : Option Value → ab_I → ab_J → Prop, Cal 180 [.ref 49, .int x, .int x1] I J Q ↔ Q (some (.long (aDrift σ x x1))) I' J' := by
  by_cases hb : inr x 4 = true ∧ inr x1 2 = true
  · obtain ⟨m, hm, rfl⟩ := inr_nI hb.1
    obtain ⟨I1, ⟨h1, h3⟩, hcal⟩ := st138 (J := J) hR
    have hM := cc_MK hR.1.1
    have e55 : I1 55 = cc σ.1 := h1.2.1
    have e56 : I1 56 = oo σ.1 := h1.2.2.1
    have e57 : I1 57 (12 + m) = enc (lb (hnd (cc σ.1)) m) := by rw [h1.2.2.2 (12 + m) (by omega), LB_m]
    have hn12 := mkN_le (hnd (cc σ.1)) m 12
    have hshow : aDrift σ (nI m) x1 = if mkN (hnd (cc σ.1)) m 12 < 2 then nO (-3) else zL (low (drS (cc σ.1) (oo σ.1) m (mkN (hnd (cc σ.1)) m 12) (ftC (cc σ.1)) 12) ((mkN (hnd (cc σ.1)) m 12 / 2 : Nat) * (12 * whC (cc σ.1))) x1) := by
      rw [show aDrift σ (nI m) x1 = _ from if_pos hb, tN_nI (by omega)]
    rw [hshow]
    -- the first loop counts
    have cnt : ∀ Q : Option Value → ab_I → ab_J → Prop, (∀ a4 : Option Value, At 180 63 [some (.ref 49), some (.int (nI m)), some (.int x1), some (.int (nI (mkN (hnd (cc σ.1)) m 12))), a4, none, none, none, none, none] [] I1 J Q) → Cal 180 [.ref 49, .int (nI m), .int x1] I J Q := by
      intro Q hQ
      rw [en180]
      simp (disch := omega) only [k180_0, k180_1, k180_4, k180_7, k180_8, k180_9, k180_10, k180_13, k180_22, k180_23, k180_26, k180_27, k180_28, k180_29, Option.toList_some, Option.toList_none, List.cons_append, List.nil_append, nl_i, nl_r, nl_l, nl_n, c132, c126, in01, hb.1, hb.2, bI_0, Bool.true_eq_false, not_false_eq_true, ↓reduceIte, hcal]
      refine loop_dn (N := 12) (P := fun s => At 180 31 [some (.ref 49), some (.int (nI m)), some (.int x1), some (.int (nI (mkN (hnd (cc σ.1)) m s))), some (.int (nI s)), none, none, none, none, none] [] I1 J Q) ?_ ?_
      · rw [k180_31]
        simp (disch := omega) only [k180_33, k180_35, nI_leI, Nat.le_refl, ↓reduceIte]
        exact hQ _
      · intro s hs ih
        have e0 : ¬ 12 ≤ s := by omega
        unfold mkN at ih
        rw [hnd_bit (cc σ.1) s hm] at ih
        rw [k180_31]
        simp (disch := omega) only [k180_33, k180_35, k180_38, k180_39, k180_40, k180_42, k180_43, k180_46, k180_47, Option.toList_some, Option.toList_none, List.cons_append, List.nil_append, nl_i, nl_r, nl_l, nl_n, nI_leI, e0, ↓reduceIte, c140 hs hm, e55]
        by_cases q1 : cc σ.1 (4 * s + m) = -1
        · rw [decide_eq_false (fun w => w q1)] at ih
          rw [if_neg (fun w => w q1)]
          simp (disch := omega) only [k180_50, k180_51, k180_55, k180_56, k180_57, k180_60, Option.toList_some, Option.toList_none, List.cons_append, List.nil_append, nl_i, nl_r, nl_l, nl_n, nI_add]
          exact ih
        · rw [decide_eq_true q1] at ih
          rw [if_pos q1]
          simp (disch := omega) only [k180_54, k180_55, k180_56, k180_57, k180_60, Option.toList_some, Option.toList_none, List.cons_append, List.nil_append, nl_i, nl_r, nl_l, nl_n, nI_add]
          exact ih
    by_cases q : mkN (hnd (cc σ.1)) m 12 < 2
    · refine ⟨I1, J, ⟨RL_RR h1, h3⟩, fun Q => Cal_of (fun Q hQ => cnt Q (fun a4 => ?_))⟩
      rw [if_pos q] at hQ
      have q' : ¬ 2 ≤ mkN (hnd (cc σ.1)) m 12 := by omega
      simp (disch := omega) only [k180_63, k180_64, k180_65, k180_68, k180_70, k180_73, Option.toList_some, Option.toList_none, List.cons_append, List.nil_append, nl_i, nl_r, nl_l, nl_n, nI_leI, q', ↓reduceIte, c127]
      exact hQ
    · have hlb : lb (hnd (cc σ.1)) m < 4 := by
        rcases mk_has (c := cc σ.1) hm 12 with ⟨s, w1, w2⟩ | w
        · have hb1 : (hnd (cc σ.1) s).testBit m = true := by rw [hnd_bit _ s hm]; exact decide_eq_true w2
          have := slb_lt w1 hm hb1
          rw [slb_of w1 hm hb1] at this
          exact this
        · omega
      obtain ⟨f1, f2⟩ := lb_fix (h := hnd (cc σ.1)) hm (by omega)
      obtain ⟨a', J', K, ov, hz, wz, ⟨hW, hj⟩, hcal2⟩ := wk146 (J := J) h1.2 hM f1 f2
      obtain ⟨p1, p2, p3⟩ := wk_pos hW
      obtain ⟨g1, g2⟩ := RL_58 (a' := a') h1 hj
      have hL' := g1.2
      refine ⟨_, J', ⟨RL_RR g1, QF_trans h3 g2⟩, fun Q => Cal_of (fun Q hQ => cnt Q (fun a4 => ?_))⟩
      rw [if_neg q] at hQ
      have q' : 2 ≤ mkN (hnd (cc σ.1)) m 12 := by omega
      have hslb : ∀ s, s < 12 → cc σ.1 (4 * s + m) ≠ -1 → slb (hnd (cc σ.1)) ((4 * s + m) / 4) = lb (hnd (cc σ.1)) m := by
        intro s hs w
        have hb1 : (hnd (cc σ.1) s).testBit m = true := by rw [hnd_bit _ s hm]; exact decide_eq_true w
        rw [show (4 * s + m) / 4 = s by omega]
        exact slb_of hs hm hb1
      have eK : drS (cc σ.1) (oo σ.1) m (mkN (hnd (cc σ.1)) m 12) (ftC (cc σ.1)) 12 = K * drS (cc σ.1) (oo σ.1) m (mkN (hnd (cc σ.1)) m 12) (fzR (cc σ.1) ov hz wz) 12 := drS_K 12 (fun s hs w => fz_K hW (by omega) w (hslb s hs w))
      have hbd : bd (drS (cc σ.1) (oo σ.1) m (mkN (hnd (cc σ.1)) m 12) (ftC (cc σ.1)) 12) (12 * 68024448000) := drS_bd 12 (fun s' hs' _ => ft_bd hM (by omega))
      have o1 := bd_ok (bd_K hbd eK hW.1) (by decide)
      have b2 : bd (12 * ov * ((mkN (hnd (cc σ.1)) m 12 / 2 : Nat) : Int)) (15116544 * 6) := bd_mul p3 (by unfold bd; omega)
      have o2 := bd_ok b2 (by decide)
      have p4 : 0 < 12 * ov * ((mkN (hnd (cc σ.1)) m 12 / 2 : Nat) : Int) := Int.mul_pos p1 (by omega)
      have eh : (nI (mkN (hnd (cc σ.1)) m 12 / 2)).toInt64 = zL ((mkN (hnd (cc σ.1)) m 12 / 2 : Nat) : Int) := by rw [nI_l (by omega), lN_zL]
      have elow : low (drS (cc σ.1) (oo σ.1) m (mkN (hnd (cc σ.1)) m 12) (fzR (cc σ.1) ov hz wz) 12) (12 * ov * ((mkN (hnd (cc σ.1)) m 12 / 2 : Nat) : Int)) x1 = low (drS (cc σ.1) (oo σ.1) m (mkN (hnd (cc σ.1)) m 12) (ftC (cc σ.1)) 12) (((mkN (hnd (cc σ.1)) m 12 / 2 : Nat) : Int) * (12 * whC (cc σ.1))) x1 := by
        rw [eK, hW.2.2.1]
        have : ((mkN (hnd (cc σ.1)) m 12 / 2 : Nat) : Int) * (12 * (K * ov)) = K * (12 * ov * ((mkN (hnd (cc σ.1)) m 12 / 2 : Nat) : Int)) := by ac_rfl
        rw [this]
        exact (low_mul hW.1 p4).symm
      simp (disch := omega) only [k180_63, k180_64, k180_65, k180_74, k180_75, k180_76, k180_79, k180_81, k180_82, k180_83, k180_84, k180_87, k180_88, k180_89, k180_90, k180_92, k180_93, k180_95, k180_96, Option.toList_some, Option.toList_none, List.cons_append, List.nil_append, nl_i, nl_r, nl_l, nl_n, nI_leI, q', ↓reduceIte, nI_add, nI_clamp, bnd, ly_57, Nat.reduceLT, true_and, and_true, e57, enc_lt f1, hcal2, n2, not_false_eq_true, dv2]
      have key : ∀ a8 a9 : Option Value, At 180 98 [some (.ref 49), some (.int (nI m)), some (.int x1), some (.int (nI (mkN (hnd (cc σ.1)) m 12))), some (.int (nI (mkN (hnd (cc σ.1)) m 12 / 2))), some (.long (zL (drS (cc σ.1) (oo σ.1) m (mkN (hnd (cc σ.1)) m 12) (fzR (cc σ.1) ov hz wz) 0))), none, some (.int (nI 0)), a8, a9] [] (va_up I1 58 a') J' Q := by
        refine loop_dn (N := 12) (P := fun s => ∀ a8 a9 : Option Value, At 180 98 [some (.ref 49), some (.int (nI m)), some (.int x1), some (.int (nI (mkN (hnd (cc σ.1)) m 12))), some (.int (nI (mkN (hnd (cc σ.1)) m 12 / 2))), some (.long (zL (drS (cc σ.1) (oo σ.1) m (mkN (hnd (cc σ.1)) m 12) (fzR (cc σ.1) ov hz wz) s))), none, some (.int (nI s)), a8, a9] [] (va_up I1 58 a') J' Q) ?_ ?_
        · intro a8 a9
          rw [k180_98]
          simp (disch := omega) only [k180_100, k180_102, k180_230, k180_232, k180_233, k180_236, k180_238, k180_239, k180_240, k180_241, k180_244, Option.toList_some, Option.toList_none, List.cons_append, List.nil_append, nl_i, nl_r, nl_l, nl_n, nI_leI, Nat.le_refl, ↓reduceIte, hW.2.2.2.1, eh, zL_mul, c130 o1 o2 p4, elow]
          exact hQ
        · intro s hs ih a8 a9
          have e0 : ¬ 12 ≤ s := by omega
          have e55' : (va_up I1 58 a') 55 = cc σ.1 := hL'.1
          have e56' : (va_up I1 58 a') 56 = oo σ.1 := hL'.2.1
          have hk : 4 * s + m < 48 := by omega
          have tl := tbN_le (cc σ.1) (oo σ.1) m s 12
          unfold drS at ih
          rw [k180_98]
          simp (disch := omega) only [k180_100, k180_102, k180_105, k180_106, k180_108, k180_109, k180_112, k180_113, Option.toList_some, Option.toList_none, List.cons_append, List.nil_append, nl_i, nl_r, nl_l, nl_n, nI_leI, e0, ↓reduceIte, c140 hs hm, e55']
          by_cases q1 : cc σ.1 (4 * s + m) = -1
          · rw [if_pos q1, Int.add_zero] at ih
            rw [if_pos q1]
            simp (disch := omega) only [k180_224, k180_227, Option.toList_some, Option.toList_none, List.cons_append, List.nil_append, nl_i, nl_r, nl_l, nl_n, nI_add]
            exact ih _ _
          · rw [if_neg q1] at ih
            rw [if_neg q1]
            simp (disch := omega) only [k180_116, k180_117, k180_119, k180_120, Option.toList_some, Option.toList_none, List.cons_append, List.nil_append, nl_i, nl_r, nl_l, nl_n]
            have inner : At 180 122 [some (.ref 49), some (.int (nI m)), some (.int x1), some (.int (nI (mkN (hnd (cc σ.1)) m 12))), some (.int (nI (mkN (hnd (cc σ.1)) m 12 / 2))), some (.long (zL (drS (cc σ.1) (oo σ.1) m (mkN (hnd (cc σ.1)) m 12) (fzR (cc σ.1) ov hz wz) s))), none, some (.int (nI s)), some (.int (nI (tbN (cc σ.1) (oo σ.1) m s 0))), some (.int (nI 0))] [] (va_up I1 58 a') J' Q := by
              refine loop_dn (N := 12) (P := fun t => At 180 122 [some (.ref 49), some (.int (nI m)), some (.int x1), some (.int (nI (mkN (hnd (cc σ.1)) m 12))), some (.int (nI (mkN (hnd (cc σ.1)) m 12 / 2))), some (.long (zL (drS (cc σ.1) (oo σ.1) m (mkN (hnd (cc σ.1)) m 12) (fzR (cc σ.1) ov hz wz) s))), none, some (.int (nI s)), some (.int (nI (tbN (cc σ.1) (oo σ.1) m s t))), some (.int (nI t))] [] (va_up I1 58 a') J' Q) ?_ ?_
              · rw [k180_122]
                have f := fun Q => f148 (Q := Q) (I := va_up I1 58 a') (J := J') (k := 4 * s + m) hL' hM hW hk q1 (hslb s hs q1) (show s = (4 * s + m) / 4 by omega) (show m = (4 * s + m) % 4 by omega)
                simp (disch := omega) only [k180_124, k180_126, k180_181, k180_183, k180_185, k180_186, k180_188, k180_189, Option.toList_some, Option.toList_none, List.cons_append, List.nil_append, nl_i, nl_r, nl_l, nl_n, nI_leI, Nat.le_refl, ↓reduceIte, pk_sub, nI_ltI]
                by_cases q2 : tbN (cc σ.1) (oo σ.1) m s 12 < mkN (hnd (cc σ.1)) m 12 - mkN (hnd (cc σ.1)) m 12 / 2
                · rw [if_neg (by omega)] at ih
                  rw [if_pos q2]
                  simp (disch := omega) only [k180_202, k180_204, k180_206, nI_leI]
                  by_cases q3 : mkN (hnd (cc σ.1)) m 12 / 2 ≤ tbN (cc σ.1) (oo σ.1) m s 12
                  · rw [if_neg (by omega), Int.add_zero] at ih
                    rw [if_pos q3]
                    simp (disch := omega) only [k180_220, k180_221, k180_222, k180_224, k180_227, Option.toList_some, Option.toList_none, List.cons_append, List.nil_append, nl_i, nl_r, nl_l, nl_n, zL_0, zL_add, Int.add_zero, nI_add]
                    exact ih _ _
                  · rw [if_pos (by omega)] at ih
                    rw [if_neg q3]
                    simp (disch := omega) only [k180_209, k180_210, k180_212, k180_213, k180_216, k180_217, k180_221, k180_222, k180_224, k180_227, Option.toList_some, Option.toList_none, List.cons_append, List.nil_append, nl_i, nl_r, nl_l, nl_n, f, zL_neg, zL_add, nI_add]
                    exact ih _ _
                · rw [if_pos (by omega)] at ih
                  rw [if_neg q2]
                  simp (disch := omega) only [k180_192, k180_193, k180_195, k180_196, k180_199, k180_221, k180_222, k180_224, k180_227, Option.toList_some, Option.toList_none, List.cons_append, List.nil_append, nl_i, nl_r, nl_l, nl_n, f, zL_add, nI_add]
                  exact ih _ _
              · intro t ht iht
                have e1 : ¬ 12 ≤ t := by omega
                unfold tbN at iht
                rw [k180_122]
                simp (disch := omega) only [k180_124, k180_126, k180_129, k180_131, k180_132, k180_134, k180_135, k180_138, k180_139, Option.toList_some, Option.toList_none, List.cons_append, List.nil_append, nl_i, nl_r, nl_l, nl_n, nI_leI, e1, ↓reduceIte, c140 ht hm, e55']
                by_cases q2 : cc σ.1 (4 * t + m) = -1
                · rw [if_neg (fun w => w.1 q2)] at iht
                  rw [if_pos q2]
                  simp (disch := omega) only [k180_171, k180_172, k180_173, k180_175, k180_178, Option.toList_some, Option.toList_none, List.cons_append, List.nil_append, nl_i, nl_r, nl_l, nl_n, nI_add]
                  exact iht
                · rw [if_neg q2]
                  simp (disch := omega) only [k180_142, k180_143, k180_146, k180_147, k180_149, k180_150, k180_151, k180_152, k180_153, k180_154, k180_157, k180_158, k180_160, k180_161, k180_162, k180_163, k180_164, Option.toList_some, Option.toList_none, List.cons_append, List.nil_append, nl_i, nl_r, nl_l, nl_n, pk_mul, nI_add, nI_clamp, bnd, ly_56, Nat.reduceLT, true_and, and_true, e56']
                  by_cases q3 : oo σ.1 (4 * s + m) ≤ oo σ.1 (4 * t + m)
                  · rw [if_neg (fun w => ge_lt.mpr w.2 q3)] at iht
                    rw [if_pos q3]
                    simp (disch := omega) only [k180_171, k180_172, k180_173, k180_175, k180_178, Option.toList_some, Option.toList_none, List.cons_append, List.nil_append, nl_i, nl_r, nl_l, nl_n, nI_add]
                    exact iht
                  · rw [if_pos ⟨q2, ge_lt.mp q3⟩] at iht
                    rw [if_neg q3]
                    simp (disch := omega) only [k180_167, k180_168, k180_172, k180_173, k180_175, k180_178, Option.toList_some, Option.toList_none, List.cons_append, List.nil_append, nl_i, nl_r, nl_l, nl_n, nI_add]
                    exact iht
            exact inner
      exact key _ _
  · refine ⟨I, J, ⟨hR, QF_refl⟩, fun Q => ?_⟩
    rw [en180, show aDrift σ x x1 = _ from if_neg hb]
    cases q1 : inr x 4
    · simp only [k180_0, k180_1, k180_4, k180_7, k180_8, k180_9, k180_10, k180_13, k180_16, k180_18, k180_21, k180_22, k180_23, k180_26, k180_27, k180_28, k180_29, k180_33, k180_35, k180_38, k180_39, k180_40, k180_42, k180_43, k180_46, k180_47, k180_50, k180_51, k180_54, k180_55, k180_56, k180_57, k180_60, k180_63, k180_64, k180_65, k180_68, k180_70, k180_73, k180_74, k180_75, k180_76, k180_79, k180_81, k180_82, k180_83, k180_84, k180_87, k180_88, k180_89, k180_90, k180_92, k180_93, k180_95, k180_96, k180_100, k180_102, k180_105, k180_106, k180_108, k180_109, k180_112, k180_113, k180_116, k180_117, k180_119, k180_120, k180_124, k180_126, k180_129, k180_131, k180_132, k180_134, k180_135, k180_138, k180_139, k180_142, k180_143, k180_146, k180_147, k180_149, k180_150, k180_151, k180_152, k180_153, k180_154, k180_157, k180_158, k180_160, k180_161, k180_162, k180_163, k180_164, k180_167, k180_168, k180_171, k180_172, k180_173, k180_175, k180_178, k180_181, k180_183, k180_185, k180_186, k180_188, k180_189, k180_192, k180_193, k180_195, k180_196, k180_199, k180_202, k180_204, k180_206, k180_209, k180_210, k180_212, k180_213, k180_216, k180_217, k180_220, k180_221, k180_222, k180_224, k180_227, k180_230, k180_232, k180_233, k180_236, k180_238, k180_239, k180_240, k180_241, k180_244, Option.toList_some, Option.toList_none, List.cons_append, List.nil_append, nl_i, nl_r, nl_l, nl_n, c132, c127, q1, bI_0, ↓reduceIte, nO]
    · cases q2 : inr x1 2
      · simp only [k180_0, k180_1, k180_4, k180_7, k180_8, k180_9, k180_10, k180_13, k180_16, k180_18, k180_21, k180_22, k180_23, k180_26, k180_27, k180_28, k180_29, k180_33, k180_35, k180_38, k180_39, k180_40, k180_42, k180_43, k180_46, k180_47, k180_50, k180_51, k180_54, k180_55, k180_56, k180_57, k180_60, k180_63, k180_64, k180_65, k180_68, k180_70, k180_73, k180_74, k180_75, k180_76, k180_79, k180_81, k180_82, k180_83, k180_84, k180_87, k180_88, k180_89, k180_90, k180_92, k180_93, k180_95, k180_96, k180_100, k180_102, k180_105, k180_106, k180_108, k180_109, k180_112, k180_113, k180_116, k180_117, k180_119, k180_120, k180_124, k180_126, k180_129, k180_131, k180_132, k180_134, k180_135, k180_138, k180_139, k180_142, k180_143, k180_146, k180_147, k180_149, k180_150, k180_151, k180_152, k180_153, k180_154, k180_157, k180_158, k180_160, k180_161, k180_162, k180_163, k180_164, k180_167, k180_168, k180_171, k180_172, k180_173, k180_175, k180_178, k180_181, k180_183, k180_185, k180_186, k180_188, k180_189, k180_192, k180_193, k180_195, k180_196, k180_199, k180_202, k180_204, k180_206, k180_209, k180_210, k180_212, k180_213, k180_216, k180_217, k180_220, k180_221, k180_222, k180_224, k180_227, k180_230, k180_232, k180_233, k180_236, k180_238, k180_239, k180_240, k180_241, k180_244, Option.toList_some, Option.toList_none, List.cons_append, List.nil_append, nl_i, nl_r, nl_l, nl_n, c132, c126, in01, c127, q1, q2, bI_0, Bool.true_eq_false, not_true_eq_false, ↓reduceIte, nO]
      · exact absurd ⟨q1, q2⟩ hb
end DRIFT
