/-! CALLS: rank, type, wipe, fault, grade, hangs, misses -/
def ahd (c : Nat → Int32) (w : Bool) (s t : Nat) : Bool := if w then decide (wrC c t < wrC c s) else decide (smN c t * pop (hnd c s) < smN c s * pop (hnd c t))
def rkN (c : Nat → Int32) (w : Bool) (t : Nat) : Nat → Nat
  | 0 => 0
  | s + 1 => rkN c w t s + (if slb (hnd c) s = slb (hnd c) t ∧ ahd c w s t = true then 1 else 0)
theorem rkN_le (c : Nat → Int32) (w : Bool) (t : Nat) : ∀ s, rkN c w t s ≤ s
  | 0 => Nat.le_refl _
  | s + 1 => by have := rkN_le c w t s; unfold rkN; split <;> omega
def aRank (c : Nat → Int32) (x x1 : Int32) : Int32 := if inr x 12 = true ∧ inr x1 2 = true then (if slb (hnd c) (tN x) = 4 then -3 else nI (1 + rkN c (decide (x1 = nI 0)) (tN x) 12)) else -2
theorem grF_cg {lt : Nat → Nat} {f g : Nat → Bool} : ∀ n i, (∀ j, f j = g j) → grF lt f n i = grF lt g n i
  | 0, _, _ => rfl
  | n + 1, i, h => by unfold grF; rw [h i, grF_cg n (i + 1) h]
theorem grd_K {z : Nat × (Nat → Nat) × (Nat → Nat) × Int32} {K a b t : Int} (hK : 0 < K) : grd z (K * a) (K * b) t = grd z a b t := grF_cg _ _ (fun _ => rch_mul hK)
theorem grF_le {lt : Nat → Nat} {f : Nat → Bool} : ∀ n i, (∀ j, j < i + n → lt j ≤ 5) → grF lt f n i ≤ 6
  | 0, _, _ => Nat.le_refl _
  | n + 1, i, h => by
    unfold grF
    split
    · have := h i (by omega); omega
    · exact grF_le n (i + 1) (fun j hj => h j (by omega))
theorem grd_le {z : Nat × (Nat → Nat) × (Nat → Nat) × Int32} {a b t : Int} {A B : Nat → Int32} (h : LTR z.2.1 z.2.2.1 z.1 A B) : grd z a b t ≤ 6 := grF_le _ _ (fun j hj => (h j (by omega)).1.2)
def gRef (σ : PS) (x : Int32) : Prop := (prs σ.2.2.1.1 σ.2.2.1.2).2.2.2 ≠ -1 ∨ slb (hnd (cc σ.1)) (tN x) = 4
def gW (σ : PS) (s : Nat) (t : Int) : Nat := grd (prs σ.2.2.1.1 σ.2.2.1.2) (wrC (cc σ.1) s) (12 * whC (cc σ.1)) t
def gM (σ : PS) (s : Nat) : Nat := grd (prs σ.2.2.1.1 σ.2.2.1.2) (smN (cc σ.1) s) (pop (hnd (cc σ.1) s) : Nat) 0
def aGradeT (σ : PS) (s : Nat) : Int32 := if (prs σ.2.2.1.1 σ.2.2.1.2).2.2.2 ≠ -1 ∨ slb (hnd (cc σ.1)) s = 4 then -3 else nI (gW σ s 0)
def aGrade (σ : PS) (x : Int32) : Int32 := if inr x 12 = true then aGradeT σ (tN x) else -2
def aHangs (σ : PS) (x : Int32) : Int32 := if inr x 12 = true then (if (prs σ.2.2.1.1 σ.2.2.1.2).2.2.2 ≠ -1 ∨ slb (hnd (cc σ.1)) (tN x) = 4 then -3 else if gM σ (tN x) = gW σ (tN x) 0 then nI 0 else nI 1) else -2
def inT (x : Int32) : Bool := decide (-1000 ≤ x.toInt) && decide (x.toInt ≤ 1000)
def msN (σ : PS) (b : Nat) (t : Int) : Nat → Nat
  | 0 => 0
  | s + 1 => msN σ b t s + (if slb (hnd (cc σ.1)) s = b ∧ gW σ s t ≠ gW σ s 0 then 1 else 0)
theorem msN_le (σ : PS) (b : Nat) (t : Int) : ∀ s, msN σ b t s ≤ s
  | 0 => Nat.le_refl _
  | s + 1 => by have := msN_le σ b t s; unfold msN; split <;> omega
def aMisses (σ : PS) (x x1 : Int32) : Int32 := if inr x 4 = true ∧ inT x1 = true then (if (prs σ.2.2.1.1 σ.2.2.1.2).2.2.2 ≠ -1 ∨ lb (hnd (cc σ.1)) (tN x) ≠ tN x then -3 else nI (msN σ (tN x) x1.toInt 12)) else -2
section GCALL
variable {I : ab_I} {J : ab_J} {Q : Option Value → ab_I → ab_J → Prop} {σ : PS} {x x1 x2 : Int32}
theorem pop_zL {c : Nat → Int32} {s : Nat} : (nI (pop (hnd c s))).toInt64 = zL (pop (hnd c s) : Nat) := by rw [nI_l (by have := pop_le (hnd c s); omega), lN_zL]
set_option maxRecDepth 100000 in
theorem q113 {c o : Nat → Int32} {s t : Nat} (hM : MK c) (hS : SetOK c o I J) (hs : s < 12) (ht : t < 12) : Cal 113 [.ref 0, .int (nI s), .int (nI t), .int x] I J Q ↔ Q (some (.int (bI (ahd c (decide (x = nI 0)) s t)))) I J := by
  have e6 : I 6 = c := hS.2.1.1
  have e7s : I 7 s = _ := hS.2.1.2.1 s hs
  have e7t : I 7 t = _ := hS.2.1.2.1 t ht
  have e16s : J 16 s = _ := hS.2.2.1.2 s hs
  have e16t : J 16 t = _ := hS.2.2.1.2 t ht
  have os := bd_ok (wr_bd hM hs) (by decide)
  have ot := bd_ok (wr_bd hM ht) (by decide)
  have b1 := smN_le hM hs
  have b2 := smN_le hM ht
  have p1 := pop_le (hnd c s)
  have p2 := pop_le (hnd c t)
  rw [en113]
  unfold ahd
  by_cases h0 : x = nI 0
  · subst h0
    simp (disch := omega) only [k113_0, k113_1, k113_4, k113_5, k113_8_5, k113_8_17, k113_11, k113_12, k113_13, k113_14, k113_17_5, k113_17_17, k113_20, k113_21, k113_22, k113_23, k113_26, k113_27, k113_30, k113_31, k113_32, k113_33, k113_36, k113_37_5, k113_37_17, k113_40, k113_41, k113_44_5, k113_44_17, k113_47, k113_48, k113_49, k113_52, k113_53, k113_54, k113_55, k113_58, k113_59_5, k113_59_17, k113_62, k113_63, k113_66_5, k113_66_17, k113_69, k113_70, k113_71, k113_74, k113_75, k113_76, k113_77, k113_80, k113_81, k113_84, k113_85, Option.toList_some, Option.toList_none, List.cons_append, List.nil_append, nl_i, nl_r, nl_l, nl_n, n00', not_true_eq_false, ↓reduceIte, nI_clamp, bnd, ly_16, Nat.reduceLT, true_and, and_true, e16s, e16t, lg_cmp_le, zL_le os ot, decide_true]
    by_cases q : wrC c s ≤ wrC c t
    · rw [if_pos q, decide_eq_false (show ¬ wrC c t < wrC c s by omega)]
      simp only [bI_f, z00, true_or, true_and]
    · rw [if_neg q, decide_eq_true (show wrC c t < wrC c s by omega)]
      simp only [bI_t, z10, true_and]
  · have h0' : (x = 0) = False := eq_false h0
    have m1 : smN c s * pop (hnd c t) ≤ 400 * 4 := Nat.mul_le_mul b1 p2
    have m2 : smN c t * pop (hnd c s) ≤ 400 * 4 := Nat.mul_le_mul b2 p1
    have o1 : ok ((smN c s : Int) * (pop (hnd c t) : Nat)) := by rw [← Int.natCast_mul]; exact okN (by omega)
    have o2 : ok ((smN c t : Int) * (pop (hnd c s) : Nat)) := by rw [← Int.natCast_mul]; exact okN (by omega)
    simp (disch := omega) only [k113_0, k113_1, k113_4, k113_5, k113_8_5, k113_8_17, k113_11, k113_12, k113_13, k113_14, k113_17_5, k113_17_17, k113_20, k113_21, k113_22, k113_23, k113_26, k113_27, k113_30, k113_31, k113_32, k113_33, k113_36, k113_37_5, k113_37_17, k113_40, k113_41, k113_44_5, k113_44_17, k113_47, k113_48, k113_49, k113_52, k113_53, k113_54, k113_55, k113_58, k113_59_5, k113_59_17, k113_62, k113_63, k113_66_5, k113_66_17, k113_69, k113_70, k113_71, k113_74, k113_75, k113_76, k113_77, k113_80, k113_81, k113_84, k113_85, Option.toList_some, Option.toList_none, List.cons_append, List.nil_append, nl_i, nl_r, nl_l, nl_n, h0', not_false_eq_true, ↓reduceIte, c29_5, e6, sumL_z hM hs, sumL_z hM ht, nI_clamp, bnd, ly_7, Nat.reduceLT, true_and, and_true, e7s, e7t, c202 (hnd_lt c s), c202 (hnd_lt c t), pop_zL, zL_mul, lg_cmp_le, zL_le o1 o2, eq_false h0, decide_false, Bool.false_eq_true]
    rw [← Int.natCast_mul, ← Int.natCast_mul]
    by_cases q : smN c s * pop (hnd c t) ≤ smN c t * pop (hnd c s)
    · rw [if_pos (by omega), decide_eq_false (by omega)]
      simp only [bI_f, z00, true_or, true_and]
    · rw [if_neg (by omega), decide_eq_true (by omega)]
      simp only [bI_t, z10, true_and]
set_option maxRecDepth 100000 in
theorem q85 (hR : RC σ I J) : ∃ I' J', (RC σ I' J' ∧ CF I J I' J') ∧ ∀ Q : Option Value → ab_I → ab_J → Prop, Cal 85 [.ref 0, .int x, .int x1] I J Q ↔ Q (some (.int (aRank (cc σ.1) x x1))) I' J' := by
  by_cases hb : inr x 12 = true ∧ inr x1 2 = true
  · obtain ⟨t, ht, rfl⟩ := inr_nI hb.1
    obtain ⟨I1, J1, ⟨h1, hS, h3⟩, hcal⟩ := st110 hR
    have hM := cc_MK hR.1.1
    have e7 : I1 7 t = _ := hS.2.1.2.1 t ht
    have e11 : ∀ s, s < 12 → I1 11 s = _ := hS.2.1.2.2.2.2.2.1
    have hlt := hnd_lt (cc σ.1) t
    have h4 := slb_4 (h := hnd (cc σ.1)) ht hlt
    refine ⟨I1, J1, ⟨h1, h3⟩, fun Q => ?_⟩
    rw [show aRank (cc σ.1) (nI t) x1 = _ from if_pos hb, tN_nI (by omega)]
    by_cases q : slb (hnd (cc σ.1)) t = 4
    · have q' := h4.mp q
      rw [if_pos q, en85]
      simp (disch := omega) only [k85_0, k85_1, k85_4, k85_7, k85_8, k85_11, k85_14, k85_16, k85_17, k85_18, k85_21, k85_22, k85_25_5, k85_25_17, k85_28, k85_29, k85_30, k85_33, k85_35, k85_36, k85_37, k85_38, k85_39, k85_43, k85_45, k85_48, k85_49, k85_52_5, k85_52_17, k85_55, k85_57, k85_58, k85_59, k85_62_5, k85_62_17, k85_65, k85_66, k85_67, k85_70, k85_71, k85_73, k85_74, k85_75, k85_78, k85_81, k85_84, k85_87, k85_90, k85_91, k85_92, k85_93, Option.toList_some, Option.toList_none, List.cons_append, List.nil_append, nl_i, nl_r, nl_l, nl_n, c116, c120, hb.1, hb.2, bI_0, Bool.true_eq_false, not_false_eq_true, not_true_eq_false, ↓reduceIte, hcal, nI_clamp, bnd, ly_7, Nat.reduceLT, true_and, and_true, e7, eq0, q', n00']
    · have q' : ¬ hnd (cc σ.1) t = 0 := fun w => q (h4.mpr w)
      rw [if_neg q]
      refine Cal_of (fun Q hQ => ?_)
      rw [en85]
      simp (disch := omega) only [k85_0, k85_1, k85_4, k85_7, k85_8, k85_11, k85_17, k85_18, k85_21, k85_22, k85_25_5, k85_28, k85_29, k85_30, k85_36, k85_37, k85_38, k85_39, Option.toList_some, Option.toList_none, List.cons_append, List.nil_append, nl_i, nl_r, nl_l, nl_n, c116, c120, hb.1, hb.2, bI_0, Bool.true_eq_false, not_false_eq_true, not_true_eq_false, ↓reduceIte, hcal, nI_clamp, bnd, ly_7, Nat.reduceLT, true_and, and_true, e7, eq0, q']
      refine loop_dn (N := 12) (P := fun s => At 85 41 [some (.ref 0), some (.int (nI t)), some (.int x1), some (.int (nI (rkN (cc σ.1) (decide (x1 = nI 0)) t s))), some (.int (nI s))] [] I1 J1 Q) ?_ ?_
      · rw [k85_41]
        simp (disch := omega) only [k85_43, k85_45, k85_90, k85_91, k85_92, k85_93, nI_leI, Nat.le_refl, ↓reduceIte, nI_add]
        exact hQ
      · intro s hs ih
        have e0 : ¬ 12 ≤ s := by omega
        have hl := rkN_le (cc σ.1) (decide (x1 = nI 0)) t s
        have henc := enc_eq (slb_le4 (hnd (cc σ.1)) s) (slb_le4 (hnd (cc σ.1)) t)
        unfold rkN at ih
        rw [k85_41]
        simp (disch := omega) only [k85_43, k85_45, k85_48, k85_49, k85_52_5, k85_55, k85_57, k85_58, k85_59, k85_62_5, k85_65, k85_66, k85_67, Option.toList_some, Option.toList_none, List.cons_append, List.nil_append, nl_i, nl_r, nl_l, nl_n, nI_leI, e0, ↓reduceIte, nI_clamp, bnd, ly_11, Nat.reduceLT, true_and, and_true, e11 s hs, e11 t ht, henc]
        by_cases q1 : slb (hnd (cc σ.1)) s = slb (hnd (cc σ.1)) t
        · rw [if_neg (fun w => w q1)]
          simp (disch := omega) only [k85_70, k85_71, k85_73, k85_74, k85_75, Option.toList_some, Option.toList_none, List.cons_append, List.nil_append, nl_i, nl_r, nl_l, nl_n, q113 hM hS hs ht]
          by_cases q2 : ahd (cc σ.1) (decide (x1 = nI 0)) s t = true
          · rw [if_pos ⟨q1, q2⟩] at ih
            simp (disch := omega) only [k85_78, k85_81, k85_84, k85_87, q2, bI_0, Bool.true_eq_false, ↓reduceIte, Option.toList_some, Option.toList_none, List.cons_append, List.nil_append, nl_i, nl_r, nl_l, nl_n, nI_add]
            exact ih
          · rw [if_neg (fun w => q2 w.2)] at ih
            have q3 : ahd (cc σ.1) (decide (x1 = nI 0)) s t = false := by simpa using q2
            simp (disch := omega) only [k85_78, k85_84, k85_87, q3, bI_0, ↓reduceIte, Option.toList_some, Option.toList_none, List.cons_append, List.nil_append, nl_i, nl_r, nl_l, nl_n, nI_add]
            exact ih
        · rw [if_neg (fun w => q1 w.1)] at ih
          rw [if_pos q1]
          simp (disch := omega) only [k85_84, k85_87, Option.toList_some, Option.toList_none, List.cons_append, List.nil_append, nl_i, nl_r, nl_l, nl_n, nI_add]
          exact ih
  · refine ⟨I, J, ⟨hR, CF_refl⟩, fun Q => ?_⟩
    rw [en85, show aRank (cc σ.1) x x1 = _ from if_neg hb]
    cases q1 : inr x 12
    · simp only [k85_0, k85_1, k85_4, k85_7, k85_8, k85_11, k85_14, k85_16, k85_17, k85_18, k85_21, k85_22, k85_25_5, k85_25_17, k85_28, k85_29, k85_30, k85_33, k85_35, k85_36, k85_37, k85_38, k85_39, k85_43, k85_45, k85_48, k85_49, k85_52_5, k85_52_17, k85_55, k85_57, k85_58, k85_59, k85_62_5, k85_62_17, k85_65, k85_66, k85_67, k85_70, k85_71, k85_73, k85_74, k85_75, k85_78, k85_81, k85_84, k85_87, k85_90, k85_91, k85_92, k85_93, Option.toList_some, Option.toList_none, List.cons_append, List.nil_append, nl_i, nl_r, nl_l, nl_n, c116, c120, q1, bI_0, Bool.true_eq_false, not_true_eq_false, not_false_eq_true, ↓reduceIte]
    · cases q2 : inr x1 2
      · simp only [k85_0, k85_1, k85_4, k85_7, k85_8, k85_11, k85_14, k85_16, k85_17, k85_18, k85_21, k85_22, k85_25_5, k85_25_17, k85_28, k85_29, k85_30, k85_33, k85_35, k85_36, k85_37, k85_38, k85_39, k85_43, k85_45, k85_48, k85_49, k85_52_5, k85_52_17, k85_55, k85_57, k85_58, k85_59, k85_62_5, k85_62_17, k85_65, k85_66, k85_67, k85_70, k85_71, k85_73, k85_74, k85_75, k85_78, k85_81, k85_84, k85_87, k85_90, k85_91, k85_92, k85_93, Option.toList_some, Option.toList_none, List.cons_append, List.nil_append, nl_i, nl_r, nl_l, nl_n, c116, c120, q1, q2, bI_0, Bool.true_eq_false, not_true_eq_false, not_false_eq_true, ↓reduceIte]
      · exact absurd ⟨q1, q2⟩ hb
set_option maxRecDepth 100000 in
theorem r157 (hR : RR σ I) : ∃ I' J', (RR σ I' ∧ QF I J I' J') ∧ ∀ Q : Option Value → ab_I → ab_J → Prop, Cal 157 [.ref 49, .int x, .int x1] I J Q ↔ Q (some (.int (aRank (cc σ.1) x x1))) I' J' := by
  by_cases hb : inr x 12 = true ∧ inr x1 2 = true
  · obtain ⟨t, ht, rfl⟩ := inr_nI hb.1
    obtain ⟨I1, ⟨h1, h3⟩, hcal⟩ := st138 (J := J) hR
    have hM := cc_MK hR.1.1
    have e57 : ∀ s, s < 12 → I1 57 s = enc (slb (hnd (cc σ.1)) s) := fun s hs => by rw [h1.2.2.2 s (by omega), LB_s hs]
    have hshow : aRank (cc σ.1) (nI t) x1 = if slb (hnd (cc σ.1)) t = 4 then -3 else nI (1 + rkN (cc σ.1) (decide (x1 = nI 0)) t 12) := by
      rw [show aRank (cc σ.1) (nI t) x1 = _ from if_pos hb, tN_nI (by omega)]
    rw [hshow]
    by_cases q : slb (hnd (cc σ.1)) t = 4
    · refine ⟨I1, J, ⟨RL_RR h1, h3⟩, fun Q => ?_⟩
      rw [en157, if_pos q]
      simp (disch := omega) only [k157_0, k157_1, k157_4, k157_7, k157_8, k157_9, k157_10, k157_13, k157_16, k157_18, k157_19, k157_20, k157_23, k157_24, k157_27, k157_28, k157_29, k157_30, k157_31, k157_32, k157_35, k157_37, k157_38, k157_39, k157_40, k157_43, k157_44, k157_46, k157_47, k157_51, k157_53, k157_56, k157_57, k157_60, k157_62, k157_63, k157_64, k157_67, k157_68, k157_71, k157_72, k157_75, k157_77, k157_78, k157_79, k157_82, k157_83, k157_84, k157_85, k157_88, k157_89, k157_92, k157_93, k157_96, k157_97, k157_99, k157_102, k157_103, k157_104, k157_107, k157_108, k157_109, k157_110, k157_113, k157_114, k157_116, k157_119, k157_120, k157_123, k157_124, k157_127, k157_128, k157_130, k157_132, k157_134, k157_137, k157_138, k157_141, k157_142, k157_143, k157_145, k157_148, k157_151, k157_153, Option.toList_some, Option.toList_none, List.cons_append, List.nil_append, nl_i, nl_r, nl_l, nl_n, c131, c126, in01, hb.1, hb.2, bI_0, Bool.true_eq_false, not_false_eq_true, not_true_eq_false, ↓reduceIte, hcal, nI_clamp, bnd, ly_57, Nat.reduceLT, true_and, and_true, e57 t ht, q, enc_4]
    · obtain ⟨f1, f2⟩ := slb_fix (c := cc σ.1) ht q
      obtain ⟨a', J', K, ov, hz, wz, ⟨hW, hj⟩, hcal2⟩ := wk146 (J := J) h1.2 hM f1 f2
      obtain ⟨g1, g2⟩ := RL_58 (a' := a') h1 hj
      have em : ¬ nI (slb (hnd (cc σ.1)) t) = -1 := nI_m1 (by omega)
      refine ⟨_, J', ⟨RL_RR g1, QF_trans h3 g2⟩, fun Q => Cal_of (fun Q hQ => ?_)⟩
      rw [if_neg q] at hQ
      rw [en157]
      simp (disch := omega) only [k157_0, k157_1, k157_4, k157_7, k157_8, k157_9, k157_10, k157_13, k157_19, k157_20, k157_23, k157_24, k157_27, k157_28, k157_29, k157_30, k157_31, k157_32, k157_38, k157_39, k157_40, k157_43, k157_44, k157_46, k157_47, Option.toList_some, Option.toList_none, List.cons_append, List.nil_append, nl_i, nl_r, nl_l, nl_n, c131, c126, in01, hb.1, hb.2, bI_0, Bool.true_eq_false, not_false_eq_true, not_true_eq_false, ↓reduceIte, hcal, nI_clamp, bnd, ly_57, Nat.reduceLT, true_and, and_true, e57 t ht, enc_lt f1, em, hcal2]
      have key : ∀ a6 : Option Value, At 157 49 [some (.ref 49), some (.int (nI t)), some (.int x1), some (.int (nI (slb (hnd (cc σ.1)) t))), some (.int (nI (1 + rkN (cc σ.1) (decide (x1 = nI 0)) t 0))), some (.int (nI 0)), a6] [] (va_up I1 58 a') J' Q := by
        refine loop_dn (N := 12) (P := fun s => ∀ a6 : Option Value, At 157 49 [some (.ref 49), some (.int (nI t)), some (.int x1), some (.int (nI (slb (hnd (cc σ.1)) t))), some (.int (nI (1 + rkN (cc σ.1) (decide (x1 = nI 0)) t s))), some (.int (nI s)), a6] [] (va_up I1 58 a') J' Q) ?_ ?_
        · intro a6
          rw [k157_49]
          simp (disch := omega) only [k157_51, k157_53, k157_151, k157_153, nI_leI, Nat.le_refl, ↓reduceIte]
          exact hQ
        · intro s hs ih a6
          have e0 : ¬ 12 ≤ s := by omega
          have hl := rkN_le (cc σ.1) (decide (x1 = nI 0)) t s
          have e55 : va_up I1 58 a' 55 = cc σ.1 := by rw [up_ne _ _ (by omega)]; exact h1.2.1
          have e57' : va_up I1 58 a' 57 s = enc (slb (hnd (cc σ.1)) s) := by rw [up_ne _ _ (by omega)]; exact e57 s hs
          have henc : (enc (slb (hnd (cc σ.1)) s) = nI (slb (hnd (cc σ.1)) t)) = (slb (hnd (cc σ.1)) s = slb (hnd (cc σ.1)) t) := by rw [← enc_lt f1]; exact enc_eq (slb_le4 _ _) (by omega)
          unfold rkN at ih
          rw [k157_49]
          simp (disch := omega) only [k157_51, k157_53, k157_56, k157_57, k157_60, k157_62, k157_63, k157_64, Option.toList_some, Option.toList_none, List.cons_append, List.nil_append, nl_i, nl_r, nl_l, nl_n, nI_leI, e0, ↓reduceIte, nI_clamp, bnd, ly_57, Nat.reduceLT, true_and, and_true, e57', henc]
          by_cases q1 : slb (hnd (cc σ.1)) s = slb (hnd (cc σ.1)) t
          · rw [if_neg (fun w => w q1)]
            have fin : ∀ bb : Bool, bb = ahd (cc σ.1) (decide (x1 = nI 0)) s t → At 157 128 [some (.ref 49), some (.int (nI t)), some (.int x1), some (.int (nI (slb (hnd (cc σ.1)) t))), some (.int (nI (1 + rkN (cc σ.1) (decide (x1 = nI 0)) t s))), some (.int (nI s)), a6] [.int (bI bb)] (va_up I1 58 a') J' Q := by
              rintro bb hbb
              have ih := ih (some (.int (bI bb)))
              rw [← hbb] at ih
              cases bb with
              | false =>
                rw [if_neg (fun w => by cases w.2)] at ih
                simp (disch := omega) only [k157_128, k157_130, k157_132, k157_134, k157_141, k157_142, k157_143, k157_145, k157_148, Option.toList_some, Option.toList_none, List.cons_append, List.nil_append, nl_i, nl_r, nl_l, nl_n, bI_0, ↓reduceIte, nI_add, Nat.add_zero]
                exact ih
              | true =>
                rw [if_pos ⟨q1, rfl⟩] at ih
                simp (disch := omega) only [k157_128, k157_130, k157_132, k157_134, k157_137, k157_138, k157_142, k157_143, k157_145, k157_148, Option.toList_some, Option.toList_none, List.cons_append, List.nil_append, nl_i, nl_r, nl_l, nl_n, bI_0, Bool.true_eq_false, ↓reduceIte, nI_add]
                exact ih
            by_cases h0 : x1 = nI 0
            · subst h0
              obtain ⟨e5, e6⟩ := hW.2.2.2.2.2.2 s hs q1
              obtain ⟨e7, e8⟩ := hW.2.2.2.2.2.2 t ht rfl
              have os : ok (wz s) := bd_ok (bd_K (wr_bd hM hs) e6 hW.1) (by decide)
              have ot : ok (wz t) := bd_ok (bd_K (wr_bd hM ht) e8 hW.1) (by decide)
              have elt : (wz s ≤ wz t) ↔ (wrC (cc σ.1) s ≤ wrC (cc σ.1) t) := by
                rw [e6, e8]
                exact ⟨fun w => Int.mul_le_mul_of_nonneg_left w (Int.le_of_lt hW.1), fun w => Int.le_of_mul_le_mul_left w hW.1⟩
              simp (disch := omega) only [k157_67, k157_68, k157_71, k157_72, k157_75, k157_77, k157_78, k157_79, k157_82, k157_83, k157_84, k157_85, Option.toList_some, Option.toList_none, List.cons_append, List.nil_append, nl_i, nl_r, nl_l, nl_n, n00', not_true_eq_false, ↓reduceIte, nI_clamp, bnd, ly_63, Nat.reduceLT, true_and, and_true, e5, e7, lg_cmp_le, zL_le os ot]
              by_cases q2 : wz s ≤ wz t
              · rw [if_pos q2]
                have := fin false (by unfold ahd; rw [decide_eq_true rfl, if_pos rfl]; exact (decide_eq_false (by have := elt.mp q2; omega)).symm)
                simp (disch := omega) only [k157_92, k157_93, Option.toList_some, Option.toList_none, List.cons_append, List.nil_append, nl_i, nl_r, nl_l, nl_n]
                exact this
              · rw [if_neg q2]
                have := fin true (by unfold ahd; rw [decide_eq_true rfl, if_pos rfl]; exact (decide_eq_true (by have := mt elt.mpr q2; omega)).symm)
                simp (disch := omega) only [k157_88, k157_89, Option.toList_some, Option.toList_none, List.cons_append, List.nil_append, nl_i, nl_r, nl_l, nl_n]
                exact this
            · have h0' : (x1 = 0) = False := eq_false h0
              have b1 := smN_le hM hs
              have b2 := smN_le hM ht
              have p1 := pop_le (hnd (cc σ.1) s)
              have p2 := pop_le (hnd (cc σ.1) t)
              have m1 : smN (cc σ.1) s * pop (hnd (cc σ.1) t) ≤ 400 * 4 := Nat.mul_le_mul b1 p2
              have m2 : smN (cc σ.1) t * pop (hnd (cc σ.1) s) ≤ 400 * 4 := Nat.mul_le_mul b2 p1
              simp (disch := omega) only [k157_67, k157_68, k157_96, k157_97, k157_99, k157_102, k157_103, k157_104, k157_107, k157_108, k157_109, k157_110, k157_113, k157_114, k157_116, k157_119, k157_120, Option.toList_some, Option.toList_none, List.cons_append, List.nil_append, nl_i, nl_r, nl_l, nl_n, h0', not_false_eq_true, ↓reduceIte, c147 hs, c147 ht, c143 hs, c143 ht, e55, suF_z hM hs, suF_z hM ht, msF_pop, pk_mul, nI_leI]
              by_cases q2 : smN (cc σ.1) s * pop (hnd (cc σ.1) t) ≤ smN (cc σ.1) t * pop (hnd (cc σ.1) s)
              · rw [if_pos q2]
                have := fin false (by unfold ahd; rw [decide_eq_false h0, if_neg (by simp)]; exact (decide_eq_false (by omega)).symm)
                simp (disch := omega) only [k157_127, Option.toList_some, Option.toList_none, List.cons_append, List.nil_append, nl_i, nl_r, nl_l, nl_n]
                exact this
              · rw [if_neg q2]
                have := fin true (by unfold ahd; rw [decide_eq_false h0, if_neg (by simp)]; exact (decide_eq_true (by omega)).symm)
                simp (disch := omega) only [k157_123, k157_124, Option.toList_some, Option.toList_none, List.cons_append, List.nil_append, nl_i, nl_r, nl_l, nl_n]
                exact this
          · have ih := ih a6
            rw [if_neg (fun w => q1 w.1)] at ih
            rw [if_pos q1]
            simp (disch := omega) only [k157_145, k157_148, Option.toList_some, Option.toList_none, List.cons_append, List.nil_append, nl_i, nl_r, nl_l, nl_n, nI_add]
            exact ih
      exact key _
  · refine ⟨I, J, ⟨hR, QF_refl⟩, fun Q => ?_⟩
    rw [en157, show aRank (cc σ.1) x x1 = _ from if_neg hb]
    cases q1 : inr x 12
    · simp only [k157_0, k157_1, k157_4, k157_7, k157_8, k157_9, k157_10, k157_13, k157_16, k157_18, k157_19, k157_20, k157_23, k157_24, k157_27, k157_28, k157_29, k157_30, k157_31, k157_32, k157_35, k157_37, k157_38, k157_39, k157_40, k157_43, k157_44, k157_46, k157_47, k157_51, k157_53, k157_56, k157_57, k157_60, k157_62, k157_63, k157_64, k157_67, k157_68, k157_71, k157_72, k157_75, k157_77, k157_78, k157_79, k157_82, k157_83, k157_84, k157_85, k157_88, k157_89, k157_92, k157_93, k157_96, k157_97, k157_99, k157_102, k157_103, k157_104, k157_107, k157_108, k157_109, k157_110, k157_113, k157_114, k157_116, k157_119, k157_120, k157_123, k157_124, k157_127, k157_128, k157_130, k157_132, k157_134, k157_137, k157_138, k157_141, k157_142, k157_143, k157_145, k157_148, k157_151, k157_153, Option.toList_some, Option.toList_none, List.cons_append, List.nil_append, nl_i, nl_r, nl_l, nl_n, c131, c126, in01, q1, bI_0, Bool.true_eq_false, not_true_eq_false, not_false_eq_true, ↓reduceIte]
    · cases q2 : inr x1 2
      · simp only [k157_0, k157_1, k157_4, k157_7, k157_8, k157_9, k157_10, k157_13, k157_16, k157_18, k157_19, k157_20, k157_23, k157_24, k157_27, k157_28, k157_29, k157_30, k157_31, k157_32, k157_35, k157_37, k157_38, k157_39, k157_40, k157_43, k157_44, k157_46, k157_47, k157_51, k157_53, k157_56, k157_57, k157_60, k157_62, k157_63, k157_64, k157_67, k157_68, k157_71, k157_72, k157_75, k157_77, k157_78, k157_79, k157_82, k157_83, k157_84, k157_85, k157_88, k157_89, k157_92, k157_93, k157_96, k157_97, k157_99, k157_102, k157_103, k157_104, k157_107, k157_108, k157_109, k157_110, k157_113, k157_114, k157_116, k157_119, k157_120, k157_123, k157_124, k157_127, k157_128, k157_130, k157_132, k157_134, k157_137, k157_138, k157_141, k157_142, k157_143, k157_145, k157_148, k157_151, k157_153, Option.toList_some, Option.toList_none, List.cons_append, List.nil_append, nl_i, nl_r, nl_l, nl_n, c131, c126, in01, q1, q2, bI_0, Bool.true_eq_false, not_true_eq_false, not_false_eq_true, ↓reduceIte]
      · exact absurd ⟨q1, q2⟩ hb
end GCALL
