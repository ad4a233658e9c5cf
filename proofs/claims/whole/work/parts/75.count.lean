/-! CALLS: bridge, count -/
def aBridge (c : Nat → Int32) (x x1 : Int32) : Int32 := if inr x 12 = true ∧ inr x1 4 = true then (if c (4 * tN x + tN x1) = -1 then -3 else bI (isBr c (4 * tN x + tN x1))) else -2
def bmN (h : Nat → Nat) : Nat → Nat
  | 0 => 0
  | m + 1 => if ¬ lb h m = m then bmN h m else bmN h m + 1
theorem bmN_le (h : Nat → Nat) : ∀ m, bmN h m ≤ m
  | 0 => Nat.le_refl _
  | m + 1 => by have := bmN_le h m; unfold bmN; split <;> omega
def aCount (σ : PS) (x : Int32) : Int32 := if x = nI 0 then nI (mkA (hnd (cc σ.1)) 12) else if x = nI 1 then nI σ.1.1 else if x = nI 2 then σ.1.2.2.2.2 else if x = nI 3 then la σ.1 else if x = nI 4 then nI (bmN (hnd (cc σ.1)) 4) else if x = nI 5 then nI σ.2.2.1.1 else if x = nI 6 then nI (brN (cc σ.1) (isBr (cc σ.1)) 48) else if x = nI 7 then nI (mkS (hnd (cc σ.1)) 12) else if x = nI 8 then σ.2.2.2.2 else -2
theorem brN_cg {c : Nat → Int32} {g g' : Nat → Bool} : ∀ k, (∀ j, j < k → g j = g' j) → brN c g k = brN c g' k
  | 0, _ => rfl
  | k + 1, h => by unfold brN; rw [brN_cg k (fun j hj => h j (by omega)), h k (by omega)]
theorem bdN_e {b : Nat → Int32} {h : Nat → Nat} : ∀ n, n ≤ 4 → (∀ m, m < n → b m = enc (lb h m)) → bdN b n = bmN h n
  | 0, _, _ => rfl
  | n + 1, hn, hb => by
    unfold bdN bmN
    have e : (b n = nI n) = (lb h n = n) := by rw [hb n (by omega), ← enc_lt (show n < 4 by omega)]; exact enc_eq (lb_le4 _ _) (by omega)
    rw [bdN_e n (by omega) (fun m hm => hb m (by omega))]
    by_cases q : lb h n = n
    · rw [if_neg (fun w => w (e.mpr q)), if_neg (fun w => w q)]
    · rw [if_pos (fun w => q (e.mp w)), if_pos q]
def cnN (c : Nat → Int32) : Nat → Nat
  | 0 => 0
  | k + 1 => cnN c k + (if c k = -1 then 0 else 1)
theorem cnN_le (c : Nat → Int32) : ∀ k, cnN c k ≤ k
  | 0 => Nat.le_refl _
  | k + 1 => by have := cnN_le c k; unfold cnN; split <;> omega
def bsN (c : Nat → Int32) : Nat → Nat
  | 0 => 0
  | k + 1 => if c k = -1 then bsN c k else bsN c k ||| 2 ^ (k / 4)
theorem ms4 (c : Nat → Int32) (s : Nat) : pop (hnd c s) = (if c (4 * s + 0) = -1 then 0 else 1) + (if c (4 * s + 1) = -1 then 0 else 1) + (if c (4 * s + 2) = -1 then 0 else 1) + (if c (4 * s + 3) = -1 then 0 else 1) := by
  rw [← msF_pop]
  by_cases q0 : c (4 * s + 0) = -1 <;> by_cases q1 : c (4 * s + 1) = -1 <;> by_cases q2 : c (4 * s + 2) = -1 <;> by_cases q3 : c (4 * s + 3) = -1 <;> simp [msF, q0, q1, q2, q3] <;> simp_all
theorem mkA_cn (c : Nat → Int32) : ∀ s, mkA (hnd c) s = cnN c (4 * s)
  | 0 => rfl
  | s + 1 => by
    show mkA (hnd c) s + pop (hnd c s) = cnN c (4 * s + 4)
    rw [mkA_cn c s, ms4]
    show _ = cnN c (4 * s) + (if c (4 * s + 0) = -1 then 0 else 1) + _ + _ + _
    omega
theorem mkS_bs (c : Nat → Int32) : ∀ s, mkS (hnd c) s = bsN c (4 * s)
  | 0 => rfl
  | s + 1 => by
    have h0 := pop_0 (hnd c s) (hnd_lt c s)
    rw [ms4] at h0
    show (if hnd c s = 0 then mkS (hnd c) s else mkS (hnd c) s ||| 2 ^ s) = bsN c (4 * s + 4)
    rw [mkS_bs c s]
    show _ = if c (4 * s + 3) = -1 then (if c (4 * s + 2) = -1 then (if c (4 * s + 1) = -1 then (if c (4 * s + 0) = -1 then bsN c (4 * s) else bsN c (4 * s) ||| 2 ^ ((4 * s) / 4)) else (if c (4 * s + 0) = -1 then bsN c (4 * s) else bsN c (4 * s) ||| 2 ^ ((4 * s) / 4)) ||| 2 ^ ((4 * s + 1) / 4)) else (if c (4 * s + 1) = -1 then (if c (4 * s + 0) = -1 then bsN c (4 * s) else bsN c (4 * s) ||| 2 ^ ((4 * s) / 4)) else (if c (4 * s + 0) = -1 then bsN c (4 * s) else bsN c (4 * s) ||| 2 ^ ((4 * s) / 4)) ||| 2 ^ ((4 * s + 1) / 4)) ||| 2 ^ ((4 * s + 2) / 4)) else (if c (4 * s + 2) = -1 then (if c (4 * s + 1) = -1 then (if c (4 * s + 0) = -1 then bsN c (4 * s) else bsN c (4 * s) ||| 2 ^ ((4 * s) / 4)) else (if c (4 * s + 0) = -1 then bsN c (4 * s) else bsN c (4 * s) ||| 2 ^ ((4 * s) / 4)) ||| 2 ^ ((4 * s + 1) / 4)) else (if c (4 * s + 1) = -1 then (if c (4 * s + 0) = -1 then bsN c (4 * s) else bsN c (4 * s) ||| 2 ^ ((4 * s) / 4)) else (if c (4 * s + 0) = -1 then bsN c (4 * s) else bsN c (4 * s) ||| 2 ^ ((4 * s) / 4)) ||| 2 ^ ((4 * s + 1) / 4)) ||| 2 ^ ((4 * s + 2) / 4)) ||| 2 ^ ((4 * s + 3) / 4)
    rw [show (4 * s) / 4 = s by omega, show (4 * s + 1) / 4 = s by omega, show (4 * s + 2) / 4 = s by omega, show (4 * s + 3) / 4 = s by omega]
    by_cases q0 : c (4 * s + 0) = -1 <;> by_cases q1 : c (4 * s + 1) = -1 <;> by_cases q2 : c (4 * s + 2) = -1 <;> by_cases q3 : c (4 * s + 3) = -1 <;> simp only [q0, q1, q2, q3, ↓reduceIte, Nat.or_assoc, Nat.or_self] at h0 ⊢
    · rw [if_pos (h0.mp trivial)]
    all_goals rw [if_neg (fun w => absurd (h0.mpr w) (by decide))]
section COUNT
variable {I : ab_I} {J : ab_J} {Q : Option Value → ab_I → ab_J → Prop} {σ : PS} {x x1 x2 x3 x4 : Int32}
set_option maxRecDepth 100000 in
theorem q95 (hR : RC σ I J) : ∃ I' J', (RC σ I' J' ∧ CF I J I' J') ∧ ∀ Q : Option Value → ab_I → ab_J → Prop, Cal 95 [.ref 0, .int x, .int x1] I J Q ↔ Q (some (.int (aBridge (cc σ.1) x x1))) I' J' := by
  by_cases hb : inr x 12 = true ∧ inr x1 4 = true
  · obtain ⟨s, hs, rfl⟩ := inr_nI hb.1
    obtain ⟨m, hm, rfl⟩ := inr_nI hb.2
    obtain ⟨I1, J1, ⟨h1, hS, h3⟩, hcal⟩ := st110 hR
    have e6 : I1 6 = cc σ.1 := hS.2.1.1
    have hh : ∀ s, s < 12 → I1 7 s = nI (hnd (cc σ.1) s) ∧ hnd (cc σ.1) s < 16 := fun s hs => ⟨hS.2.1.2.1 s hs, hnd_lt _ s⟩
    have eb := br_eq (c := cc σ.1) (k := 4 * s + m) (by omega)
    rw [show (4 * s + m) / 4 = s by omega, show (4 * s + m) % 4 = m by omega] at eb
    refine ⟨I1, J1, ⟨h1, h3⟩, fun Q => ?_⟩
    rw [en95, show aBridge (cc σ.1) (nI s) (nI m) = _ from if_pos hb, tN_nI (by omega), tN_nI (by omega)]
    by_cases q : cc σ.1 (4 * s + m) = -1
    · rw [if_pos q]
      simp (disch := omega) only [k95_0, k95_1, k95_4, k95_7, k95_8, k95_11, k95_14, k95_16, k95_17, k95_18, k95_21, k95_22, k95_25_5, k95_25_17, k95_28, k95_29, k95_30, k95_31, k95_32, k95_33, k95_34, k95_35, k95_38, k95_40, k95_41, k95_42, k95_45, k95_46, k95_47_5, k95_47_17, k95_50, k95_53, k95_54, k95_57, k95_58, Option.toList_some, Option.toList_none, List.cons_append, List.nil_append, nl_i, nl_r, nl_l, nl_n, c116, c117, hb.1, hb.2, bI_0, Bool.true_eq_false, not_false_eq_true, not_true_eq_false, ↓reduceIte, hcal, pk_mul, nI_add, nI_clamp, bnd, ly_6, Nat.reduceLT, true_and, and_true, e6, q]
    · rw [if_neg q]
      simp (disch := omega) only [k95_0, k95_1, k95_4, k95_7, k95_8, k95_11, k95_14, k95_16, k95_17, k95_18, k95_21, k95_22, k95_25_5, k95_25_17, k95_28, k95_29, k95_30, k95_31, k95_32, k95_33, k95_34, k95_35, k95_38, k95_40, k95_41, k95_42, k95_45, k95_46, k95_47_5, k95_47_17, k95_50, k95_53, k95_54, k95_57, k95_58, Option.toList_some, Option.toList_none, List.cons_append, List.nil_append, nl_i, nl_r, nl_l, nl_n, c116, c117, hb.1, hb.2, bI_0, Bool.true_eq_false, not_false_eq_true, not_true_eq_false, ↓reduceIte, hcal, pk_mul, nI_add, nI_clamp, bnd, ly_6, Nat.reduceLT, true_and, and_true, e6, q, c35_5 hh hs hm, eb]
      cases isBr (cc σ.1) (4 * s + m) <;> simp [bI_t, bI_f]
  · refine ⟨I, J, ⟨hR, CF_refl⟩, fun Q => ?_⟩
    rw [en95, show aBridge (cc σ.1) x x1 = _ from if_neg hb]
    cases q1 : inr x 12
    · simp only [k95_0, k95_1, k95_4, k95_7, k95_8, k95_11, k95_14, k95_16, k95_17, k95_18, k95_21, k95_22, k95_25_5, k95_25_17, k95_28, k95_29, k95_30, k95_31, k95_32, k95_33, k95_34, k95_35, k95_38, k95_40, k95_41, k95_42, k95_45, k95_46, k95_47_5, k95_47_17, k95_50, k95_53, k95_54, k95_57, k95_58, Option.toList_some, Option.toList_none, List.cons_append, List.nil_append, nl_i, nl_r, nl_l, nl_n, c116, q1, bI_0, ↓reduceIte]
    · cases q2 : inr x1 4
      · simp only [k95_0, k95_1, k95_4, k95_7, k95_8, k95_11, k95_14, k95_16, k95_17, k95_18, k95_21, k95_22, k95_25_5, k95_25_17, k95_28, k95_29, k95_30, k95_31, k95_32, k95_33, k95_34, k95_35, k95_38, k95_40, k95_41, k95_42, k95_45, k95_46, k95_47_5, k95_47_17, k95_50, k95_53, k95_54, k95_57, k95_58, Option.toList_some, Option.toList_none, List.cons_append, List.nil_append, nl_i, nl_r, nl_l, nl_n, c116, c117, q1, q2, bI_0, Bool.true_eq_false, not_true_eq_false, ↓reduceIte]
      · exact absurd ⟨q1, q2⟩ hb
set_option maxRecDepth 100000 in
theorem r176 {k : Nat} (h : RLd σ I) (hk : k < 48) : ∃ I', (RLd σ I' ∧ QF I J I' J) ∧ ∀ Q : Option Value → ab_I → ab_J → Prop, Cal 176 [.ref 49, .int (nI k)] I J Q ↔ Q (some (.int (bI (isBr (cc σ.1) k)))) I' J := by
  have e55 : I 55 = cc σ.1 := h.2.1
  have n4 : ¬ nI 4 = 0 := by decide
  refine ⟨va_up (va_up I 55 (cc σ.1)) 57 (fll (fun j => enc (LB (hnd (cc σ.1)) j)) (fll (fun j => enc (LB (hnd (va_up (cc σ.1) k (-1))) j)) (I 57) 16) 16), ⟨⟨RRb_qf (J := J) (J' := J) h.1 ?_, ?_, ?_, fun j hj => ?_⟩, ?_⟩, fun Q => ?_⟩
  · exact ⟨fun k hk => by simp (disch := omega) only [up_ne], fun j _ => by simp (disch := omega) only [up_ne], fun _ _ => rfl⟩
  · simp (disch := omega) only [up_ne, va_up_s]
  · simp (disch := omega) only [up_ne]; exact h.2.2.1
  · rw [va_up_s]; exact fll_lt hj
  · exact ⟨fun k hk => by simp (disch := omega) only [up_ne], fun j _ => by simp (disch := omega) only [up_ne], fun _ _ => rfl⟩
  · have ca : ∀ Q : Option Value → ab_I → ab_J → Prop, Cal 139 [.ref 49] (va_up I 55 (va_up (cc σ.1) k (-1))) J Q ↔ Q none (va_up (va_up I 55 (va_up (cc σ.1) k (-1))) 57 (fll (fun j => enc (LB (hnd (va_up (cc σ.1) k (-1))) j)) (I 57) 16)) J := by
      intro Q
      have := c139 (I := va_up I 55 (va_up (cc σ.1) k (-1))) (J := J) (Q := Q) (c := va_up (cc σ.1) k (-1)) (va_up_s _ _ _)
      rw [up_ne _ _ (by omega)] at this
      exact this
    have cb : ∀ (f : Nat → Int32) (Q : Option Value → ab_I → ab_J → Prop), Cal 139 [.ref 49] (va_up (va_up I 55 (cc σ.1)) 57 f) J Q ↔ Q none (va_up (va_up I 55 (cc σ.1)) 57 (fll (fun j => enc (LB (hnd (cc σ.1)) j)) f 16)) J := by
      intro f Q
      have := c139 (I := va_up (va_up I 55 (cc σ.1)) 57 f) (J := J) (Q := Q) (c := cc σ.1) (by simp (disch := omega) only [up_ne, va_up_s])
      rw [va_up_s, up_same] at this
      exact this
    have eup : va_up (va_up (cc σ.1) k (-1)) k (cc σ.1 k) = cc σ.1 := by rw [up_same, up_id]
    have l1 : fll (fun j => enc (LB (hnd (va_up (cc σ.1) k (-1))) j)) (I 57) 16 (k / 4) = enc (slb (hnd (va_up (cc σ.1) k (-1))) (k / 4)) := by rw [fll_lt (by omega), LB_s (by omega)]
    have l2 : fll (fun j => enc (LB (hnd (va_up (cc σ.1) k (-1))) j)) (I 57) 16 (12 + k % 4) = enc (lb (hnd (va_up (cc σ.1) k (-1))) (k % 4)) := by rw [fll_lt (by omega), LB_m]
    have s4 := slb_le4 (hnd (va_up (cc σ.1) k (-1))) (k / 4)
    have m4 := lb_le4 (hnd (va_up (cc σ.1) k (-1))) (k % 4)
    rw [en176]
    unfold isBr
    simp (disch := omega) only [k176_0, k176_1, k176_4, k176_5, k176_6, k176_7, k176_8, k176_11, k176_12, k176_13, k176_14, k176_15, k176_18, k176_19, k176_22, k176_23, k176_24, k176_25, k176_26, k176_27, Option.toList_some, Option.toList_none, List.cons_append, List.nil_append, nl_i, nl_r, nl_l, nl_n, nI_clamp, bnd, ly_55, ly_57, Nat.reduceLT, true_and, and_true, e55, ca, n4, not_false_eq_true, div4, va_up_s, l1, enc_m1]
    by_cases q1 : slb (hnd (va_up (cc σ.1) k (-1))) (k / 4) = 4
    · rw [if_pos q1, decide_eq_true (Or.inl q1)]
      simp (disch := omega) only [k176_52, k176_53, k176_57, k176_58, k176_59, k176_62, k176_63, k176_64, k176_65, k176_66, k176_69, k176_70, Option.toList_some, Option.toList_none, List.cons_append, List.nil_append, nl_i, nl_r, nl_l, nl_n, nI_clamp, bnd, ly_55, Nat.reduceLT, true_and, and_true, up_ne, va_up_s, up_same, up_cm, id_eq, eup, cb, z10, bI_t]
    · rw [if_neg q1]
      simp (disch := omega) only [k176_30, k176_31, k176_34, k176_35, k176_36, k176_37, k176_38, k176_39, k176_42, k176_44, k176_45, k176_46, k176_47, k176_48, k176_49, Option.toList_some, Option.toList_none, List.cons_append, List.nil_append, nl_i, nl_r, nl_l, nl_n, nI_clamp, bnd, ly_57, Nat.reduceLT, true_and, and_true, n4, not_false_eq_true, div4, rem4b, nI_add, va_up_s, l1, l2, enc_eq]
      by_cases q2 : slb (hnd (va_up (cc σ.1) k (-1))) (k / 4) = lb (hnd (va_up (cc σ.1) k (-1))) (k % 4)
      · rw [if_pos q2, decide_eq_false (by rintro (w | w); exact q1 w; exact w q2)]
        simp (disch := omega) only [k176_56, k176_57, k176_58, k176_59, k176_62, k176_63, k176_64, k176_65, k176_66, k176_69, k176_70, Option.toList_some, Option.toList_none, List.cons_append, List.nil_append, nl_i, nl_r, nl_l, nl_n, nI_clamp, bnd, ly_55, Nat.reduceLT, true_and, and_true, up_ne, va_up_s, up_same, up_cm, id_eq, eup, cb, z00, bI_f]
      · rw [if_neg q2, decide_eq_true (Or.inr q2)]
        simp (disch := omega) only [k176_52, k176_53, k176_57, k176_58, k176_59, k176_62, k176_63, k176_64, k176_65, k176_66, k176_69, k176_70, Option.toList_some, Option.toList_none, List.cons_append, List.nil_append, nl_i, nl_r, nl_l, nl_n, nI_clamp, bnd, ly_55, Nat.reduceLT, true_and, and_true, up_ne, va_up_s, up_same, up_cm, id_eq, eup, cb, z10, bI_t]
set_option maxRecDepth 100000 in
theorem r177 (hR : RR σ I) : ∃ I' J', (RR σ I' ∧ QF I J I' J') ∧ ∀ Q : Option Value → ab_I → ab_J → Prop, Cal 177 [.ref 49, .int x, .int x1] I J Q ↔ Q (some (.int (aBridge (cc σ.1) x x1))) I' J' := by
  by_cases hb : inr x 12 = true ∧ inr x1 4 = true
  · obtain ⟨s, hs, rfl⟩ := inr_nI hb.1
    obtain ⟨m, hm, rfl⟩ := inr_nI hb.2
    obtain ⟨I1, ⟨h1, h3⟩, hcal⟩ := st138 (J := J) hR
    have e55 : I1 55 = cc σ.1 := h1.2.1
    have hshow : aBridge (cc σ.1) (nI s) (nI m) = if cc σ.1 (4 * s + m) = -1 then -3 else bI (isBr (cc σ.1) (4 * s + m)) := by rw [show aBridge (cc σ.1) (nI s) (nI m) = _ from if_pos hb, tN_nI (by omega), tN_nI (by omega)]
    rw [hshow]
    by_cases q : cc σ.1 (4 * s + m) = -1
    · refine ⟨I1, J, ⟨RL_RR h1, h3⟩, fun Q => ?_⟩
      rw [if_pos q, en177]
      simp (disch := omega) only [k177_0, k177_1, k177_4, k177_7, k177_8, k177_11, k177_14, k177_16, k177_17, k177_18, k177_21, k177_22, k177_23, k177_24, k177_27, k177_28, k177_31, k177_33, k177_36, k177_37, k177_38, k177_39, k177_40, k177_41, k177_42, k177_45, k177_48, k177_49, k177_52, k177_53, Option.toList_some, Option.toList_none, List.cons_append, List.nil_append, nl_i, nl_r, nl_l, nl_n, c131, c132, hb.1, hb.2, bI_0, Bool.true_eq_false, not_false_eq_true, not_true_eq_false, ↓reduceIte, hcal, c140 hs hm, e55, q]
    · obtain ⟨I2, ⟨g1, g2⟩, hcal2⟩ := r176 (J := J) (k := 4 * s + m) h1 (by omega)
      refine ⟨I2, J, ⟨RL_RR g1, QF_trans h3 g2⟩, fun Q => ?_⟩
      rw [if_neg q, en177]
      simp (disch := omega) only [k177_0, k177_1, k177_4, k177_7, k177_8, k177_11, k177_14, k177_16, k177_17, k177_18, k177_21, k177_22, k177_23, k177_24, k177_27, k177_28, k177_31, k177_33, k177_36, k177_37, k177_38, k177_39, k177_40, k177_41, k177_42, k177_45, k177_48, k177_49, k177_52, k177_53, Option.toList_some, Option.toList_none, List.cons_append, List.nil_append, nl_i, nl_r, nl_l, nl_n, c131, c132, hb.1, hb.2, bI_0, Bool.true_eq_false, not_false_eq_true, not_true_eq_false, ↓reduceIte, hcal, c140 hs hm, e55, q, pk_mul, nI_add, hcal2]
      cases isBr (cc σ.1) (4 * s + m) <;> simp [bI_t, bI_f]
  · refine ⟨I, J, ⟨hR, QF_refl⟩, fun Q => ?_⟩
    rw [en177, show aBridge (cc σ.1) x x1 = _ from if_neg hb]
    cases q1 : inr x 12
    · simp only [k177_0, k177_1, k177_4, k177_7, k177_8, k177_11, k177_14, k177_16, k177_17, k177_18, k177_21, k177_22, k177_23, k177_24, k177_27, k177_28, k177_31, k177_33, k177_36, k177_37, k177_38, k177_39, k177_40, k177_41, k177_42, k177_45, k177_48, k177_49, k177_52, k177_53, Option.toList_some, Option.toList_none, List.cons_append, List.nil_append, nl_i, nl_r, nl_l, nl_n, c131, q1, bI_0, ↓reduceIte]
    · cases q2 : inr x1 4
      · simp only [k177_0, k177_1, k177_4, k177_7, k177_8, k177_11, k177_14, k177_16, k177_17, k177_18, k177_21, k177_22, k177_23, k177_24, k177_27, k177_28, k177_31, k177_33, k177_36, k177_37, k177_38, k177_39, k177_40, k177_41, k177_42, k177_45, k177_48, k177_49, k177_52, k177_53, Option.toList_some, Option.toList_none, List.cons_append, List.nil_append, nl_i, nl_r, nl_l, nl_n, c131, c132, q1, q2, bI_0, Bool.true_eq_false, not_true_eq_false, ↓reduceIte]
      · exact absurd ⟨q1, q2⟩ hb
set_option maxRecDepth 100000 in
theorem q108 (hR : RC σ I J) : ∃ I' J', (RC σ I' J' ∧ CF I J I' J') ∧ ∀ Q : Option Value → ab_I → ab_J → Prop, Cal 108 [.ref 0, .int x] I J Q ↔ Q (some (.int (aCount σ x))) I' J' := by
  obtain ⟨I1, J1, ⟨h1, hS, h3⟩, hcal⟩ := st110 hR
  have hh : ∀ s, s < 12 → I1 7 s = nI (hnd (cc σ.1) s) ∧ hnd (cc σ.1) s < 16 := fun s hs => ⟨hS.2.1.2.1 s hs, hnd_lt _ s⟩
  have e6 : I1 6 = cc σ.1 := hS.2.1.1
  have e10 : bdN (I1 10) 4 = bmN (hnd (cc σ.1)) 4 := bdN_e 4 (Nat.le_refl _) hS.2.1.2.2.2.2.1
  have eb := brN_cg (c := cc σ.1) (g := fun k => decide ((brR (hnd (cc σ.1)) (k / 4) (cut (hnd (cc σ.1) (k / 4)) (k % 4)) 4).testBit (k % 4) = false)) (g' := isBr (cc σ.1)) 48 (fun j hj => br_eq hj)
  obtain ⟨t1, t2, t3, t4⟩ := h1.1.2.1
  have e39 : I1 39 3 = _ := h1.1.2.2.2.1.2.2.1
  have e11 := h1.1.2.2.2.2.2
  refine ⟨I1, J1, ⟨h1, h3⟩, fun Q => ?_⟩
  rw [en108]
  by_cases hb : inr x 9 = true
  · obtain ⟨k, hk, rfl⟩ := inr_nI hb
    have : k = 0 ∨ k = 1 ∨ k = 2 ∨ k = 3 ∨ k = 4 ∨ k = 5 ∨ k = 6 ∨ k = 7 ∨ k = 8 := by omega
    rcases this with r | r | r | r | r | r | r | r | r <;> subst r
    · rw [show aCount σ (nI 0) = nI (mkA (hnd (cc σ.1)) 12) from rfl]
      simp (disch := omega) only [k108_0, k108_1, k108_4, k108_56, k108_57, k108_60_5, k108_60_17, k108_63, k108_64, k108_65, k108_68, k108_71, k108_72, k108_73, k108_76, k108_79, k108_80, k108_81, k108_84, k108_87, k108_88, k108_89, k108_92_5, k108_92_17, k108_95, k108_96, k108_97, k108_100, k108_103, k108_104, k108_105, k108_108_5, k108_108_17, k108_111, k108_112, k108_113, k108_116_5, k108_116_17, k108_119, k108_120, k108_121, k108_124, k108_125, k108_127, k108_5_0, Option.toList_some, Option.toList_none, List.cons_append, List.nil_append, nl_i, nl_r, nl_l, nl_n, hcal, c39_5 hh]
    · rw [show aCount σ (nI 1) = nI σ.1.1 from rfl]
      simp (disch := omega) only [k108_0, k108_1, k108_4, k108_56, k108_57, k108_60_5, k108_60_17, k108_63, k108_64, k108_65, k108_68, k108_71, k108_72, k108_73, k108_76, k108_79, k108_80, k108_81, k108_84, k108_87, k108_88, k108_89, k108_92_5, k108_92_17, k108_95, k108_96, k108_97, k108_100, k108_103, k108_104, k108_105, k108_108_5, k108_108_17, k108_111, k108_112, k108_113, k108_116_5, k108_116_17, k108_119, k108_120, k108_121, k108_124, k108_125, k108_127, k108_5_1, Option.toList_some, Option.toList_none, List.cons_append, List.nil_append, nl_i, nl_r, nl_l, nl_n, hcal, t1]
    · rw [show aCount σ (nI 2) = σ.1.2.2.2.2 from rfl]
      simp (disch := omega) only [k108_0, k108_1, k108_4, k108_56, k108_57, k108_60_5, k108_60_17, k108_63, k108_64, k108_65, k108_68, k108_71, k108_72, k108_73, k108_76, k108_79, k108_80, k108_81, k108_84, k108_87, k108_88, k108_89, k108_92_5, k108_92_17, k108_95, k108_96, k108_97, k108_100, k108_103, k108_104, k108_105, k108_108_5, k108_108_17, k108_111, k108_112, k108_113, k108_116_5, k108_116_17, k108_119, k108_120, k108_121, k108_124, k108_125, k108_127, k108_5_2, Option.toList_some, Option.toList_none, List.cons_append, List.nil_append, nl_i, nl_r, nl_l, nl_n, hcal, t4]
    · rw [show aCount σ (nI 3) = la σ.1 from rfl]
      simp (disch := omega) only [k108_0, k108_1, k108_4, k108_56, k108_57, k108_60_5, k108_60_17, k108_63, k108_64, k108_65, k108_68, k108_71, k108_72, k108_73, k108_76, k108_79, k108_80, k108_81, k108_84, k108_87, k108_88, k108_89, k108_92_5, k108_92_17, k108_95, k108_96, k108_97, k108_100, k108_103, k108_104, k108_105, k108_108_5, k108_108_17, k108_111, k108_112, k108_113, k108_116_5, k108_116_17, k108_119, k108_120, k108_121, k108_124, k108_125, k108_127, k108_5_3, Option.toList_some, Option.toList_none, List.cons_append, List.nil_append, nl_i, nl_r, nl_l, nl_n, hcal, t3]
    · rw [show aCount σ (nI 4) = nI (bmN (hnd (cc σ.1)) 4) from rfl]
      simp (disch := omega) only [k108_0, k108_1, k108_4, k108_56, k108_57, k108_60_5, k108_60_17, k108_63, k108_64, k108_65, k108_68, k108_71, k108_72, k108_73, k108_76, k108_79, k108_80, k108_81, k108_84, k108_87, k108_88, k108_89, k108_92_5, k108_92_17, k108_95, k108_96, k108_97, k108_100, k108_103, k108_104, k108_105, k108_108_5, k108_108_17, k108_111, k108_112, k108_113, k108_116_5, k108_116_17, k108_119, k108_120, k108_121, k108_124, k108_125, k108_127, k108_5_4, Option.toList_some, Option.toList_none, List.cons_append, List.nil_append, nl_i, nl_r, nl_l, nl_n, hcal, c37_5, e10]
    · rw [show aCount σ (nI 5) = nI σ.2.2.1.1 from rfl]
      simp (disch := omega) only [k108_0, k108_1, k108_4, k108_56, k108_57, k108_60_5, k108_60_17, k108_63, k108_64, k108_65, k108_68, k108_71, k108_72, k108_73, k108_76, k108_79, k108_80, k108_81, k108_84, k108_87, k108_88, k108_89, k108_92_5, k108_92_17, k108_95, k108_96, k108_97, k108_100, k108_103, k108_104, k108_105, k108_108_5, k108_108_17, k108_111, k108_112, k108_113, k108_116_5, k108_116_17, k108_119, k108_120, k108_121, k108_124, k108_125, k108_127, k108_5_5, Option.toList_some, Option.toList_none, List.cons_append, List.nil_append, nl_i, nl_r, nl_l, nl_n, hcal, e39]
    · rw [show aCount σ (nI 6) = nI (brN (cc σ.1) (isBr (cc σ.1)) 48) from rfl]
      simp (disch := omega) only [k108_0, k108_1, k108_4, k108_56, k108_57, k108_60_5, k108_60_17, k108_63, k108_64, k108_65, k108_68, k108_71, k108_72, k108_73, k108_76, k108_79, k108_80, k108_81, k108_84, k108_87, k108_88, k108_89, k108_92_5, k108_92_17, k108_95, k108_96, k108_97, k108_100, k108_103, k108_104, k108_105, k108_108_5, k108_108_17, k108_111, k108_112, k108_113, k108_116_5, k108_116_17, k108_119, k108_120, k108_121, k108_124, k108_125, k108_127, k108_5_6, Option.toList_some, Option.toList_none, List.cons_append, List.nil_append, nl_i, nl_r, nl_l, nl_n, hcal, c36_5 e6 hh, eb]
    · rw [show aCount σ (nI 7) = nI (mkS (hnd (cc σ.1)) 12) from rfl]
      simp (disch := omega) only [k108_0, k108_1, k108_4, k108_56, k108_57, k108_60_5, k108_60_17, k108_63, k108_64, k108_65, k108_68, k108_71, k108_72, k108_73, k108_76, k108_79, k108_80, k108_81, k108_84, k108_87, k108_88, k108_89, k108_92_5, k108_92_17, k108_95, k108_96, k108_97, k108_100, k108_103, k108_104, k108_105, k108_108_5, k108_108_17, k108_111, k108_112, k108_113, k108_116_5, k108_116_17, k108_119, k108_120, k108_121, k108_124, k108_125, k108_127, k108_5_7, Option.toList_some, Option.toList_none, List.cons_append, List.nil_append, nl_i, nl_r, nl_l, nl_n, hcal, c40_5 hh]
    · rw [show aCount σ (nI 8) = σ.2.2.2.2 from rfl]
      simp (disch := omega) only [k108_0, k108_1, k108_4, k108_56, k108_57, k108_60_5, k108_60_17, k108_63, k108_64, k108_65, k108_68, k108_71, k108_72, k108_73, k108_76, k108_79, k108_80, k108_81, k108_84, k108_87, k108_88, k108_89, k108_92_5, k108_92_17, k108_95, k108_96, k108_97, k108_100, k108_103, k108_104, k108_105, k108_108_5, k108_108_17, k108_111, k108_112, k108_113, k108_116_5, k108_116_17, k108_119, k108_120, k108_121, k108_124, k108_125, k108_127, k108_5_8, Option.toList_some, Option.toList_none, List.cons_append, List.nil_append, nl_i, nl_r, nl_l, nl_n, hcal, e11]
  · have hb' : inr x 9 = false := by simpa using hb
    have hn : ∀ k, k < 9 → ¬ x = nI k := fun k hk w => hb (by rw [w]; exact inr_of hk (by decide))
    rw [show aCount σ x = -2 by unfold aCount; rw [if_neg (hn 0 (by omega)), if_neg (hn 1 (by omega)), if_neg (hn 2 (by omega)), if_neg (hn 3 (by omega)), if_neg (hn 4 (by omega)), if_neg (hn 5 (by omega)), if_neg (hn 6 (by omega)), if_neg (hn 7 (by omega)), if_neg (hn 8 (by omega))]]
    simp (disch := omega) only [k108_0, k108_1, k108_4, k108_56, k108_57, k108_60_5, k108_60_17, k108_63, k108_64, k108_65, k108_68, k108_71, k108_72, k108_73, k108_76, k108_79, k108_80, k108_81, k108_84, k108_87, k108_88, k108_89, k108_92_5, k108_92_17, k108_95, k108_96, k108_97, k108_100, k108_103, k108_104, k108_105, k108_108_5, k108_108_17, k108_111, k108_112, k108_113, k108_116_5, k108_116_17, k108_119, k108_120, k108_121, k108_124, k108_125, k108_127, k108_5_d hb', Option.toList_some, Option.toList_none, List.cons_append, List.nil_append, nl_i, nl_r, nl_l, nl_n, hcal]
set_option maxRecDepth 100000 in
theorem r198_0 {c o : Nat → Int32} (hL : Laid c o I) : Cal 198 [.ref 49, .int (nI 0)] I J Q ↔ Q (some (.int (nI (mkA (hnd c) 12)))) I J := by
  have e55 : I 55 = c := hL.1
  rw [mkA_cn c 12]
  refine Cal_of (fun Q hQ => ?_)
  rw [en198]
  simp (disch := omega) only [k198_0, k198_1, k198_2, k198_3, Option.toList_some, Option.toList_none, List.cons_append, List.nil_append, nl_i, nl_r, nl_l, nl_n]
  have key : ∀ a4 : Option Value, At 198 4 [some (.ref 49), some (.int (nI 0)), some (.int (nI (cnN c 0))), some (.int (nI 0)), a4] [] I J Q := by
    refine loop_dn (N := 48) (P := fun k => ∀ a4 : Option Value, At 198 4 [some (.ref 49), some (.int (nI 0)), some (.int (nI (cnN c k))), some (.int (nI k)), a4] [] I J Q) ?_ ?_
    · intro a4
      rw [k198_4]
      simp (disch := omega) only [k198_5, k198_7, k198_98, k198_99, nI_leI, Nat.le_refl, ↓reduceIte]
      exact hQ
    · intro k hk ih a4
      have e0 : ¬ 48 ≤ k := by omega
      unfold cnN at ih
      rw [k198_4]
      simp (disch := omega) only [k198_5, k198_7, k198_10, k198_11, k198_14, k198_15, k198_16, k198_17, Option.toList_some, Option.toList_none, List.cons_append, List.nil_append, nl_i, nl_r, nl_l, nl_n, nI_leI, e0, ↓reduceIte, nI_clamp, bnd, ly_55, Nat.reduceLT, true_and, and_true, e55]
      by_cases q : c k = -1
      · rw [if_pos q] at ih
        rw [if_pos q]
        simp (disch := omega) only [k198_24, k198_25, k198_27, k198_28, k198_31, k198_32, k198_34, k198_41, k198_42, k198_43, k198_91, k198_92, k198_95, Option.toList_some, Option.toList_none, List.cons_append, List.nil_append, nl_i, nl_r, nl_l, nl_n, n00', not_true_eq_false, ↓reduceIte, nI_add]
        exact ih _
      · rw [if_neg q] at ih
        rw [if_neg q]
        simp (disch := omega) only [k198_20, k198_21, k198_25, k198_27, k198_28, k198_31, k198_32, k198_34, k198_37, k198_38, k198_42, k198_43, k198_91, k198_92, k198_95, Option.toList_some, Option.toList_none, List.cons_append, List.nil_append, nl_i, nl_r, nl_l, nl_n, n00', n10', not_true_eq_false, ↓reduceIte, nI_add]
        exact ih _
  exact key _
theorem n7a : ¬ nI 7 = 0 := by decide
theorem n7b : ¬ nI 7 = nI 6 := by decide
theorem n6a : ¬ nI 6 = 0 := by decide
set_option maxRecDepth 100000 in
theorem r198_7 {c o : Nat → Int32} (hL : Laid c o I) : Cal 198 [.ref 49, .int (nI 7)] I J Q ↔ Q (some (.int (nI (mkS (hnd c) 12)))) I J := by
  have e55 : I 55 = c := hL.1
  have n4 : ¬ nI 4 = 0 := by decide
  rw [mkS_bs c 12]
  refine Cal_of (fun Q hQ => ?_)
  rw [en198]
  simp (disch := omega) only [k198_0, k198_1, k198_2, k198_3, Option.toList_some, Option.toList_none, List.cons_append, List.nil_append, nl_i, nl_r, nl_l, nl_n]
  have key : ∀ a4 : Option Value, At 198 4 [some (.ref 49), some (.int (nI 7)), some (.int (nI (bsN c 0))), some (.int (nI 0)), a4] [] I J Q := by
    refine loop_dn (N := 48) (P := fun k => ∀ a4 : Option Value, At 198 4 [some (.ref 49), some (.int (nI 7)), some (.int (nI (bsN c k))), some (.int (nI k)), a4] [] I J Q) ?_ ?_
    · intro a4
      rw [k198_4]
      simp (disch := omega) only [k198_5, k198_7, k198_98, k198_99, nI_leI, Nat.le_refl, ↓reduceIte]
      exact hQ
    · intro k hk ih a4
      have e0 : ¬ 48 ≤ k := by omega
      unfold bsN at ih
      rw [k198_4]
      simp (disch := omega) only [k198_5, k198_7, k198_10, k198_11, k198_14, k198_15, k198_16, k198_17, Option.toList_some, Option.toList_none, List.cons_append, List.nil_append, nl_i, nl_r, nl_l, nl_n, nI_leI, e0, ↓reduceIte, nI_clamp, bnd, ly_55, Nat.reduceLT, true_and, and_true, e55]
      by_cases q : c k = -1
      · rw [if_pos q] at ih
        rw [if_pos q]
        simp (disch := omega) only [k198_24, k198_25, k198_27, k198_28, k198_46, k198_47, k198_49, k198_75, k198_77, k198_90, k198_91, k198_92, k198_95, Option.toList_some, Option.toList_none, List.cons_append, List.nil_append, nl_i, nl_r, nl_l, nl_n, n00', n7a, n7b, not_false_eq_true, ↓reduceIte, nI_add]
        exact ih _
      · rw [if_neg q] at ih
        rw [if_neg q]
        simp (disch := omega) only [k198_20, k198_21, k198_25, k198_27, k198_28, k198_46, k198_47, k198_49, k198_75, k198_77, k198_80, k198_81, k198_82, k198_83, k198_84, k198_85, k198_86, k198_87, k198_91, k198_92, k198_95, Option.toList_some, Option.toList_none, List.cons_append, List.nil_append, nl_i, nl_r, nl_l, nl_n, n10', n7a, n7b, n4, not_false_eq_true, true_and, ↓reduceIte, div4, shl1s, or_nI, nI_add]
        exact ih _
  exact key _
set_option maxRecDepth 100000 in
theorem r198_6 (h : RLd σ I) : ∃ I' J', (RLd σ I' ∧ QF I J I' J') ∧ ∀ Q : Option Value → ab_I → ab_J → Prop, Cal 198 [.ref 49, .int (nI 6)] I J Q ↔ Q (some (.int (nI (brN (cc σ.1) (isBr (cc σ.1)) 48)))) I' J' := by
  have main : ∀ Q : Option Value → ab_I → ab_J → Prop, (∀ v I' J', ((RLd σ I' ∧ QF I J I' J') ∧ v = some (.int (nI (brN (cc σ.1) (isBr (cc σ.1)) 48)))) → Q v I' J') → Cal 198 [.ref 49, .int (nI 6)] I J Q := by
    intro Q hQ
    rw [en198]
    simp (disch := omega) only [k198_0, k198_1, k198_2, k198_3, Option.toList_some, Option.toList_none, List.cons_append, List.nil_append, nl_i, nl_r, nl_l, nl_n]
    have outer : ∀ I1 J1, (RLd σ I1 ∧ QF I J I1 J1) → ∀ a4 : Option Value, At 198 4 [some (.ref 49), some (.int (nI 6)), some (.int (nI (brN (cc σ.1) (isBr (cc σ.1)) 0))), some (.int (nI 0)), a4] [] I1 J1 Q := by
      refine loop_ij (N := 48) (P := fun k I1 J1 => ∀ a4 : Option Value, At 198 4 [some (.ref 49), some (.int (nI 6)), some (.int (nI (brN (cc σ.1) (isBr (cc σ.1)) k))), some (.int (nI k)), a4] [] I1 J1 Q) (G := fun _ I1 J1 => RLd σ I1 ∧ QF I J I1 J1) ?_ ?_
      · intro I1 J1 hG a4
        rw [k198_4]
        simp (disch := omega) only [k198_5, k198_7, k198_98, k198_99, nI_leI, Nat.le_refl, ↓reduceIte]
        exact hQ _ _ _ ⟨hG, rfl⟩
      · intro k I1 J1 hk hG ih a4
        have e0 : ¬ 48 ≤ k := by omega
        have e55 : I1 55 = cc σ.1 := hG.1.2.1
        unfold brN at ih
        rw [k198_4]
        simp (disch := omega) only [k198_5, k198_7, k198_10, k198_11, k198_14, k198_15, k198_16, k198_17, Option.toList_some, Option.toList_none, List.cons_append, List.nil_append, nl_i, nl_r, nl_l, nl_n, nI_leI, e0, ↓reduceIte, nI_clamp, bnd, ly_55, Nat.reduceLT, true_and, and_true, e55]
        by_cases q : cc σ.1 k = -1
        · simp only [if_pos q] at ih
          rw [if_pos q]
          simp (disch := omega) only [k198_24, k198_25, k198_27, k198_28, k198_46, k198_47, k198_49, k198_52, k198_53, k198_55, k198_70, k198_71, k198_72, k198_91, k198_92, k198_95, Option.toList_some, Option.toList_none, List.cons_append, List.nil_append, nl_i, nl_r, nl_l, nl_n, n00', n6a, not_false_eq_true, not_true_eq_false, ↓reduceIte, nI_add]
          exact ih I1 J1 hG _
        · simp only [if_neg q] at ih
          rw [if_neg q]
          obtain ⟨I2, ⟨g1, g2⟩, hcal⟩ := r176 (J := J1) hG.1 hk
          simp (disch := omega) only [k198_20, k198_21, k198_25, k198_27, k198_28, k198_46, k198_47, k198_49, k198_52, k198_53, k198_55, k198_58, k198_59, k198_60, Option.toList_some, Option.toList_none, List.cons_append, List.nil_append, nl_i, nl_r, nl_l, nl_n, n10', n6a, not_false_eq_true, not_true_eq_false, ↓reduceIte, hcal]
          cases q2 : isBr (cc σ.1) k with
          | false =>
            rw [q2, if_pos rfl] at ih
            simp (disch := omega) only [k198_63, k198_70, k198_71, k198_72, k198_91, k198_92, k198_95, Option.toList_some, Option.toList_none, List.cons_append, List.nil_append, nl_i, nl_r, nl_l, nl_n, bI_0, ↓reduceIte, nI_add]
            exact ih I2 J1 ⟨g1, QF_trans hG.2 g2⟩ _
          | true =>
            rw [q2, if_neg (by simp)] at ih
            simp (disch := omega) only [k198_63, k198_66, k198_67, k198_71, k198_72, k198_91, k198_92, k198_95, Option.toList_some, Option.toList_none, List.cons_append, List.nil_append, nl_i, nl_r, nl_l, nl_n, bI_0, Bool.true_eq_false, ↓reduceIte, nI_add]
            exact ih I2 J1 ⟨g1, QF_trans hG.2 g2⟩ _
    exact outer I J ⟨h, QF_refl⟩ _
  obtain ⟨v, I', J', ⟨h1, rfl⟩, hc2⟩ := Cal_ex main
  exact ⟨I', J', h1, hc2⟩
set_option maxRecDepth 100000 in
theorem r199 {c o : Nat → Int32} (hL : Laid c o I) : Cal 199 [.ref 49] I J Q ↔ Q (some (.int (nI (bmN (hnd c) 4)))) I J := by
  refine Cal_of (fun Q hQ => ?_)
  rw [en199]
  simp (disch := omega) only [k199_0, k199_1, k199_2, k199_3, Option.toList_some, Option.toList_none, List.cons_append, List.nil_append, nl_i, nl_r, nl_l, nl_n]
  refine loop_dn (N := 4) (P := fun m => At 199 4 [some (.ref 49), some (.int (nI (bmN (hnd c) m))), some (.int (nI m))] [] I J Q) ?_ ?_
  · rw [k199_4]
    simp (disch := omega) only [k199_5, k199_6, k199_31, k199_32, nI_leI, Nat.le_refl, ↓reduceIte]
    exact hQ
  · intro m hm ih
    have e0 : ¬ 4 ≤ m := by omega
    unfold bmN at ih
    rw [k199_4]
    simp (disch := omega) only [k199_5, k199_6, k199_9, k199_10, k199_11, k199_12, Option.toList_some, Option.toList_none, List.cons_append, List.nil_append, nl_i, nl_r, nl_l, nl_n, nI_leI, e0, ↓reduceIte, r154 hL hm]
    by_cases q : lb (hnd c) m = m
    · rw [if_neg (fun w => w q)] at ih
      simp (disch := omega) only [k199_15, k199_18, k199_19, k199_23, k199_24, k199_25, k199_28, Option.toList_some, Option.toList_none, List.cons_append, List.nil_append, nl_i, nl_r, nl_l, nl_n, decide_eq_true q, bI_0, Bool.true_eq_false, ↓reduceIte, nI_add]
      exact ih
    · rw [if_pos q] at ih
      simp (disch := omega) only [k199_15, k199_22, k199_23, k199_24, k199_25, k199_28, Option.toList_some, Option.toList_none, List.cons_append, List.nil_append, nl_i, nl_r, nl_l, nl_n, decide_eq_false q, bI_0, ↓reduceIte, nI_add]
      exact ih
set_option maxRecDepth 100000 in
theorem r200 (hR : RR σ I) : ∃ I' J', (RR σ I' ∧ QF I J I' J') ∧ ∀ Q : Option Value → ab_I → ab_J → Prop, Cal 200 [.ref 49, .int x] I J Q ↔ Q (some (.int (aCount σ x))) I' J' := by
  obtain ⟨I1, ⟨h1, h3⟩, hcal⟩ := st138 (J := J) hR
  obtain ⟨t1, t2, t3⟩ := h1.1.2.1
  have e18 : I1 49 18 = _ := h1.1.2.2.2.1.2.2.1
  have e40 := h1.1.2.2.2.2.2
  have hN := (⟨RL_RR h1, h3⟩ : RR σ I1 ∧ QF I J I1 J)
  by_cases hb : inr x 9 = true
  · obtain ⟨k, hk, rfl⟩ := inr_nI hb
    have : k = 0 ∨ k = 1 ∨ k = 2 ∨ k = 3 ∨ k = 4 ∨ k = 5 ∨ k = 6 ∨ k = 7 ∨ k = 8 := by omega
    rcases this with r | r | r | r | r | r | r | r | r <;> subst r
    · refine ⟨I1, J, hN, fun Q => ?_⟩
      rw [en200, show aCount σ (nI 0) = nI (mkA (hnd (cc σ.1)) 12) from rfl]
      simp (disch := omega) only [k200_0, k200_1, k200_4, k200_56, k200_57, k200_58, k200_61, k200_62, k200_63, k200_66, k200_67, k200_68, k200_71, k200_72, k200_73, k200_76, k200_77, k200_78, k200_81, k200_82, k200_83, k200_86, k200_87, k200_88, k200_91, k200_92, k200_94, k200_5_0, Option.toList_some, Option.toList_none, List.cons_append, List.nil_append, nl_i, nl_r, nl_l, nl_n, hcal, r198_0 h1.2]
    · refine ⟨I1, J, hN, fun Q => ?_⟩
      rw [en200, show aCount σ (nI 1) = nI σ.1.1 from rfl]
      simp (disch := omega) only [k200_0, k200_1, k200_4, k200_56, k200_57, k200_58, k200_61, k200_62, k200_63, k200_66, k200_67, k200_68, k200_71, k200_72, k200_73, k200_76, k200_77, k200_78, k200_81, k200_82, k200_83, k200_86, k200_87, k200_88, k200_91, k200_92, k200_94, k200_5_1, Option.toList_some, Option.toList_none, List.cons_append, List.nil_append, nl_i, nl_r, nl_l, nl_n, hcal, t1]
    · refine ⟨I1, J, hN, fun Q => ?_⟩
      rw [en200, show aCount σ (nI 2) = σ.1.2.2.2.2 from rfl]
      simp (disch := omega) only [k200_0, k200_1, k200_4, k200_56, k200_57, k200_58, k200_61, k200_62, k200_63, k200_66, k200_67, k200_68, k200_71, k200_72, k200_73, k200_76, k200_77, k200_78, k200_81, k200_82, k200_83, k200_86, k200_87, k200_88, k200_91, k200_92, k200_94, k200_5_2, Option.toList_some, Option.toList_none, List.cons_append, List.nil_append, nl_i, nl_r, nl_l, nl_n, hcal, t3]
    · refine ⟨I1, J, hN, fun Q => ?_⟩
      rw [en200, show aCount σ (nI 3) = la σ.1 from rfl]
      simp (disch := omega) only [k200_0, k200_1, k200_4, k200_56, k200_57, k200_58, k200_61, k200_62, k200_63, k200_66, k200_67, k200_68, k200_71, k200_72, k200_73, k200_76, k200_77, k200_78, k200_81, k200_82, k200_83, k200_86, k200_87, k200_88, k200_91, k200_92, k200_94, k200_5_3, Option.toList_some, Option.toList_none, List.cons_append, List.nil_append, nl_i, nl_r, nl_l, nl_n, hcal, c133T (RL_RR h1)]
    · refine ⟨I1, J, hN, fun Q => ?_⟩
      rw [en200, show aCount σ (nI 4) = nI (bmN (hnd (cc σ.1)) 4) from rfl]
      simp (disch := omega) only [k200_0, k200_1, k200_4, k200_56, k200_57, k200_58, k200_61, k200_62, k200_63, k200_66, k200_67, k200_68, k200_71, k200_72, k200_73, k200_76, k200_77, k200_78, k200_81, k200_82, k200_83, k200_86, k200_87, k200_88, k200_91, k200_92, k200_94, k200_5_4, Option.toList_some, Option.toList_none, List.cons_append, List.nil_append, nl_i, nl_r, nl_l, nl_n, hcal, r199 h1.2]
    · refine ⟨I1, J, hN, fun Q => ?_⟩
      rw [en200, show aCount σ (nI 5) = nI σ.2.2.1.1 from rfl]
      simp (disch := omega) only [k200_0, k200_1, k200_4, k200_56, k200_57, k200_58, k200_61, k200_62, k200_63, k200_66, k200_67, k200_68, k200_71, k200_72, k200_73, k200_76, k200_77, k200_78, k200_81, k200_82, k200_83, k200_86, k200_87, k200_88, k200_91, k200_92, k200_94, k200_5_5, Option.toList_some, Option.toList_none, List.cons_append, List.nil_append, nl_i, nl_r, nl_l, nl_n, hcal, e18]
    · obtain ⟨I2, J2, ⟨g1, g2⟩, hcal2⟩ := r198_6 (J := J) h1
      refine ⟨I2, J2, ⟨RL_RR g1, QF_trans h3 g2⟩, fun Q => ?_⟩
      rw [en200, show aCount σ (nI 6) = nI (brN (cc σ.1) (isBr (cc σ.1)) 48) from rfl]
      simp (disch := omega) only [k200_0, k200_1, k200_4, k200_56, k200_57, k200_58, k200_61, k200_62, k200_63, k200_66, k200_67, k200_68, k200_71, k200_72, k200_73, k200_76, k200_77, k200_78, k200_81, k200_82, k200_83, k200_86, k200_87, k200_88, k200_91, k200_92, k200_94, k200_5_6, Option.toList_some, Option.toList_none, List.cons_append, List.nil_append, nl_i, nl_r, nl_l, nl_n, hcal, hcal2]
    · refine ⟨I1, J, hN, fun Q => ?_⟩
      rw [en200, show aCount σ (nI 7) = nI (mkS (hnd (cc σ.1)) 12) from rfl]
      simp (disch := omega) only [k200_0, k200_1, k200_4, k200_56, k200_57, k200_58, k200_61, k200_62, k200_63, k200_66, k200_67, k200_68, k200_71, k200_72, k200_73, k200_76, k200_77, k200_78, k200_81, k200_82, k200_83, k200_86, k200_87, k200_88, k200_91, k200_92, k200_94, k200_5_7, Option.toList_some, Option.toList_none, List.cons_append, List.nil_append, nl_i, nl_r, nl_l, nl_n, hcal, r198_7 h1.2]
    · refine ⟨I1, J, hN, fun Q => ?_⟩
      rw [en200, show aCount σ (nI 8) = σ.2.2.2.2 from rfl]
      simp (disch := omega) only [k200_0, k200_1, k200_4, k200_56, k200_57, k200_58, k200_61, k200_62, k200_63, k200_66, k200_67, k200_68, k200_71, k200_72, k200_73, k200_76, k200_77, k200_78, k200_81, k200_82, k200_83, k200_86, k200_87, k200_88, k200_91, k200_92, k200_94, k200_5_8, Option.toList_some, Option.toList_none, List.cons_append, List.nil_append, nl_i, nl_r, nl_l, nl_n, hcal, e40]
  · have hb' : inr x 9 = false := by simpa using hb
    have hn : ∀ k, k < 9 → ¬ x = nI k := fun k hk w => hb (by rw [w]; exact inr_of hk (by decide))
    refine ⟨I1, J, hN, fun Q => ?_⟩
    rw [en200, show aCount σ x = -2 by unfold aCount; rw [if_neg (hn 0 (by omega)), if_neg (hn 1 (by omega)), if_neg (hn 2 (by omega)), if_neg (hn 3 (by omega)), if_neg (hn 4 (by omega)), if_neg (hn 5 (by omega)), if_neg (hn 6 (by omega)), if_neg (hn 7 (by omega)), if_neg (hn 8 (by omega))]]
    simp (disch := omega) only [k200_0, k200_1, k200_4, k200_56, k200_57, k200_58, k200_61, k200_62, k200_63, k200_66, k200_67, k200_68, k200_71, k200_72, k200_73, k200_76, k200_77, k200_78, k200_81, k200_82, k200_83, k200_86, k200_87, k200_88, k200_91, k200_92, k200_94, k200_5_d hb', Option.toList_some, Option.toList_none, List.cons_append, List.nil_append, nl_i, nl_r, nl_l, nl_n, hcal]
end COUNT
