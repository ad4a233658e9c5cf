/-! CALLS: agree, the reference's side -/
section AGR
variable {I : ab_I} {J : ab_J} {Q : Option Value → ab_I → ab_J → Prop} {σ : PS} {x x1 x2 x3 x4 : Int32}
theorem r181 {v w : Nat} (hv : v ≤ 100) (hw : w ≤ 100) : Cal 181 [.int (nI v - nI w)] I J Q ↔ Q (some (.int (sgn (nI v) (nI w)))) I J := by
  have e : (nI v - nI w).toInt = (v : Int) - w := pk_sub_toInt (by omega) (by omega)
  rw [en181]
  unfold sgn
  by_cases q : v = w
  · subst q
    have c1 : nI v - nI v ≤ 0 := by rw [i_le, e, t0]; omega
    have c2 : (0 : Int32) ≤ nI v - nI v := by rw [i_le, e, t0]; omega
    simp (disch := omega) only [k181_0, k181_1, k181_4, k181_5, k181_8, k181_9, k181_12, k181_13, k181_16, k181_17, Option.toList_some, Option.toList_none, List.cons_append, List.nil_append, nl_i, nl_r, nl_l, nl_n, c1, c2, ↓reduceIte]
  · have q' : ¬ nI v = nI w := fun z => q ((nI_eq (by omega) (by omega)).mp z)
    rw [if_neg q']
    by_cases q2 : v < w
    · have c1 : nI v - nI w ≤ 0 := by rw [i_le, e, t0]; omega
      have c2 : ¬ (0 : Int32) ≤ nI v - nI w := by rw [i_le, e, t0]; omega
      rw [if_pos (nI_lt q2 (by omega))]
      simp (disch := omega) only [k181_0, k181_1, k181_4, k181_5, k181_8, k181_9, k181_12, k181_13, k181_16, k181_17, Option.toList_some, Option.toList_none, List.cons_append, List.nil_append, nl_i, nl_r, nl_l, nl_n, c1, c2, ↓reduceIte]
    · have c1 : ¬ nI v - nI w ≤ 0 := by rw [i_le, e, t0]; omega
      rw [if_neg (nI_nlt (by omega) (by omega))]
      simp (disch := omega) only [k181_0, k181_1, k181_4, k181_5, k181_8, k181_9, k181_12, k181_13, k181_16, k181_17, Option.toList_some, Option.toList_none, List.cons_append, List.nil_append, nl_i, nl_r, nl_l, nl_n, c1, ↓reduceIte]
theorem r181' {y z : Int32} (hy : ∃ v, v ≤ 100 ∧ y = nI v) (hz : ∃ v, v ≤ 100 ∧ z = nI v) : Cal 181 [.int (y - z)] I J Q ↔ Q (some (.int (sgn y z))) I J := by
  obtain ⟨v, hv, rfl⟩ := hy
  obtain ⟨w, hw, rfl⟩ := hz
  exact r181 hv hw
/-- pairs and their order -/
def OS (n : Nat) (f1 f2 : Nat → Int32) (o : Nat → Nat) (I : ab_I) : Prop := I 49 31 = nI n ∧ ∀ i, i < n → (I 67 i = f1 i ∧ I 68 i = f2 i) ∧ I 69 i = nI (o i) ∧ o i < n
def VS (n : Nat) (f1 f2 : Nat → Int32) : Prop := ∀ i, i < n → (∃ v, v ≤ 100 ∧ f1 i = nI v) ∧ ∃ v, v ≤ 100 ∧ f2 i = nI v
set_option maxRecDepth 100000 in
theorem r182 {n : Nat} {f1 f2 : Nat → Int32} {o : Nat → Nat} (hn : n ≤ 12) (hO : OS n f1 f2 o I) (hV : VS n f1 f2) : Cal 182 [.ref 49] I J Q ↔ Q (some (.int (scO f1 f2 n o))) I J := by
  obtain ⟨h5, hf⟩ := hO
  refine Cal_of (fun Q hQ => ?_)
  rw [en182]
  simp (disch := omega) only [k182_0, k182_1, k182_2, k182_3, Option.toList_some, Option.toList_none, List.cons_append, List.nil_append, nl_i, nl_r, nl_l, nl_n]
  have key : ∀ a3 : Option Value, At 182 4 [some (.ref 49), some (.int (sI (Fm f1 f2 o) n 0)), some (.int (nI 0)), a3] [] I J Q := by
    refine loop_dn (N := n) (P := fun p => ∀ a3 : Option Value, At 182 4 [some (.ref 49), some (.int (sI (Fm f1 f2 o) n p)), some (.int (nI p)), a3] [] I J Q) ?_ ?_
    · intro a3
      rw [k182_4]
      simp (disch := omega) only [k182_5, k182_6, k182_9, k182_82, k182_83, h5, nI_leI, Nat.le_refl, ↓reduceIte]
      exact hQ
    · intro p hp ih a3
      have e0 : ¬ n ≤ p := by omega
      unfold sI at ih
      rw [k182_4]
      simp (disch := omega) only [k182_5, k182_6, k182_9, k182_12, k182_13, k182_14, k182_15, Option.toList_some, Option.toList_none, List.cons_append, List.nil_append, nl_i, nl_r, nl_l, nl_n, h5, nI_leI, e0, ↓reduceIte, nI_add]
      have inner : At 182 16 [some (.ref 49), some (.int (sJ (Fm f1 f2 o) p (sI (Fm f1 f2 o) n p) 0)), some (.int (nI p)), some (.int (nI (p + 1 + 0)))] [] I J Q := by
        refine loop_dn (N := n - (p + 1)) (P := fun k => At 182 16 [some (.ref 49), some (.int (sJ (Fm f1 f2 o) p (sI (Fm f1 f2 o) n p) k)), some (.int (nI p)), some (.int (nI (p + 1 + k)))] [] I J Q) ?_ ?_
        · have e1 : n ≤ p + 1 + (n - (p + 1)) := by omega
          rw [k182_16]
          simp (disch := omega) only [k182_17, k182_18, k182_21, k182_76, k182_79, Option.toList_some, Option.toList_none, List.cons_append, List.nil_append, nl_i, nl_r, nl_l, nl_n, h5, nI_leI, e1, ↓reduceIte, nI_add]
          exact ih _
        · intro k hk ihk
          have e1 : ¬ n ≤ p + 1 + k := by omega
          obtain ⟨⟨p1, -⟩, p3, p4⟩ := hf p hp
          obtain ⟨⟨k1, -⟩, k3, k4⟩ := hf (p + 1 + k) (by omega)
          obtain ⟨⟨-, p2⟩, -⟩ := hf (o p) p4
          obtain ⟨⟨-, k2⟩, -⟩ := hf (o (p + 1 + k)) k4
          unfold sJ at ihk
          rw [k182_16]
          simp (disch := omega) only [k182_17, k182_18, k182_21, k182_24, k182_25, k182_26, k182_29, k182_30, k182_31, k182_32, k182_35, k182_36, k182_37, k182_38, k182_41, k182_42, k182_45, k182_46, k182_49, k182_50, k182_51, k182_52, k182_53, k182_56, k182_57, k182_60, k182_61, k182_62, k182_63, k182_64, k182_67, k182_68, k182_69, k182_70, k182_73, Option.toList_some, Option.toList_none, List.cons_append, List.nil_append, nl_i, nl_r, nl_l, nl_n, h5, nI_leI, e1, ↓reduceIte, nI_clamp, bnd, ly_67, ly_68, ly_69, Nat.reduceLT, true_and, and_true, p1, p2, p3, k1, k2, k3, r181' (hV p hp).1 (hV (p + 1 + k) (by omega)).1, r181' (hV (o p) p4).2 (hV (o (p + 1 + k)) k4).2, nI_add]
          exact ihk
      exact inner
  exact key _
def eI (k : Nat) : Int32 := if k = 0 then -1 else nI (k - 1)
theorem eI_s (k : Nat) : eI (k + 1) = nI k := by unfold eI; rw [if_neg (by omega)]; rfl
theorem eI_d (k : Nat) (hk : k < 2 ^ 31) : nI k + (-1) = eI k := by
  cases k with
  | zero => exact m00
  | succ k => rw [eI_s, pk_m1]
theorem pv_le (o : Nat → Nat) : ∀ k, pv o k ≤ k ∧ (pv o k ≠ 0 → ¬ o (pv o k) < o (pv o k - 1))
  | 0 => ⟨Nat.le_refl _, fun w => absurd rfl w⟩
  | k + 1 => by
    obtain ⟨h1, h2⟩ := pv_le o k
    unfold pv
    by_cases q : o (k + 1) < o k
    · rw [if_pos q]; exact ⟨by omega, h2⟩
    · rw [if_neg q]; exact ⟨Nat.le_refl _, fun _ => q⟩
theorem jv_le (o : Nat → Nat) (y : Nat) : ∀ j, jv o y j ≤ j
  | 0 => Nat.le_refl _
  | j + 1 => by have := jv_le o y j; unfold jv; split <;> omega
theorem jv_ge {o : Nat → Nat} {y l : Nat} (hl : ¬ o l < y) : ∀ j, l ≤ j → l ≤ jv o y j
  | 0, h => by show l ≤ 0; exact h
  | j + 1, h => by
    unfold jv
    by_cases q : o (j + 1) < y
    · rw [if_pos q]
      refine jv_ge hl j ?_
      refine Classical.byContradiction (fun w => ?_)
      have : l = j + 1 := by omega
      subst this
      exact hl q
    · rw [if_neg q]; exact h
theorem OS_sw {n : Nat} {f1 f2 : Nat → Int32} {o : Nat → Nat} {d : Nat → Int32} {i j : Nat} (hO : OS n f1 f2 o (va_up I 69 d)) (hi : i < n) (hj : j < n) : OS n f1 f2 (sw2 o i j) (va_up I 69 (va_up (va_up d i (nI (o j))) j (nI (o i)))) := by
  obtain ⟨h1, h2⟩ := hO
  refine ⟨?_, fun k hk => ⟨?_, ?_⟩⟩
  · rw [up_ne _ _ (by omega)] at h1 ⊢; exact h1
  · have := (h2 k hk).1
    rw [up_ne _ _ (by omega), up_ne _ _ (by omega)] at this ⊢
    exact this
  · have hk2 := (h2 k hk).2
    rw [va_up_s] at hk2 ⊢
    unfold sw2
    by_cases e1 : k = j
    · subst e1; rw [va_up_s, va_up_s]; exact ⟨rfl, (h2 i hi).2.2⟩
    · rw [va_up_n _ _ e1, va_up_n _ _ e1]
      by_cases e2 : k = i
      · subst e2; rw [va_up_s, va_up_s]; exact ⟨rfl, (h2 j hj).2.2⟩
      · rw [va_up_n _ _ e2, va_up_n _ _ e2]; exact hk2
set_option maxRecDepth 100000 in
theorem l183 {n : Nat} {f1 f2 : Nat → Int32} (hn : n ≤ 12) {a1 a2 : Option Value} : ∀ (f : Nat) (o : Nat → Nat) (d : Nat → Int32) (l h : Nat), OS n f1 f2 o (va_up I 69 d) → l ≤ n + 4 → h < n → h < l + 2 * f → (∀ d', OS n f1 f2 (rvF f o l h) (va_up I 69 d') → Q (some (.int (nI 1))) (va_up I 69 d') J) → ∀ a3 : Option Value, At 183 107 [some (.ref 49), a1, a2, a3, some (.int (nI l)), some (.int (nI h))] [] (va_up I 69 d) J Q
  | 0, o, d, l, h, hO, hl, hh, hf, hQ, a3 => by
    have e0 : h ≤ l := by omega
    rw [k183_107]
    simp (disch := omega) only [k183_109, k183_111, k183_153, k183_154, nI_leI, e0, ↓reduceIte, z10, true_and]
    exact hQ d hO
  | f + 1, o, d, l, h, hO, hl, hh, hf, hQ, a3 => by
    unfold rvF at hQ
    rw [k183_107]
    by_cases q : l < h
    · simp only [if_pos q] at hQ
      have e0 : ¬ h ≤ l := by omega
      have el : d l = nI (o l) := by have := (hO.2 l (by omega)).2.1; rw [va_up_s] at this; exact this
      have eh : d h = nI (o h) := by have := (hO.2 h hh).2.1; rw [va_up_s] at this; exact this
      have em : nI h + (-1) = nI (h - 1) := by
        obtain ⟨k, rfl⟩ : ∃ k, h = k + 1 := ⟨h - 1, by omega⟩
        rw [pk_m1]; rfl
      simp (disch := omega) only [k183_109, k183_111, k183_114, k183_115, k183_118, k183_120, k183_121, k183_122, k183_123, k183_126, k183_128, k183_129, k183_132, k183_134, k183_135, k183_136, k183_137, k183_140, k183_142, k183_143, k183_144, k183_147, k183_150, Option.toList_some, Option.toList_none, List.cons_append, List.nil_append, nl_i, nl_r, nl_l, nl_n, nI_leI, e0, ↓reduceIte, nI_clamp, bnd, ly_69, Nat.reduceLT, true_and, and_true, va_up_s, up_same, el, eh, nI_add, em]
      exact l183 hn f (sw2 o l h) _ (l + 1) (h - 1) (OS_sw hO (by omega) hh) (by omega) (by omega) (by omega) hQ _
    · simp only [if_neg q] at hQ
      have e0 : h ≤ l := by omega
      simp (disch := omega) only [k183_109, k183_111, k183_153, k183_154, nI_leI, e0, ↓reduceIte, z10, true_and]
      exact hQ d hO
set_option maxRecDepth 100000 in
theorem r183 {n : Nat} {f1 f2 : Nat → Int32} {o : Nat → Nat} (h2 : 2 ≤ n) (hn : n ≤ 7) (hO : OS n f1 f2 o I) : (tn n o = none → ∀ Q : Option Value → ab_I → ab_J → Prop, Cal 183 [.ref 49] I J Q ↔ Q (some (.int (nI 0))) I J) ∧ ∀ t, tn n o = some t → ∃ d, OS n f1 f2 t (va_up I 69 d) ∧ ∀ Q : Option Value → ab_I → ab_J → Prop, Cal 183 [.ref 49] I J Q ↔ Q (some (.int (nI 1))) (va_up I 69 d) J := by
  obtain ⟨h5, hf⟩ := id hO
  obtain ⟨pl, pp⟩ := pv_le o (n - 1)
  -- to the pivot
  have first : ∀ Q : Option Value → ab_I → ab_J → Prop, At 183 34 [some (.ref 49), some (.int (eI (pv o (n - 1)))), none, none, none, none] [] I J Q → Cal 183 [.ref 49] I J Q := by
    intro Q hQ
    rw [en183]
    simp (disch := omega) only [k183_0, k183_1, k183_4, k183_5, k183_6, Option.toList_some, Option.toList_none, List.cons_append, List.nil_append, nl_i, nl_r, nl_l, nl_n, h5, pk_sub]
    have key : ∀ k, k ≤ n - 1 → pv o k = pv o (n - 1) → At 183 7 [some (.ref 49), some (.int (eI k)), none, none, none, none] [] I J Q := by
      intro k
      induction k with
      | zero =>
        intro _ e
        rw [← e] at hQ
        rw [k183_7]
        simp (disch := omega) only [k183_8, show eI 0 = -1 from rfl, mlt, ↓reduceIte]
        exact hQ
      | succ k ih =>
        intro hk e
        have o1 := (hf k (by omega)).2.1
        have o2 := (hf (k + 1) (by omega)).2.1
        have b1 := (hf k (by omega)).2.2
        have b2 := (hf (k + 1) (by omega)).2.2
        rw [eI_s, k183_7]
        simp (disch := omega) only [k183_8, k183_11, k183_12, k183_15, k183_16, k183_17, k183_18, k183_21, k183_22, k183_23, k183_24, k183_25, Option.toList_some, Option.toList_none, List.cons_append, List.nil_append, nl_i, nl_r, nl_l, nl_n, nlt0, ↓reduceIte, nI_add, nI_clamp, bnd, ly_69, Nat.reduceLT, true_and, and_true, o1, o2, nI_leI]
        change (if o (k + 1) < o k then pv o k else k + 1) = pv o (n - 1) at e
        by_cases q : o (k + 1) < o k
        · rw [if_pos q] at e
          rw [if_neg (by omega)]
          simp (disch := omega) only [k183_28, k183_31, Option.toList_some, Option.toList_none, List.cons_append, List.nil_append, nl_i, nl_r, nl_l, nl_n, eI_d k (by omega)]
          exact ih (by omega) e
        · rw [if_neg q] at e
          rw [← e, eI_s] at hQ
          rw [if_pos (by omega)]
          exact hQ
    have := key (n - 1) (Nat.le_refl _) rfl
    have e1 : eI (n - 1) = nI (n - 2) := by rw [show n - 1 = (n - 2) + 1 by omega, eI_s]
    rw [e1] at this
    exact this
  constructor
  · intro ht Q
    have p0 : pv o (n - 1) = 0 := by
      unfold tn at ht
      by_cases w : pv o (n - 1) = 0
      · exact w
      · rw [if_neg w] at ht; cases ht
    refine Cal_of (fun Q hQ => first Q ?_)
    have c1 : ¬ (0 : Int32) ≤ -1 := by decide
    rw [p0]
    simp (disch := omega) only [k183_34, k183_35, k183_38, k183_39, show eI 0 = -1 from rfl, c1, ↓reduceIte, z00, true_and]
    exact hQ
  · intro t ht
    have p0 : pv o (n - 1) ≠ 0 := by
      intro w
      unfold tn at ht
      rw [if_pos w] at ht
      cases ht
    unfold tn at ht
    rw [if_neg p0] at ht
    have ht := Option.some.inj ht
    have ppv := pp p0
    have jge := jv_ge ppv (n - 1) (by omega)
    have jle := jv_le o (o (pv o (n - 1) - 1)) (n - 1)
    have main : ∀ Q : Option Value → ab_I → ab_J → Prop, (∀ v I' J', ((∃ d, I' = va_up I 69 d ∧ OS n f1 f2 t (va_up I 69 d)) ∧ J' = J ∧ v = some (.int (nI 1))) → Q v I' J') → Cal 183 [.ref 49] I J Q := by
      intro Q hQ
      refine first Q ?_
      generalize hi : pv o (n - 1) - 1 = i at *
      have ep : pv o (n - 1) = i + 1 := by omega
      rw [ep] at pl ppv jge ht
      rw [ep, eI_s]
      have c1 : (0 : Int32) ≤ nI i := nI_pos' (by omega)
      simp (disch := omega) only [k183_34, k183_35, k183_40, k183_41, k183_44, k183_45, k183_46, Option.toList_some, Option.toList_none, List.cons_append, List.nil_append, nl_i, nl_r, nl_l, nl_n, c1, ↓reduceIte, h5, pk_sub]
      have oi := (hf i (by omega)).2.1
      have bi := (hf i (by omega)).2.2
      have key : ∀ k, i + 1 ≤ k → k ≤ n - 1 → jv o (o i) k = jv o (o i) (n - 1) → At 183 47 [some (.ref 49), some (.int (nI i)), some (.int (nI k)), none, none, none] [] I J Q := by
        intro k
        induction k with
        | zero => intro h; omega
        | succ k ih =>
          intro hk1 hk2 e
          have ok' := (hf (k + 1) (by omega)).2.1
          have bk := (hf (k + 1) (by omega)).2.2
          rw [k183_47]
          simp (disch := omega) only [k183_48, k183_51, k183_52, k183_53, k183_54, k183_57, k183_58, k183_59, Option.toList_some, Option.toList_none, List.cons_append, List.nil_append, nl_i, nl_r, nl_l, nl_n, nI_clamp, bnd, ly_69, Nat.reduceLT, true_and, and_true, ok', oi, nI_leI]
          change (if o (k + 1) < o i then jv o (o i) k else k + 1) = jv o (o i) (n - 1) at e
          by_cases q : o (k + 1) < o i
          · rw [if_pos q] at e
            rw [if_neg (by omega)]
            simp (disch := omega) only [k183_62, k183_65, Option.toList_some, Option.toList_none, List.cons_append, List.nil_append, nl_i, nl_r, nl_l, nl_n, pk_m1]
            refine ih ?_ (by omega) e
            refine Classical.byContradiction (fun w => ?_)
            have : i = k := by omega
            subst this
            exact ppv q
          · rw [if_neg q] at e
            rw [if_pos (by omega)]
            have hO1 : OS n f1 f2 o (va_up I 69 (I 69)) := by rw [up_id]; exact hO
            have hO2 := OS_sw hO1 (i := i) (j := k + 1) (by omega) (by omega)
            have en1 : nI n - nI 1 = nI (n - 1) := pk_sub (by omega)
            simp (disch := omega) only [k183_68, k183_69, k183_72, k183_73, k183_74, k183_75, k183_76, k183_79, k183_80, k183_81, k183_84, k183_85, k183_86, k183_87, k183_88, k183_91, k183_92, k183_93, k183_94, k183_95, k183_96, k183_97, k183_99, k183_100, k183_103, k183_104, k183_105, Option.toList_some, Option.toList_none, List.cons_append, List.nil_append, nl_i, nl_r, nl_l, nl_n, nI_clamp, bnd, ly_69, Nat.reduceLT, true_and, and_true, oi, ok', va_up_s, up_same, up_ne, nI_add, h5, en1]
            refine l183 (by omega) 4 (sw2 o i (k + 1)) _ (i + 1) (n - 1) hO2 (by omega) (by omega) (by omega) (fun d' hd' => hQ _ _ _ ⟨⟨d', rfl, ?_⟩, rfl, rfl⟩) _
            rw [← ht, ← e]
            exact hd'
      exact key (n - 1) (by omega) (Nat.le_refl _) rfl
    obtain ⟨v, I', J', ⟨⟨d, rfl, hd⟩, rfl, rfl⟩, hc2⟩ := Cal_ex main
    exact ⟨d, hd, hc2⟩
end AGR
