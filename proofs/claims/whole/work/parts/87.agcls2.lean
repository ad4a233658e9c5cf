/-! CALLS: agree, the class's side: gather, score, millionths -/
def scO (f1 f2 : Nat → Int32) (n : Nat) (o : Nat → Nat) : Int32 := sI (Fm f1 f2 o) n n
def cnt (f1 f2 : Nat → Int32) (n : Nat) : Nat := (pms n).countP (fun o => decide (scO f1 f2 n (fun i => i) ≤ scO f1 f2 n o))
def chn (f1 f2 : Nat → Int32) (n : Nat) : Int32 := (zL 1000000 * zL (cnt f1 f2 n) / zL (fac n)).toInt32
def aAgree (c : Nat → Int32) (x x1 x2 : Int32) : Int32 := if inr x 4 = true ∧ inr x1 4 = true ∧ x ≠ x1 ∧ inr x2 2 = true then (if (gP c (tN x) (tN x1) 12).1 < 2 then -3 else if x2 = nI 0 then scO (gP c (tN x) (tN x1) 12).2.1 (gP c (tN x) (tN x1) 12).2.2 (gP c (tN x) (tN x1) 12).1 (fun i => i) else if 7 < (gP c (tN x) (tN x1) 12).1 then -4 else chn (gP c (tN x) (tN x1) 12).2.1 (gP c (tN x) (tN x1) 12).2.2 (gP c (tN x) (tN x1) 12).1) else -2
theorem cnt_le (f1 f2 : Nat → Int32) {n : Nat} (h2 : 2 ≤ n) (h7 : n ≤ 7) : cnt f1 f2 n ≤ 5040 := by
  have h := (ckAll h2 h7).2.2.1
  have := List.countP_le_length (p := fun o => decide (scO f1 f2 n (fun i => i) ≤ scO f1 f2 n o)) (l := pms n)
  have := (fac_b h7).2
  unfold cnt
  omega
theorem dl_cnt (f1 f2 : Nat → Int32) (n : Nat) : dl n (scO f1 f2 n (fun i => i)) f1 f2 n 0 0 (fun _ => 0) (nI 0) = cnt f1 f2 n := by
  have h := dl_pm (lst := scO f1 f2 n (fun i => i)) (f1 := f1) (f2 := f2) n 0 0 (fun _ => 0) (Nat.zero_add n)
  have e : ∀ o, Lo2 (Fm f1 f2 o) n = scO f1 f2 n o := fun o => (sI_Lo (Fm_symm f1 f2 o) n).symm
  simp only [e] at h
  exact h
section AGD
variable {I : ab_I} {J : ab_J} {Q : Option Value → ab_I → ab_J → Prop} {σ : PS} {x x1 x2 x3 x4 : Int32}
def GA (z : Nat × (Nat → Int32) × (Nat → Int32)) (I I' : ab_I) : Prop := (∀ k, k ≠ 33 → k ≠ 34 → k ≠ 35 → I' k = I k) ∧ I' 33 5 = nI z.1 ∧ ∀ i, i < z.1 → I' 34 i = z.2.1 i ∧ I' 35 i = z.2.2 i
set_option maxRecDepth 100000 in
theorem q1 {c : Nat → Int32} {a b : Nat} (hc : I 6 = c) (ha : a < 4) (hb : b < 4) : ∃ I', GA (gP c a b 12) I I' ∧ ∀ Q : Option Value → ab_I → ab_J → Prop, Cal 1 [.ref 33, .ref 5, .int (nI a), .int (nI b)] I J Q ↔ Q none I' J := by
  have main : ∀ Q : Option Value → ab_I → ab_J → Prop, (∀ v I' J', (GA (gP c a b 12) I I' ∧ J' = J ∧ v = none) → Q v I' J') → Cal 1 [.ref 33, .ref 5, .int (nI a), .int (nI b)] I J Q := by
    intro Q hQ
    rw [en1]
    simp (disch := omega) only [k1_0, k1_1, k1_2, k1_5, k1_6, Option.toList_some, Option.toList_none, List.cons_append, List.nil_append, nl_i, nl_r, nl_l, nl_n]
    have outer : ∀ I1 J1, (GA (gP c a b 0) I I1 ∧ J1 = J) → ∀ a5 a6 : Option Value, At 1 8 [some (.ref 33), some (.ref 5), some (.int (nI a)), some (.int (nI b)), some (.int (nI 0)), a5, a6] [] I1 J1 Q := by
      refine loop_ij (N := 12) (P := fun s I1 J1 => ∀ a5 a6 : Option Value, At 1 8 [some (.ref 33), some (.ref 5), some (.int (nI a)), some (.int (nI b)), some (.int (nI s)), a5, a6] [] I1 J1 Q) (G := fun s I1 J1 => GA (gP c a b s) I I1 ∧ J1 = J) ?_ ?_
      · rintro I1 J1 ⟨hG, rfl⟩ a5 a6
        rw [k1_8]
        simp (disch := omega) only [k1_10, k1_12, k1_91, nI_leI, Nat.le_refl, ↓reduceIte]
        exact hQ _ _ _ ⟨hG, rfl, rfl⟩
      · rintro s I1 J1 hs ⟨⟨g1, g2, g3⟩, rfl⟩ ih a5 a6
        have e0 : ¬ 12 ≤ s := by omega
        have e6 : I1 6 = c := by rw [g1 6 (by decide) (by decide) (by decide)]; exact hc
        have hl := gP_le c a b s
        rw [k1_8]
        simp (disch := omega) only [k1_10, k1_12, k1_15, k1_16_5, k1_19, k1_20, k1_22, k1_23, k1_24, k1_25, k1_26, k1_28, k1_29_5, k1_32, k1_33, k1_35, k1_36, k1_37, k1_38, k1_39, k1_41, k1_43, k1_44, Option.toList_some, Option.toList_none, List.cons_append, List.nil_append, nl_i, nl_r, nl_l, nl_n, nI_leI, e0, ↓reduceIte, pk_mul, nI_add, nI_clamp, bnd, ly_6, Nat.reduceLT, true_and, and_true, e6]
        unfold gP at ih
        by_cases q1 : c (4 * s + a) = -1
        · simp only [if_pos (Or.inl q1 : c (4 * s + a) = -1 ∨ c (4 * s + b) = -1)] at ih
          rw [if_pos q1]
          simp (disch := omega) only [k1_85, k1_88, Option.toList_some, Option.toList_none, List.cons_append, List.nil_append, nl_i, nl_r, nl_l, nl_n, nI_add]
          exact ih I1 J1 ⟨⟨g1, g2, g3⟩, rfl⟩ _ _
        · rw [if_neg q1]
          simp (disch := omega) only [k1_47, k1_49, k1_50]
          by_cases q2 : c (4 * s + b) = -1
          · simp only [if_pos (Or.inr q2 : c (4 * s + a) = -1 ∨ c (4 * s + b) = -1)] at ih
            rw [if_pos q2]
            simp (disch := omega) only [k1_85, k1_88, Option.toList_some, Option.toList_none, List.cons_append, List.nil_append, nl_i, nl_r, nl_l, nl_n, nI_add]
            exact ih I1 J1 ⟨⟨g1, g2, g3⟩, rfl⟩ _ _
          · have q3 : ¬ (c (4 * s + a) = -1 ∨ c (4 * s + b) = -1) := by rintro (w | w); exact q1 w; exact q2 w
            simp only [if_neg q3] at ih
            rw [if_neg q2]
            simp (disch := omega) only [k1_53, k1_54, k1_57, k1_58, k1_61, k1_63, k1_64, k1_65, k1_68, k1_69, k1_72, k1_74, k1_75, k1_76, k1_77, k1_80, k1_81, k1_82, k1_85, k1_88, Option.toList_some, Option.toList_none, List.cons_append, List.nil_append, nl_i, nl_r, nl_l, nl_n, g2, nI_clamp, bnd, ly_34, ly_35, Nat.reduceLT, true_and, and_true, up_ne, nI_add]
            refine ih _ _ ⟨⟨fun k h1 h2 h3 => ?_, ?_, fun i hi => ?_⟩, rfl⟩ _ _
            · simp (disch := omega) only [up_ne]; exact g1 k h1 h2 h3
            · simp (disch := omega) only [up_ne, va_up_s]
            · dsimp only at hi ⊢
              simp (disch := omega) only [up_ne, va_up_s]
              by_cases e : i = (gP c a b s).1
              · subst e; rw [va_up_s, va_up_s, va_up_s, va_up_s]; exact ⟨rfl, rfl⟩
              · rw [va_up_n _ _ e, va_up_n _ _ e, va_up_n _ _ e, va_up_n _ _ e]; exact g3 i (by omega)
    refine outer _ _ ⟨⟨fun k h1 h2 h3 => ?_, ?_, fun i hi => absurd hi (Nat.not_lt_zero _)⟩, rfl⟩ _ _
    · rw [va_up_n _ _ h1]
    · simp (disch := omega) only [va_up_s]; rfl
  obtain ⟨v, I', J', ⟨hG, rfl, rfl⟩, hc2⟩ := Cal_ex main
  exact ⟨I', hG, hc2⟩
set_option maxRecDepth 100000 in
theorem q2 {n : Nat} {f1 f2 : Nat → Int32} (hn : n ≤ 12) (h5 : I 33 5 = nI n) (hf : ∀ i, i < n → I 34 i = f1 i ∧ I 35 i = f2 i) : Cal 2 [.ref 33] I J Q ↔ Q (some (.int (scO f1 f2 n (fun i => i)))) I J := by
  refine Cal_of (fun Q hQ => ?_)
  rw [en2]
  simp (disch := omega) only [k2_0, k2_1, k2_2, k2_3, Option.toList_some, Option.toList_none, List.cons_append, List.nil_append, nl_i, nl_r, nl_l, nl_n]
  have key : ∀ a3 : Option Value, At 2 4 [some (.ref 33), some (.int (sI (Fm f1 f2 (fun i => i)) n 0)), some (.int (nI 0)), a3] [] I J Q := by
    refine loop_dn (N := n) (P := fun p => ∀ a3 : Option Value, At 2 4 [some (.ref 33), some (.int (sI (Fm f1 f2 (fun i => i)) n p)), some (.int (nI p)), a3] [] I J Q) ?_ ?_
    · intro a3
      rw [k2_4]
      simp (disch := omega) only [k2_5, k2_6, k2_9, k2_70, k2_71, h5, nI_leI, Nat.le_refl, ↓reduceIte]
      exact hQ
    · intro p hp ih a3
      have e0 : ¬ n ≤ p := by omega
      unfold sI at ih
      rw [k2_4]
      simp (disch := omega) only [k2_5, k2_6, k2_9, k2_12, k2_13, k2_14, k2_15, Option.toList_some, Option.toList_none, List.cons_append, List.nil_append, nl_i, nl_r, nl_l, nl_n, h5, nI_leI, e0, ↓reduceIte, nI_add]
      have inner : At 2 16 [some (.ref 33), some (.int (sJ (Fm f1 f2 (fun i => i)) p (sI (Fm f1 f2 (fun i => i)) n p) 0)), some (.int (nI p)), some (.int (nI (p + 1 + 0)))] [] I J Q := by
        refine loop_dn (N := n - (p + 1)) (P := fun k => At 2 16 [some (.ref 33), some (.int (sJ (Fm f1 f2 (fun i => i)) p (sI (Fm f1 f2 (fun i => i)) n p) k)), some (.int (nI p)), some (.int (nI (p + 1 + k)))] [] I J Q) ?_ ?_
        · have e1 : n ≤ p + 1 + (n - (p + 1)) := by omega
          rw [k2_16]
          simp (disch := omega) only [k2_17, k2_18, k2_21, k2_64, k2_67, Option.toList_some, Option.toList_none, List.cons_append, List.nil_append, nl_i, nl_r, nl_l, nl_n, h5, nI_leI, e1, ↓reduceIte, nI_add]
          exact ih _
        · intro k hk ihk
          have e1 : ¬ n ≤ p + 1 + k := by omega
          obtain ⟨p1, p2⟩ := hf p hp
          obtain ⟨k1, k2⟩ := hf (p + 1 + k) (by omega)
          unfold sJ at ihk
          rw [k2_16]
          simp (disch := omega) only [k2_17, k2_18, k2_21, k2_24, k2_25, k2_26, k2_29, k2_30, k2_31, k2_32, k2_35, k2_36, k2_37, k2_40, k2_41, k2_44, k2_45, k2_46, k2_47, k2_50, k2_51, k2_52, k2_55, k2_56, k2_57, k2_58, k2_61, Option.toList_some, Option.toList_none, List.cons_append, List.nil_append, nl_i, nl_r, nl_l, nl_n, h5, nI_leI, e1, ↓reduceIte, nI_clamp, bnd, ly_34, ly_35, Nat.reduceLT, true_and, and_true, p1, p2, k1, k2, q13, nI_add]
          exact ihk
      exact inner
  exact key _
theorem scr_ok {n : Nat} {f1 f2 : Nat → Int32} {I I1 : ab_I} (f : ∀ k, k ≠ 36 → k ≠ 37 → I1 k = I k) (h5 : I 33 5 = nI n) (hf : ∀ i, i < n → I 34 i = f1 i ∧ I 35 i = f2 i) : I1 33 5 = nI n ∧ ∀ i, i < n → I1 34 i = f1 i ∧ I1 35 i = f2 i := by
  rw [f 33 (by decide) (by decide), f 34 (by decide) (by decide), f 35 (by decide) (by decide)]
  exact ⟨h5, hf⟩
set_option maxRecDepth 100000 in
theorem q3 {n : Nat} {f1 f2 : Nat → Int32} (h2 : 2 ≤ n) (hn : n ≤ 7) (h5 : I 33 5 = nI n) (hf : ∀ i, i < n → I 34 i = f1 i ∧ I 35 i = f2 i) : ∃ I', (∀ k, ¬ (33 ≤ k ∧ k ≤ 38) → I' k = I k) ∧ ∀ Q : Option Value → ab_I → ab_J → Prop, Cal 3 [.ref 33] I J Q ↔ Q (some (.int (chn f1 f2 n))) I' J := by
  have main : ∀ Q : Option Value → ab_I → ab_J → Prop, (∀ v I' J', ((∀ k, ¬ (33 ≤ k ∧ k ≤ 38) → I' k = I k) ∧ J' = J ∧ v = some (.int (chn f1 f2 n))) → Q v I' J') → Cal 3 [.ref 33] I J Q := by
    intro Q hQ
    rw [en3]
    simp (disch := omega) only [k3_0, k3_1, k3_4, k3_6, k3_12, k3_13, k3_14, k3_17, k3_20, k3_21, k3_22, k3_23, Option.toList_some, Option.toList_none, List.cons_append, List.nil_append, nl_i, nl_r, nl_l, nl_n, h5, nI_leI, hn, ↓reduceIte, q2 (show n ≤ 12 by omega) h5 hf]
    generalize hI1 : va_up I 33 (va_up (I 33) 6 (scO f1 f2 n (fun i => i))) = I1
    have r5 : I1 33 5 = nI n := by rw [← hI1]; simp (disch := omega) only [up_ne, va_up_s]; exact h5
    have r6 : I1 33 6 = scO f1 f2 n (fun i => i) := by rw [← hI1]; simp (disch := omega) only [va_up_s]
    have rf : ∀ i, i < n → I1 34 i = f1 i ∧ I1 35 i = f2 i := by rw [← hI1, up_ne _ _ (by omega), up_ne _ _ (by omega)]; exact hf
    have rk : ∀ k, k ≠ 33 → I1 k = I k := fun k hk => by rw [← hI1, va_up_n _ _ hk]
    have outer : ∀ I2 J2, (J2 = J ∧ (∀ k, k ≠ 36 → k ≠ 37 → I2 k = I1 k) ∧ ∀ i j, i < 0 → j < n → I2 36 (7 * i + j) = sgn (f1 i) (f1 j) ∧ I2 37 (7 * i + j) = sgn (f2 i) (f2 j)) → ∀ a4 : Option Value, At 3 24 [some (.ref 33), some (.long (zL (fac 0))), none, some (.int (nI 0)), a4] [] I2 J2 Q := by
      refine loop_ij (N := n) (P := fun p I2 J2 => ∀ a4 : Option Value, At 3 24 [some (.ref 33), some (.long (zL (fac p))), none, some (.int (nI p)), a4] [] I2 J2 Q) (G := fun p I2 J2 => J2 = J ∧ (∀ k, k ≠ 36 → k ≠ 37 → I2 k = I1 k) ∧ ∀ i j, i < p → j < n → I2 36 (7 * i + j) = sgn (f1 i) (f1 j) ∧ I2 37 (7 * i + j) = sgn (f2 i) (f2 j)) ?_ ?_
      · rintro I2 J2 ⟨rfl, g1, g2⟩ a4
        obtain ⟨t5, tf⟩ := scr_ok g1 r5 rf
        have hD : DS n f1 f2 (scO f1 f2 n (fun i => i)) I2 := ⟨t5, by rw [g1 33 (by decide) (by decide)]; exact r6, fun i j hi hj => g2 i j hi hj⟩
        obtain ⟨d', -, hcal⟩ := q4 (I := I2) (J := J2) (x := nI 0) (u := 0) (o := fun _ => 0) hn (Nat.zero_le _) (by decide) hD (fun q hq => absurd hq (Nat.not_lt_zero _))
        obtain ⟨fb1, fb2⟩ := fac_b hn
        have cl := cnt_le f1 f2 h2 hn
        have o1 : ok ((fac n : Nat) : Int) := okN (by omega)
        have c1 : ¬ zL ((fac n : Nat) : Int) ≤ 0 := by rw [zL_0, zL_le o1 ok_0]; omega
        have c2 : ¬ zL ((fac n : Nat) : Int) = 0 := by rw [zL_0, zL_eq o1 ok_0]; omega
        have ei : (nI (cnt f1 f2 n)).toInt64 = zL (cnt f1 f2 n : Nat) := by rw [nI_l (by omega), lN_zL]
        have ez : (1000000 : Int64) = zL 1000000 := by decide
        rw [k3_24]
        simp (disch := omega) only [k3_25, k3_26, k3_29, k3_119, k3_120, k3_121, k3_122, k3_125, k3_128, k3_129, k3_130, k3_131, k3_132, k3_135, k3_136, k3_137, k3_138, k3_139, k3_140, k3_144, Option.toList_some, Option.toList_none, List.cons_append, List.nil_append, nl_i, nl_r, nl_l, nl_n, t5, nI_leI, Nat.le_refl, ↓reduceIte, lg_cmp_le, c1, c2, not_false_eq_true, true_and, Nat.sub_zero, hcal, dl_cnt, ei, ez]
        refine hQ _ _ _ ⟨fun k hk => ?_, rfl, rfl⟩
        rw [up_ne _ _ (by omega), g1 k (by omega) (by omega), rk k (by omega)]
      · rintro p I2 J2 hp ⟨rfl, g1, g2⟩ ih a4
        obtain ⟨t5, tf⟩ := scr_ok g1 r5 rf
        have e0 : ¬ n ≤ p := by omega
        have eP : (nI (p + 1)).toInt64 = zL ((p + 1 : Nat) : Int) := by rw [nI_l (by omega), lN_zL]
        have eF : zL ((fac p : Nat) : Int) * zL ((p + 1 : Nat) : Int) = zL ((fac (p + 1) : Nat) : Int) := by rw [zL_mul, ← Int.natCast_mul]; rfl
        rw [k3_24]
        simp (disch := omega) only [k3_25, k3_26, k3_29, k3_32, k3_33, k3_34, k3_35, k3_36, k3_37, k3_38, k3_39, k3_40, Option.toList_some, Option.toList_none, List.cons_append, List.nil_append, nl_i, nl_r, nl_l, nl_n, t5, nI_leI, e0, ↓reduceIte, nI_add, eP, eF]
        have inner : ∀ I3 J3, (J3 = J2 ∧ (∀ k, k ≠ 36 → k ≠ 37 → I3 k = I1 k) ∧ (∀ i j, i < p → j < n → I3 36 (7 * i + j) = sgn (f1 i) (f1 j) ∧ I3 37 (7 * i + j) = sgn (f2 i) (f2 j)) ∧ ∀ j, j < 0 → I3 36 (7 * p + j) = sgn (f1 p) (f1 j) ∧ I3 37 (7 * p + j) = sgn (f2 p) (f2 j)) → At 3 42 [some (.ref 33), some (.long (zL (fac (p + 1)))), none, some (.int (nI p)), some (.int (nI 0))] [] I3 J3 Q := by
          refine loop_ij (N := n) (P := fun k I3 J3 => At 3 42 [some (.ref 33), some (.long (zL (fac (p + 1)))), none, some (.int (nI p)), some (.int (nI k))] [] I3 J3 Q) (G := fun k I3 J3 => J3 = J2 ∧ (∀ k, k ≠ 36 → k ≠ 37 → I3 k = I1 k) ∧ (∀ i j, i < p → j < n → I3 36 (7 * i + j) = sgn (f1 i) (f1 j) ∧ I3 37 (7 * i + j) = sgn (f2 i) (f2 j)) ∧ ∀ j, j < k → I3 36 (7 * p + j) = sgn (f1 p) (f1 j) ∧ I3 37 (7 * p + j) = sgn (f2 p) (f2 j)) ?_ ?_
          · rintro I3 J3 ⟨rfl, w1, w2, w3⟩
            obtain ⟨u5, uf⟩ := scr_ok w1 r5 rf
            rw [k3_42]
            simp (disch := omega) only [k3_44, k3_45, k3_48, k3_113, k3_116, Option.toList_some, Option.toList_none, List.cons_append, List.nil_append, nl_i, nl_r, nl_l, nl_n, u5, nI_leI, Nat.le_refl, ↓reduceIte, nI_add]
            refine ih I3 J3 ⟨rfl, w1, fun i j hi hj => ?_⟩ _
            by_cases e : i = p
            · subst e; exact w3 j hj
            · exact w2 i j (by omega) hj
          · rintro k I3 J3 hk ⟨rfl, w1, w2, w3⟩ ihk
            obtain ⟨u5, uf⟩ := scr_ok w1 r5 rf
            obtain ⟨p1, p2⟩ := uf p hp
            obtain ⟨k1, k2⟩ := uf k hk
            have e1 : ¬ n ≤ k := by omega
            rw [k3_42]
            simp (disch := omega) only [k3_44, k3_45, k3_48, k3_51, k3_52, k3_55, k3_57, k3_58, k3_59, k3_61, k3_62, k3_63, k3_66, k3_67, k3_68, k3_69, k3_72, k3_74, k3_75, k3_78, k3_79, k3_80, k3_83, k3_85, k3_86, k3_87, k3_89, k3_90, k3_91, k3_94, k3_95, k3_96, k3_97, k3_100, k3_102, k3_103, k3_106, k3_107, k3_110, Option.toList_some, Option.toList_none, List.cons_append, List.nil_append, nl_i, nl_r, nl_l, nl_n, u5, nI_leI, e1, ↓reduceIte, pk_mul, nI_add, nI_clamp, bnd, ly_34, ly_35, ly_36, ly_37, Nat.reduceLT, true_and, and_true, up_ne, p1, p2, k1, k2, q13]
            refine ihk _ _ ⟨rfl, fun j h1 h2 => ?_, fun i j hi hj => ?_, fun j hj => ?_⟩
            · rw [va_up_n _ _ h2, va_up_n _ _ h1]; exact w1 j h1 h2
            · simp (disch := omega) only [up_ne, va_up_s]; exact w2 i j hi hj
            · simp (disch := omega) only [up_ne, va_up_s]
              by_cases e : j = k
              · subst e; rw [va_up_s, va_up_s]; exact ⟨rfl, rfl⟩
              · rw [va_up_n _ _ (by omega), va_up_n _ _ (by omega)]; exact w3 j (by omega)
        exact inner I2 J2 ⟨rfl, g1, g2, fun j hj => absurd hj (Nat.not_lt_zero _)⟩
    exact outer I1 J ⟨rfl, fun _ _ _ => rfl, fun i j hi => absurd hi (Nat.not_lt_zero _)⟩ _
  obtain ⟨v, I', J', ⟨hG, rfl, rfl⟩, hc2⟩ := Cal_ex main
  exact ⟨I', hG, hc2⟩
set_option maxRecDepth 100000 in
theorem q99 (hR : RC σ I J) : ∃ I' J', (RC σ I' J' ∧ CF I J I' J') ∧ ∀ Q : Option Value → ab_I → ab_J → Prop, Cal 99 [.ref 0, .int x, .int x1, .int x2] I J Q ↔ Q (some (.int (aAgree (cc σ.1) x x1 x2))) I' J' := by
  by_cases hb : inr x 4 = true ∧ inr x1 4 = true ∧ x ≠ x1 ∧ inr x2 2 = true
  · obtain ⟨hb1, hb2, hb3, hb4⟩ := id hb
    obtain ⟨a, ha, rfl⟩ := inr_nI hb1
    obtain ⟨b, hbl, rfl⟩ := inr_nI hb2
    obtain ⟨I1, J1, ⟨h1, hS, h3⟩, hcal⟩ := st110 hR
    obtain ⟨I2, ⟨g1, g2, g3⟩, hcal2⟩ := q1 (J := J1) (a := a) (b := b) hS.2.1.1 ha hbl
    have nl := gP_le (cc σ.1) a b 12
    have hR2 : RC σ I2 J1 := RC_scr h1 (fun k hk => g1 k (by omega) (by omega) (by omega))
    have hf2 : CF I J I2 J1 := CF_trans h3 ⟨fun k hk => g1 k (by omega) (by omega) (by omega), fun j _ => by rw [g1 0 (by omega) (by omega) (by omega)], fun _ _ => rfl⟩
    rw [show aAgree (cc σ.1) (nI a) (nI b) x2 = _ from if_pos hb, tN_nI (show a < 2 ^ 31 by omega), tN_nI (show b < 2 ^ 31 by omega)]
    generalize gP (cc σ.1) a b 12 = z at *
    by_cases q1 : z.1 < 2
    · refine ⟨I2, J1, ⟨hR2, hf2⟩, fun Q => ?_⟩
      have q1' : ¬ 2 ≤ z.1 := by omega
      rw [if_pos q1, en99]
      simp (disch := omega) only [k99_0, k99_1, k99_4, k99_7, k99_8, k99_11, k99_14, k99_15, k99_16, k99_19, k99_20, k99_23, k99_26, k99_28, k99_29, k99_30, k99_33, k99_34, k99_37, k99_38, k99_41, k99_42, k99_43, k99_46, k99_47, k99_50, k99_53, k99_54, k99_57, k99_59, k99_60, k99_61, k99_64, k99_65, k99_68, k99_71, k99_72, k99_73, k99_76, k99_79, k99_81, k99_84, k99_86, k99_89, k99_90, k99_93, k99_96, Option.toList_some, Option.toList_none, List.cons_append, List.nil_append, nl_i, nl_r, nl_l, nl_n, c117, c120, hb1, hb2, hb3, hb4, bI_0, Bool.true_eq_false, not_false_eq_true, ↓reduceIte, hcal, hcal2, g2, nI_leI, q1']
    · have q1' : 2 ≤ z.1 := by omega
      rw [if_neg q1]
      rcases inr2.mp hb4 with r | r
      · subst r
        refine ⟨I2, J1, ⟨hR2, hf2⟩, fun Q => ?_⟩
        rw [if_pos rfl, en99]
        simp (disch := omega) only [k99_0, k99_1, k99_4, k99_7, k99_8, k99_11, k99_14, k99_15, k99_16, k99_19, k99_20, k99_23, k99_26, k99_28, k99_29, k99_30, k99_33, k99_34, k99_37, k99_38, k99_41, k99_42, k99_43, k99_46, k99_47, k99_50, k99_53, k99_54, k99_57, k99_59, k99_60, k99_61, k99_64, k99_65, k99_68, k99_71, k99_72, k99_73, k99_76, k99_79, k99_81, k99_84, k99_86, k99_89, k99_90, k99_93, k99_96, Option.toList_some, Option.toList_none, List.cons_append, List.nil_append, nl_i, nl_r, nl_l, nl_n, c117, c120, hb1, hb2, hb3, hb4, bI_0, Bool.true_eq_false, not_false_eq_true, not_true_eq_false, ↓reduceIte, hcal, hcal2, g2, nI_leI, q1', n00', q2 nl g2 g3]
      · subst r
        rw [if_neg (by decide)]
        by_cases q7 : 7 < z.1
        · have q7' : ¬ z.1 ≤ 7 := by omega
          refine ⟨I2, J1, ⟨hR2, hf2⟩, fun Q => ?_⟩
          rw [if_pos q7, en99]
          simp (disch := omega) only [k99_0, k99_1, k99_4, k99_7, k99_8, k99_11, k99_14, k99_15, k99_16, k99_19, k99_20, k99_23, k99_26, k99_28, k99_29, k99_30, k99_33, k99_34, k99_37, k99_38, k99_41, k99_42, k99_43, k99_46, k99_47, k99_50, k99_53, k99_54, k99_57, k99_59, k99_60, k99_61, k99_64, k99_65, k99_68, k99_71, k99_72, k99_73, k99_76, k99_79, k99_81, k99_84, k99_86, k99_89, k99_90, k99_93, k99_96, Option.toList_some, Option.toList_none, List.cons_append, List.nil_append, nl_i, nl_r, nl_l, nl_n, c117, c120, hb1, hb2, hb3, hb4, bI_0, Bool.true_eq_false, not_false_eq_true, not_true_eq_false, ↓reduceIte, hcal, hcal2, g2, nI_leI, q1', n10', q7']
        · have q7' : z.1 ≤ 7 := by omega
          obtain ⟨I3, k1, hcal3⟩ := q3 (J := J1) q1' q7' g2 g3
          refine ⟨I3, J1, ⟨RC_scr hR2 (fun k hk => k1 k (by omega)), CF_trans hf2 ⟨fun k hk => k1 k (by omega), fun j _ => by rw [k1 0 (by omega)], fun _ _ => rfl⟩⟩, fun Q => ?_⟩
          rw [if_neg q7, en99]
          simp (disch := omega) only [k99_0, k99_1, k99_4, k99_7, k99_8, k99_11, k99_14, k99_15, k99_16, k99_19, k99_20, k99_23, k99_26, k99_28, k99_29, k99_30, k99_33, k99_34, k99_37, k99_38, k99_41, k99_42, k99_43, k99_46, k99_47, k99_50, k99_53, k99_54, k99_57, k99_59, k99_60, k99_61, k99_64, k99_65, k99_68, k99_71, k99_72, k99_73, k99_76, k99_79, k99_81, k99_84, k99_86, k99_89, k99_90, k99_93, k99_96, Option.toList_some, Option.toList_none, List.cons_append, List.nil_append, nl_i, nl_r, nl_l, nl_n, c117, c120, hb1, hb2, hb3, hb4, bI_0, Bool.true_eq_false, not_false_eq_true, not_true_eq_false, ↓reduceIte, hcal, hcal2, g2, nI_leI, q1', n10', q7', hcal3]
  · refine ⟨I, J, ⟨hR, CF_refl⟩, fun Q => ?_⟩
    rw [en99, show aAgree (cc σ.1) x x1 x2 = _ from if_neg hb]
    cases q1 : inr x 4
    · simp only [k99_0, k99_1, k99_4, k99_7, k99_8, k99_11, k99_14, k99_15, k99_16, k99_19, k99_20, k99_23, k99_26, k99_28, k99_29, k99_30, k99_33, k99_34, k99_37, k99_38, k99_41, k99_42, k99_43, k99_46, k99_47, k99_50, k99_53, k99_54, k99_57, k99_59, k99_60, k99_61, k99_64, k99_65, k99_68, k99_71, k99_72, k99_73, k99_76, k99_79, k99_81, k99_84, k99_86, k99_89, k99_90, k99_93, k99_96, Option.toList_some, Option.toList_none, List.cons_append, List.nil_append, nl_i, nl_r, nl_l, nl_n, c117, q1, bI_0, ↓reduceIte]
    · cases q2 : inr x1 4
      · simp only [k99_0, k99_1, k99_4, k99_7, k99_8, k99_11, k99_14, k99_15, k99_16, k99_19, k99_20, k99_23, k99_26, k99_28, k99_29, k99_30, k99_33, k99_34, k99_37, k99_38, k99_41, k99_42, k99_43, k99_46, k99_47, k99_50, k99_53, k99_54, k99_57, k99_59, k99_60, k99_61, k99_64, k99_65, k99_68, k99_71, k99_72, k99_73, k99_76, k99_79, k99_81, k99_84, k99_86, k99_89, k99_90, k99_93, k99_96, Option.toList_some, Option.toList_none, List.cons_append, List.nil_append, nl_i, nl_r, nl_l, nl_n, c117, q1, q2, bI_0, Bool.true_eq_false, ↓reduceIte]
      · by_cases q3 : x = x1
        · simp only [k99_0, k99_1, k99_4, k99_7, k99_8, k99_11, k99_14, k99_15, k99_16, k99_19, k99_20, k99_23, k99_26, k99_28, k99_29, k99_30, k99_33, k99_34, k99_37, k99_38, k99_41, k99_42, k99_43, k99_46, k99_47, k99_50, k99_53, k99_54, k99_57, k99_59, k99_60, k99_61, k99_64, k99_65, k99_68, k99_71, k99_72, k99_73, k99_76, k99_79, k99_81, k99_84, k99_86, k99_89, k99_90, k99_93, k99_96, Option.toList_some, Option.toList_none, List.cons_append, List.nil_append, nl_i, nl_r, nl_l, nl_n, c117, q1, q2, bI_0, Bool.true_eq_false, q3, ↓reduceIte]
        · cases q4 : inr x2 2
          · simp only [k99_0, k99_1, k99_4, k99_7, k99_8, k99_11, k99_14, k99_15, k99_16, k99_19, k99_20, k99_23, k99_26, k99_28, k99_29, k99_30, k99_33, k99_34, k99_37, k99_38, k99_41, k99_42, k99_43, k99_46, k99_47, k99_50, k99_53, k99_54, k99_57, k99_59, k99_60, k99_61, k99_64, k99_65, k99_68, k99_71, k99_72, k99_73, k99_76, k99_79, k99_81, k99_84, k99_86, k99_89, k99_90, k99_93, k99_96, Option.toList_some, Option.toList_none, List.cons_append, List.nil_append, nl_i, nl_r, nl_l, nl_n, c117, c120, q1, q2, q3, q4, bI_0, Bool.true_eq_false, not_true_eq_false, ↓reduceIte]
          · exact absurd ⟨q1, q2, q3, q4⟩ hb
end AGD
