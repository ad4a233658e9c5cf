/-! CONTRACTS: look, add, clear, letterFor -/
/-- the laws as read -/
def LawsOK (z : Nat × (Nat → Nat) × (Nat → Nat) × Int32) (I : ab_I) : Prop := z.1 ≤ 6 ∧ I 39 4 = nI z.1 ∧ LTR z.2.1 z.2.2.1 z.1 (I 41) (I 42) ∧ I 39 6 = z.2.2.2
/-- only the laws' own places may be others -/
def LFr (I I' : ab_I) : Prop := (∀ k, k ≠ 39 → k ≠ 41 → k ≠ 42 → I' k = I k) ∧ I' 39 3 = I 39 3
section LAWSC
variable {I : ab_I} {J : ab_J} {Q : Option Value → ab_I → ab_J → Prop} {x x1 x2 : Int32} {u : Int64}
set_option maxRecDepth 100000 in
theorem l45 {ln : Nat} {I0 : ab_I} (hl : ln ≤ 60) (h0 : I0 39 3 = nI ln) (hby : BY ln (I0 40)) : ∀ (f i a : Nat) (lt fl : Nat → Nat) (I : ab_I), i + f = 7 → LFr I0 I → I 39 5 = nI a → a ≤ 8 * i → I 39 4 = nI i → I 39 6 = -1 → i ≤ lwF i lt → LTR lt fl i (I 41) (I 42) → (∀ I', LFr I0 I' → LawsOK (plp (btF ln (I0 40)) ln f a i lt fl) I' → Q none I' J) → At 45 19 [some (.ref 39), some (.int (nI 1)), some (.int (nI i))] [] I J Q
  | 0, i, a, lt, fl, I, hf, hF, hat, ha, hp, h6, hlw, hA, hQ => by
    exfalso
    have e : i = 7 := by omega
    subst e
    have := (hA 6 (by omega)).1.2
    have : lwF 7 lt = lt 6 + 1 := lwF_s
    omega
  | f + 1, i, a, lt, fl, I, hf, hF, hat, ha, hp, h6, hlw, hA, hQ => by
    obtain ⟨F1, F2⟩ := id hF
    have h : I 39 3 = nI ln := by rw [F2]; exact h0
    have e40 : I 40 = I0 40 := F1 40 (by decide) (by decide) (by decide)
    have e0 : ¬ 6 < i := by omega
    have hf' := ppt_f (bt := btF ln (I0 40)) (p := a) (lw := lwF i lt) (pv := pvF i fl)
    have fin : ∀ I' : ab_I, LFr I0 I' → LawsOK (plp (btF ln (I0 40)) ln (f + 1) a i lt fl) I' → ∀ k, k ≤ 7 → At 45 19 [some (.ref 39), some (.int (nI 0)), some (.int (nI k))] [] I' J Q := by
      intro I' q1 q2 k hk
      simp (disch := omega) only [k45_19, k45_20, k45_22, nI_ltI]
      split
      · simp (disch := omega) only [k45_40]
        exact hQ I' q1 q2
      · simp (disch := omega) only [k45_25, k45_26, k45_40, eq0, ↓reduceIte]
        exact hQ I' q1 q2
    rw [k45_19]
    simp (disch := omega) only [k45_20, k45_22, k45_25, k45_26, k45_29, k45_30, nI_ltI, e0, ↓reduceIte, eq0, Nat.one_ne_zero]
    refine c46 (ln := ln) (a := a) (p := i) (lt := lt) (fl := fl) (r := ppt (btF ln (I0 40)) a (lwF i lt) (pvF i fl)) h hl (by rw [e40]; exact hby) hat (by omega) hp (by omega) hlw hA (by rw [e40]) ?_ ?_ ?_ ?_
    · intro r1 a'
      simp (disch := omega) only [Option.toList_some, Option.toList_none, List.cons_append, List.nil_append, nl_i, nl_r, nl_l, nl_n, k45_33, k45_34, k45_37, nI_add]
      refine fin _ ⟨fun k g1 g2 g3 => ?_, ?_⟩ ?_ _ (by omega)
      · rw [va_up_n _ _ g1]; exact F1 k g1 g2 g3
      · simp (disch := omega) only [va_up_s, up_ne]; exact F2
      · unfold plp
        rw [if_pos r1]
        refine ⟨by dsimp only; omega, ?_, ?_, ?_⟩
        · simp (disch := omega) only [va_up_s, up_ne]; exact hp
        · simp (disch := omega) only [up_ne]; exact hA
        · simp (disch := omega) only [va_up_s]
    · intro r1 r2
      obtain ⟨⟨f1, f2⟩, f3⟩ := hf'.2 r1
      simp (disch := omega) only [Option.toList_some, Option.toList_none, List.cons_append, List.nil_append, nl_i, nl_r, nl_l, nl_n, k45_33, k45_34, k45_37, nI_add]
      refine fin _ ⟨fun k g1 g2 g3 => ?_, ?_⟩ ?_ _ (by omega)
      · rw [va_up_n _ _ g3, va_up_n _ _ g2, va_up_n _ _ g1]; exact F1 k g1 g2 g3
      · simp (disch := omega) only [va_up_s, up_ne]; exact F2
      · unfold plp
        rw [if_neg (by rw [r1]; simp), if_pos r2]
        refine ⟨by dsimp only; omega, ?_, ?_, ?_⟩
        · simp (disch := omega) only [va_up_s, up_ne]
        · simp (disch := omega) only [va_up_s, up_ne]; exact LTR_up hA f2 f3
        · simp (disch := omega) only [va_up_s, up_ne]; exact h6
    · intro r1 r2 r3
      rw [e40] at r3
      obtain ⟨⟨f1, f2⟩, f3⟩ := hf'.2 r1
      simp (disch := omega) only [Option.toList_some, Option.toList_none, List.cons_append, List.nil_append, nl_i, nl_r, nl_l, nl_n, k45_33, k45_34, k45_37, nI_add]
      refine fin _ ⟨fun k g1 g2 g3 => ?_, ?_⟩ ?_ _ (by omega)
      · rw [va_up_n _ _ g3, va_up_n _ _ g2, va_up_n _ _ g1]; exact F1 k g1 g2 g3
      · simp (disch := omega) only [va_up_s, up_ne]; exact F2
      · unfold plp
        rw [if_neg (by rw [r1]; simp), if_neg r2, if_pos r3]
        refine ⟨by dsimp only; omega, ?_, ?_, ?_⟩
        · simp (disch := omega) only [va_up_s, up_ne]
        · simp (disch := omega) only [va_up_s, up_ne]; exact LTR_up hA f2 f3
        · simp (disch := omega) only [va_up_s, up_ne]
    · intro r1 r2 r3
      rw [e40] at r3
      obtain ⟨⟨f1, f2⟩, f3⟩ := hf'.2 r1
      simp (disch := omega) only [Option.toList_some, Option.toList_none, List.cons_append, List.nil_append, nl_i, nl_r, nl_l, nl_n, k45_33, k45_34, k45_37, nI_add]
      refine l45 hl h0 hby f (i + 1) ((ppt (btF ln (I0 40)) a (lwF i lt) (pvF i fl)).2.1 + 1) (va_up lt i (ppt (btF ln (I0 40)) a (lwF i lt) (pvF i fl)).2.2.1) (va_up fl i (ppt (btF ln (I0 40)) a (lwF i lt) (pvF i fl)).2.2.2) _ (by omega) ⟨fun k g1 g2 g3 => ?_, ?_⟩ ?_ (by omega) ?_ ?_ ?_ ?_ (fun I' q1 q2 => hQ I' q1 ?_)
      · rw [va_up_n _ _ g3, va_up_n _ _ g2, va_up_n _ _ g1]; exact F1 k g1 g2 g3
      · simp (disch := omega) only [va_up_s, up_ne]; exact F2
      · simp (disch := omega) only [va_up_s, up_ne]
      · simp (disch := omega) only [va_up_s, up_ne]
      · simp (disch := omega) only [va_up_s, up_ne]; exact h6
      · rw [lwF_s, va_up_s]; omega
      · simp (disch := omega) only [va_up_s, up_ne]; exact LTR_up hA f2 f3
      · unfold plp
        rw [if_neg (by rw [r1]; simp), if_neg r2, if_neg (fun w => w r3)]
        exact q2
theorem c45 {ln : Nat} (h : I 39 3 = nI ln) (hl : ln ≤ 60) (hby : BY ln (I 40)) : ∃ I', (LFr I I' ∧ LawsOK (prs ln (I 40)) I') ∧ ∀ Q : Option Value → ab_I → ab_J → Prop, Cal 45 [.ref 39] I J Q ↔ Q none I' J := by
  have main : ∀ Q : Option Value → ab_I → ab_J → Prop, (∀ v I' J', ((LFr I I' ∧ LawsOK (prs ln (I 40)) I') ∧ v = none ∧ J' = J) → Q v I' J') → Cal 45 [.ref 39] I J Q := by
    intro Q hQ
    rw [en45]
    simp (disch := omega) only [k45_0, k45_1, k45_2, k45_5, k45_6, k45_7, k45_10, k45_11, k45_12, k45_15, k45_16, k45_17, k45_18, Option.toList_some, Option.toList_none, List.cons_append, List.nil_append, nl_i, nl_r, nl_l, nl_n, va_up_s, up_same]
    refine l45 (I0 := I) hl h hby 7 0 0 (fun _ => 0) (fun _ => 0) _ rfl ⟨fun k g1 g2 g3 => ?_, ?_⟩ ?_ (by omega) ?_ ?_ (by omega) (fun i hi => by omega) (fun I' q1 q2 => hQ _ _ _ ⟨⟨q1, q2⟩, rfl, rfl⟩)
    · rw [va_up_n _ _ g1]
    · simp (disch := omega) only [va_up_s, up_ne]
    · simp (disch := omega) only [va_up_s, up_ne]
    · simp (disch := omega) only [va_up_s, up_ne]
    · simp (disch := omega) only [va_up_s, up_ne]
  obtain ⟨v, I', J', ⟨hG, rfl, rfl⟩, hc2⟩ := Cal_ex main
  exact ⟨I', hG, hc2⟩
/-- the grade: the first part whose floor is reached -/
def grF (lt : Nat → Nat) (f : Nat → Bool) : Nat → Nat → Nat
  | 0, _ => 6
  | n + 1, i => if f i then lt i else grF lt f n (i + 1)
/-- whether a floor is reached by a by b and t tenths -/
def rch (a b : Int) (t : Int) (x : Nat) : Bool := decide ((x : Int) * b ≤ 10 * a + t * b)
theorem rch_mul {K a b t : Int} {x : Nat} (hK : 0 < K) : rch (K * a) (K * b) t x = rch a b t x := by
  unfold rch
  rw [decide_eq_decide]
  have e1 : (x : Int) * (K * b) = K * (x * b) := by ac_rfl
  have e2 : 10 * (K * a) + t * (K * b) = K * (10 * a + t * b) := by rw [Int.mul_add]; congr 1 <;> ac_rfl
  rw [e1, e2]
  exact ⟨fun h => Int.le_of_mul_le_mul_left h hK, fun h => Int.mul_le_mul_of_nonneg_left h (Int.le_of_lt hK)⟩
def grd (z : Nat × (Nat → Nat) × (Nat → Nat) × Int32) (a b t : Int) : Nat := grF z.2.1 (fun i => rch a b t (z.2.2.1 i)) z.1 0
theorem zL_10 : (10 : Int64) = zL 10 := by decide
set_option maxRecDepth 100000 in
theorem c51 {z : Nat × (Nat → Nat) × (Nat → Nat) × Int32} {a b t : Int} {B : Nat} (hz : LawsOK z I) (ha : bd a B) (hb : bd b B) (hB : B ≤ 100000000000) (ht : x.toInt = t) (ht2 : bd t 1000) : Cal 51 [.ref 39, .long (zL a), .long (zL b), .int x] I J Q ↔ Q (some (.int (nI (grd z a b t)))) I J := by
  obtain ⟨h6, hp, hA, -⟩ := hz
  refine Cal_of (fun Q hQ => ?_)
  rw [en51]
  simp only [k51_0, k51_1, Option.toList_some, Option.toList_none, List.cons_append, List.nil_append, nl_i, nl_r, nl_l, nl_n]
  unfold grd at hQ
  have key : ∀ (n i : Nat), i + n = z.1 → Q (some (.int (nI (grF z.2.1 (fun i => rch a b t (z.2.2.1 i)) n i)))) I J → At 51 3 [some (.ref 39), some (.long (zL a)), none, some (.long (zL b)), none, some (.int x), some (.int (nI i))] [] I J Q := by
    intro n
    induction n with
    | zero =>
      intro i hi hQ
      have e0 : z.1 ≤ i := by omega
      rw [k51_3]
      simp (disch := omega) only [k51_5, k51_6, k51_9, k51_51, k51_53, hp, nI_leI, e0, ↓reduceIte]
      exact hQ
    | succ n ih =>
      intro i hi hQ
      have e0 : ¬ z.1 ≤ i := by omega
      obtain ⟨⟨hA1, hA2⟩, hA3, hA4⟩ := hA i (by omega)
      have o1 : ok (10 * a + t * b) := bd_ok (bd_add (bd_mul (A := 10) (by unfold bd; omega) ha) (bd_mul ht2 hb)) (by omega)
      have o2 : ok ((z.2.2.1 i : Int) * b) := bd_ok (bd_mul (A := 1000) (by unfold bd; omega) hb) (by omega)
      have ei : (nI (z.2.2.1 i)).toInt64 = zL (z.2.2.1 i : Nat) := by rw [nI_l (by omega), lN_zL]
      have ex : x.toInt64 = zL t := by rw [i2l_zL, ht]
      rw [k51_3]
      simp (disch := omega) only [k51_5, k51_6, k51_9, k51_12, k51_15, k51_16, k51_17, k51_19, k51_20, k51_21, k51_22, k51_23, k51_24, k51_27, k51_29, k51_30, k51_31, k51_32, k51_33, k51_34, Option.toList_some, Option.toList_none, List.cons_append, List.nil_append, nl_i, nl_r, nl_l, nl_n, hp, nI_leI, e0, ↓reduceIte, nI_clamp, bnd, ly_42, Nat.reduceLT, true_and, and_true, hA3, ei, ex, zL_10, zL_mul, zL_add, lg_cmp_lt]
      have el : (zL (10 * a + t * b) < zL ((z.2.2.1 i : Int) * b)) = (10 * a + t * b < (z.2.2.1 i : Int) * b) := zL_lt o1 o2
      unfold grF at hQ
      by_cases q : 10 * a + t * b < (z.2.2.1 i : Int) * b
      · rw [if_pos (el.mpr q)]
        have e1 : rch a b t (z.2.2.1 i) = false := decide_eq_false (by omega)
        rw [e1] at hQ
        simp (disch := omega) only [k51_45, k51_48, Option.toList_some, Option.toList_none, List.cons_append, List.nil_append, nl_i, nl_r, nl_l, nl_n, nI_add]
        exact ih (i + 1) (by omega) hQ
      · rw [if_neg (fun w => q (el.mp w))]
        have e1 : rch a b t (z.2.2.1 i) = true := decide_eq_true (by omega)
        rw [e1] at hQ
        simp (disch := omega) only [k51_37, k51_38, k51_41, k51_43, k51_44, nI_clamp, bnd, ly_41, Nat.reduceLT, true_and, and_true, hA1]
        exact hQ
  exact key z.1 0 (by omega) hQ
end LAWSC
