/-! THE GRADES' TEXT, whole -/
def ppt (bt : Nat → Int32) (p lw pv : Nat) : Bool × Nat × Nat × Nat := if ¬ ((lw : Int) ≤ (bt p).toInt - 65 ∧ (bt p).toInt - 65 ≤ 5) then (false, p, 0, 0) else if ¬ bt (p + 1) = nI 61 then (false, p + 1, 0, 0) else ((pnm bt (p + 1 + 1) pv).1, (pnm bt (p + 1 + 1) pv).2.1, ((bt p).toInt - 65).toNat, (pnm bt (p + 1 + 1) pv).2.2)
def lwF (p : Nat) (lt : Nat → Nat) : Nat := if p = 0 then 0 else lt (p - 1) + 1
def pvF (p : Nat) (fl : Nat → Nat) : Nat := if p = 0 then 2000 else fl (p - 1)
/-- parts, letters, floors, fault -/
def plp (bt : Nat → Int32) (ln : Nat) : Nat → Nat → Nat → (Nat → Nat) → (Nat → Nat) → Nat × (Nat → Nat) × (Nat → Nat) × Int32
  | 0, _, p, lt, fl => (p, lt, fl, -1)
  | f + 1, a, p, lt, fl => if (ppt bt a (lwF p lt) (pvF p fl)).1 = false then (p, lt, fl, nI (ppt bt a (lwF p lt) (pvF p fl)).2.1) else if (ppt bt a (lwF p lt) (pvF p fl)).2.1 = ln then (p + 1, va_up lt p (ppt bt a (lwF p lt) (pvF p fl)).2.2.1, va_up fl p (ppt bt a (lwF p lt) (pvF p fl)).2.2.2, -1) else if ¬ bt (ppt bt a (lwF p lt) (pvF p fl)).2.1 = nI 59 then (p + 1, va_up lt p (ppt bt a (lwF p lt) (pvF p fl)).2.2.1, va_up fl p (ppt bt a (lwF p lt) (pvF p fl)).2.2.2, nI (ppt bt a (lwF p lt) (pvF p fl)).2.1) else plp bt ln f ((ppt bt a (lwF p lt) (pvF p fl)).2.1 + 1) (p + 1) (va_up lt p (ppt bt a (lwF p lt) (pvF p fl)).2.2.1) (va_up fl p (ppt bt a (lwF p lt) (pvF p fl)).2.2.2)
/-- what the text says -/
def prs (ln : Nat) (tx : Nat → Int32) : Nat × (Nat → Nat) × (Nat → Nat) × Int32 := plp (btF ln tx) ln 7 0 0 (fun _ => 0) (fun _ => 0)
theorem btF_cg {ln : Nat} {tx tx' : Nat → Int32} (h : ∀ i, i < ln → tx i = tx' i) : btF ln tx = btF ln tx' := by
  funext p
  unfold btF
  split
  · exact h p (by assumption)
  · rfl
theorem pnm_f {bt : Nat → Int32} {st pv : Nat} : (pnm bt st pv).2.1 ≤ st + 5 ∧ ((pnm bt st pv).1 = true → (pnm bt st pv).2.2 ≤ 1000) := by
  have h := fgs_le bt st
  have pf : ∀ t pos, pos ≤ st + 5 → (pnf st pv t pos).2.1 ≤ st + 5 ∧ ((pnf st pv t pos).1 = true → (pnf st pv t pos).2.2 ≤ 1000) := by
    intro t pos hp
    unfold pnf
    split
    · exact ⟨by dsimp only; omega, fun q => by cases q⟩
    · exact ⟨hp, fun _ => by dsimp only; omega⟩
  unfold pnm
  split
  · exact ⟨by dsimp only; omega, fun q => by cases q⟩
  · split
    · split
      · exact pf _ _ (by omega)
      · exact ⟨by dsimp only; omega, fun q => by cases q⟩
    · exact pf _ _ (by omega)
/-- a part that may stand -/
theorem ppt_f {bt : Nat → Int32} {p lw pv : Nat} : (ppt bt p lw pv).2.1 ≤ p + 7 ∧ ((ppt bt p lw pv).1 = true → (lw ≤ (ppt bt p lw pv).2.2.1 ∧ (ppt bt p lw pv).2.2.1 ≤ 5) ∧ (ppt bt p lw pv).2.2.2 ≤ 1000) := by
  have h := pnm_f (bt := bt) (st := p + 1 + 1) (pv := pv)
  unfold ppt
  split
  · exact ⟨by dsimp only; omega, fun q => by cases q⟩
  · rename_i q
    split
    · exact ⟨by dsimp only; omega, fun q => by cases q⟩
    · refine ⟨by dsimp only; omega, fun w => ⟨?_, h.2 w⟩⟩
      dsimp only
      omega
/-- bytes are 0 .. 255 -/
def BY (ln : Nat) (tx : Nat → Int32) : Prop := ∀ i, i < ln → 0 ≤ (tx i).toInt ∧ (tx i).toInt ≤ 255
theorem bt_sub {ln : Nat} {tx : Nat → Int32} (h : BY ln tx) (p : Nat) : (btF ln tx p - nI 65).toInt = (btF ln tx p).toInt - 65 ∧ -1 ≤ (btF ln tx p).toInt := by
  unfold btF
  split
  · rename_i q
    obtain ⟨h1, h2⟩ := h p q
    obtain ⟨k, hk, e⟩ := inr_nI (x := tx p) (n := 256) (inr_t.mpr (by omega))
    rw [e, nI_toInt (by omega), pk_sub_toInt (by omega) (by omega)]
    exact ⟨rfl, by omega⟩
  · decide
/-- the letters and floors of p parts, as the arrays have them -/
def LTR (lt fl : Nat → Nat) (p : Nat) (A B : Nat → Int32) : Prop := ∀ i, i < p → (A i = nI (lt i) ∧ lt i ≤ 5) ∧ B i = nI (fl i) ∧ fl i ≤ 1000
theorem LTR_up {lt fl : Nat → Nat} {p l t : Nat} {A B : Nat → Int32} (h : LTR lt fl p A B) (hl : l ≤ 5) (ht : t ≤ 1000) : LTR (va_up lt p l) (va_up fl p t) (p + 1) (va_up A p (nI l)) (va_up B p (nI t)) := by
  intro i hi
  by_cases e : i = p
  · subst e
    rw [va_up_s, va_up_s, va_up_s, va_up_s]
    exact ⟨⟨rfl, hl⟩, rfl, ht⟩
  · rw [va_up_n _ _ e, va_up_n _ _ e, va_up_n _ _ e, va_up_n _ _ e]
    exact h i (by omega)
theorem lwF_s {p : Nat} {lt : Nat → Nat} : lwF (p + 1) lt = lt p + 1 := by unfold lwF; rw [if_neg (by omega)]; rfl
theorem plp_le {bt : Nat → Int32} {ln : Nat} : ∀ f a p lt fl, p + f ≤ 7 → p ≤ lwF p lt → p ≤ 6 → (plp bt ln f a p lt fl).1 ≤ 6
  | 0, _, _, _, _, _, _, h6 => h6
  | f + 1, a, p, lt, fl, hf, hlw, h6 => by
    have h := ppt_f (bt := bt) (p := a) (lw := lwF p lt) (pv := pvF p fl)
    unfold plp
    split
    · exact h6
    · rename_i q
      have h2 := h.2 (by simpa using q)
      split
      · dsimp only; omega
      · split
        · dsimp only; omega
        · refine plp_le f _ _ _ _ (by omega) ?_ (by omega)
          rw [lwF_s, va_up_s]
          omega
section LAWSB
variable {I : ab_I} {J : ab_J} {Q : Option Value → ab_I → ab_J → Prop} {x x1 x2 : Int32} {u : Int64}
set_option maxRecDepth 100000 in
theorem c46 {ln a p : Nat} {lt fl : Nat → Nat} {r : Bool × Nat × Nat × Nat} (h : I 39 3 = nI ln) (hl : ln ≤ 60) (hby : BY ln (I 40)) (hat : I 39 5 = nI a) (ha : a < 300) (hp : I 39 4 = nI p) (hp6 : p ≤ 6) (hlw : p ≤ lwF p lt) (hA : LTR lt fl p (I 41) (I 42)) (hr : r = ppt (btF ln (I 40)) a (lwF p lt) (pvF p fl))
    (k1 : r.1 = false → ∀ a', Q (some (.int (nI 0))) (va_up I 39 (va_up (va_up (I 39) 5 a') 6 (nI r.2.1))) J)
    (k2 : r.1 = true → r.2.1 = ln → Q (some (.int (nI 0))) (va_up (va_up (va_up I 39 (va_up (va_up (I 39) 4 (nI (p + 1))) 5 (nI r.2.1))) 41 (va_up (I 41) p (nI r.2.2.1))) 42 (va_up (I 42) p (nI r.2.2.2))) J)
    (k3 : r.1 = true → ¬ r.2.1 = ln → ¬ btF ln (I 40) r.2.1 = nI 59 → Q (some (.int (nI 0))) (va_up (va_up (va_up I 39 (va_up (va_up (va_up (I 39) 4 (nI (p + 1))) 5 (nI r.2.1)) 6 (nI r.2.1))) 41 (va_up (I 41) p (nI r.2.2.1))) 42 (va_up (I 42) p (nI r.2.2.2))) J)
    (k4 : r.1 = true → ¬ r.2.1 = ln → btF ln (I 40) r.2.1 = nI 59 → Q (some (.int (nI 1))) (va_up (va_up (va_up I 39 (va_up (va_up (I 39) 4 (nI (p + 1))) 5 (nI (r.2.1 + 1)))) 41 (va_up (I 41) p (nI r.2.2.1))) 42 (va_up (I 42) p (nI r.2.2.2))) J) : Cal 46 [.ref 39] I J Q := by
  obtain ⟨bs1, bs2⟩ := bt_sub hby a
  have hf := ppt_f (bt := btF ln (I 40)) (p := a) (lw := lwF p lt) (pv := pvF p fl)
  rw [← hr] at hf
  have hlw5 : lwF p lt ≤ 6 := by
    unfold lwF
    split
    · omega
    · have := (hA (p - 1) (by omega)).1.2; omega
  rw [en46]
  simp (disch := omega) only [k46_0, k46_1, k46_2, k46_5, k46_8, k46_10, k46_11, k46_12, k46_13, k46_16, Option.toList_some, Option.toList_none, List.cons_append, List.nil_append, nl_i, nl_r, nl_l, nl_n, hat, hp, c50 h hl (show a < 1000 by omega), eq0]
  have low : ∀ a2 a3 : Option Value, At 46 37 [some (.ref 39), some (.int (btF ln (I 40) a - nI 65)), some (.int (nI (lwF p lt))), a3] [] I J Q := by
    intro a2 a3
    simp (disch := omega) only [k46_37, k46_38, k46_39, i_lt, bs1, nI_toInt]
    by_cases q1 : (btF ln (I 40) a).toInt - 65 < (lwF p lt : Nat)
    · have e : r = (false, a, 0, 0) := by rw [hr]; unfold ppt; rw [if_pos (by omega)]
      rw [if_pos q1]
      simp (disch := omega) only [k46_57, k46_58, k46_59, k46_62, k46_65, Option.toList_some, Option.toList_none, List.cons_append, List.nil_append, nl_i, nl_r, nl_l, nl_n, hat, c48, z00, true_and]
      have := k1 (by rw [e]) (nI a)
      rw [e] at this
      rwa [show va_up (I 39) 5 (nI a) = I 39 by rw [← hat]; exact up_id _ _] at this
    · rw [if_neg q1]
      simp (disch := omega) only [k46_42, k46_43, k46_45, i_le, bs1, nI_toInt]
      by_cases q2 : ((6 : Nat) : Int) ≤ (btF ln (I 40) a).toInt - 65
      · have e : r = (false, a, 0, 0) := by rw [hr]; unfold ppt; rw [if_pos (by omega)]
        rw [if_pos q2]
        simp (disch := omega) only [k46_57, k46_58, k46_59, k46_62, k46_65, Option.toList_some, Option.toList_none, List.cons_append, List.nil_append, nl_i, nl_r, nl_l, nl_n, hat, c48, z00, true_and]
        have := k1 (by rw [e]) (nI a)
        rw [e] at this
        rwa [show va_up (I 39) 5 (nI a) = I 39 by rw [← hat]; exact up_id _ _] at this
      · rw [if_neg q2]
        have p6 : p < 6 := by omega
        have h2 : ∀ y, (va_up I 39 (va_up (I 39) 5 y)) 39 3 = nI ln := fun y => by simp (disch := omega) only [va_up_s, up_ne, h]
        have h4 : ∀ y, (va_up I 39 (va_up (I 39) 5 y)) 40 = I 40 := fun y => up_ne _ _ (by omega)
        simp (disch := omega) only [k46_48, k46_49, k46_52, k46_54, hp, nI_ltI, p6, ↓reduceIte, k46_66, k46_67, k46_68, k46_71, k46_72, k46_73, k46_76, k46_77, k46_78, k46_81, k46_84, k46_86, Option.toList_some, Option.toList_none, List.cons_append, List.nil_append, nl_i, nl_r, nl_l, nl_n, hat, nI_add, va_up_s, c50 (h2 _) hl (show a + 1 < 1000 by omega), h4]
        by_cases q3 : btF ln (I 40) (a + 1) = nI 61
        · rw [if_pos q3]
          simp (disch := omega) only [k46_98, k46_99, k46_100, k46_103, k46_104, k46_105, k46_108, k46_109, Option.toList_some, Option.toList_none, List.cons_append, List.nil_append, nl_i, nl_r, nl_l, nl_n, va_up_s, up_same, nI_add]
          have e : r = ((pnm (btF ln (I 40)) (a + 1 + 1) (pvF p fl)).1, (pnm (btF ln (I 40)) (a + 1 + 1) (pvF p fl)).2.1, ((btF ln (I 40) a).toInt - 65).toNat, (pnm (btF ln (I 40)) (a + 1 + 1) (pvF p fl)).2.2) := by
            rw [hr]; unfold ppt; rw [if_neg (by omega), if_neg (fun w => w q3)]
          have hpv : p = 0 ∧ pvF p fl = 2000 ∨ 0 < p ∧ (va_up I 39 (va_up (I 39) 5 (nI (a + 1 + 1)))) 42 (p - 1) = nI (pvF p fl) ∧ pvF p fl ≤ 1000 := by
            by_cases e0 : p = 0
            · left; exact ⟨e0, by unfold pvF; rw [if_pos e0]⟩
            · right
              have := (hA (p - 1) (by omega)).2
              unfold pvF
              rw [if_neg e0, up_ne _ _ (by omega)]
              exact ⟨by omega, this.1, this.2⟩
          refine c47 (ln := ln) (st := a + 1 + 1) (pv := pvF p fl) (pr := p) (h2 _) hl ?_ (by omega) ?_ hp6 hpv ?_ ?_
          · simp (disch := omega) only [va_up_s]
          · simp (disch := omega) only [va_up_s, up_ne, hp]
          · rw [h4]
            intro ok1
            have r1 : r.1 = true := by rw [e]; exact ok1
            have el : btF ln (I 40) a - nI 65 = nI r.2.2.1 := by
              rw [i_eq, bs1, nI_toInt (by have := (hf.2 r1).1; omega), e]
              dsimp only
              omega
            have ep : (pnm (btF ln (I 40)) (a + 1 + 1) (pvF p fl)).2.1 = r.2.1 := by rw [e]
            have et : (pnm (btF ln (I 40)) (a + 1 + 1) (pvF p fl)).2.2 = r.2.2.2 := by rw [e]
            obtain ⟨⟨f1, f2⟩, f3⟩ := hf.2 r1
            have f0 := hf.1
            rw [ep, et]
            have h5 : ∀ (Z : Nat → Int32) (A B : Nat → Int32), Z 3 = nI ln → (va_up (va_up (va_up I 39 Z) 41 A) 42 B) 39 3 = nI ln := fun Z A B q => by simp (disch := omega) only [va_up_s, up_ne, q]
            have h6 : ∀ (Z : Nat → Int32) (A B : Nat → Int32), (va_up (va_up (va_up I 39 Z) 41 A) 42 B) 40 = I 40 := fun Z A B => by simp (disch := omega) only [up_ne]
            simp (disch := omega) only [Option.toList_some, Option.toList_none, List.cons_append, List.nil_append, nl_i, nl_r, nl_l, nl_n, k46_112, k46_113, k46_114, ← nI_0, nI_leI, Nat.zero_le, ↓reduceIte, k46_119, k46_120, k46_123, k46_124, k46_127, k46_128, k46_129, k46_130, k46_133, k46_134, k46_137, k46_138, k46_139, k46_140, k46_141, k46_144, k46_145, k46_146, k46_149, k46_150, k46_153, k46_154, k46_157, va_up_s, up_same, up_ne, up_cm, id_eq, hp, h, nI_clamp, bnd, ly_41, ly_42, Nat.reduceLT, true_and, and_true, nI_add, el, nIeq]
            by_cases q4 : r.2.1 = ln
            · rw [if_neg (show ¬ ¬ r.2.1 = ln from fun w => w q4)]
              simp (disch := omega) only [k46_160, k46_161, z00, true_and]
              exact k2 r1 q4
            · rw [if_pos q4]
              have h7 := h5 (va_up (va_up (I 39) 4 (nI (p + 1))) 5 (nI r.2.1)) (va_up (I 41) p (nI r.2.2.1)) (va_up (I 42) p (nI r.2.2.2)) (by simp (disch := omega) only [up_ne, h])
              simp (disch := omega) only [k46_162, k46_163, k46_164, k46_167, k46_170, k46_172, Option.toList_some, Option.toList_none, List.cons_append, List.nil_append, nl_i, nl_r, nl_l, nl_n, va_up_s, up_ne, c50 h7 hl (show r.2.1 < 1000 by omega)]
              by_cases q5 : btF ln (I 40) r.2.1 = nI 59
              · rw [if_pos q5]
                simp (disch := omega) only [k46_184, k46_185, k46_186, k46_189, k46_190, k46_191, k46_194, k46_195, z10, true_and, va_up_s, up_same, up_ne, up_cm, id_eq, nI_add]
                exact k4 r1 q4 q5
              · rw [if_neg q5]
                simp (disch := omega) only [k46_175, k46_176, k46_177, k46_180, k46_183, Option.toList_some, Option.toList_none, List.cons_append, List.nil_append, nl_i, nl_r, nl_l, nl_n, c48, z00, true_and, va_up_s, up_same, up_ne, up_cm, id_eq]
                exact k3 r1 q4 q5
          · rw [h4]
            intro no1 a'
            have r1 : r.1 = false := by rw [e]; exact no1
            have ep : (pnm (btF ln (I 40)) (a + 1 + 1) (pvF p fl)).2.1 = r.2.1 := by rw [e]
            have em : ¬ (0 : Int32) ≤ -1 := by decide
            rw [ep]
            simp (disch := omega) only [Option.toList_some, Option.toList_none, List.cons_append, List.nil_append, nl_i, nl_r, nl_l, nl_n, k46_112, k46_113, k46_114, em, ↓reduceIte, k46_117, k46_118, z00, true_and, va_up_s, up_same]
            exact k1 r1 a'
        · have e : r = (false, a + 1, 0, 0) := by rw [hr]; unfold ppt; rw [if_neg (by omega), if_pos q3]
          rw [if_neg q3]
          simp (disch := omega) only [k46_89, k46_90, k46_91, k46_94, k46_97, Option.toList_some, Option.toList_none, List.cons_append, List.nil_append, nl_i, nl_r, nl_l, nl_n, c48, z00, true_and, va_up_s, up_same]
          have := k1 (by rw [e]) (nI (a + 1))
          rw [e] at this
          exact this
  by_cases e0 : p = 0
  · rw [if_neg (show ¬ ¬ p = 0 from fun w => w e0)]
    have := low none none
    unfold lwF at this
    rw [if_pos e0] at this
    simp (disch := omega) only [k46_19, k46_20, k46_36, Option.toList_some, Option.toList_none, List.cons_append, List.nil_append, nl_i, nl_r, nl_l, nl_n]
    exact this
  · rw [if_pos e0]
    have := low none none
    have hA1 := (hA (p - 1) (by omega)).1
    unfold lwF at this
    rw [if_neg e0] at this
    simp (disch := omega) only [k46_23, k46_24, k46_27, k46_28, k46_31, k46_32, k46_33, k46_34, k46_35, k46_36, Option.toList_some, Option.toList_none, List.cons_append, List.nil_append, nl_i, nl_r, nl_l, nl_n, hp, pk_sub, nI_clamp, bnd, ly_41, Nat.reduceLT, true_and, and_true, hA1, nI_add]
    exact this
end LAWSB
