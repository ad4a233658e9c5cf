/-! CONTRACTS: the reference's reading of the grades' text (typed 18, at 20, fault 21, parts 22; text 64, letters 65, tenths 66) -/
/-- a part that may stand ends within the text -/
theorem bt_out {ln : Nat} {tx : Nat → Int32} {p : Nat} (h : ln ≤ p) : btF ln tx p = -1 := by unfold btF; rw [if_neg (by omega)]
theorem isf_m1 : isf (-1) = false := by decide
theorem pnm_in {ln st pv : Nat} {tx : Nat → Int32} (h1 : (pnm (btF ln tx) st pv).1 = true) : (pnm (btF ln tx) st pv).2.1 ≤ ln := by
  have key : ∀ p, isf (btF ln tx p) = true → p < ln := by
    intro p q
    refine Classical.byContradiction (fun w => ?_)
    rw [bt_out (by omega), isf_m1] at q
    cases q
  have fg : st + (fgs (btF ln tx) st).1 ≤ ln ∨ (fgs (btF ln tx) st).1 = 0 := by
    unfold fgs
    split
    · rename_i q0
      have := key _ q0
      split
      · rename_i q1
        have := key _ q1
        split
        · rename_i q2
          have := key _ q2
          dsimp only; omega
        · dsimp only; omega
      · dsimp only; omega
    · exact Or.inr rfl
  have pf : ∀ t pos, (pnf st pv t pos).1 = true → (pnf st pv t pos).2.1 = pos := by
    intro t pos q
    unfold pnf at q ⊢
    split
    · rename_i w; rw [if_pos w] at q; cases q
    · rfl
  unfold pnm at h1 ⊢
  split
  · rename_i q; rw [if_pos q] at h1; cases h1
  · rename_i q0
    rw [if_neg q0] at h1
    split
    · rename_i q1
      rw [if_pos q1] at h1
      split
      · rename_i q2
        rw [if_pos q2] at h1
        rw [pf _ _ h1]
        have := key _ q2
        omega
      · rename_i q2; rw [if_neg q2] at h1; cases h1
    · rename_i q1
      rw [if_neg q1] at h1
      rw [pf _ _ h1]
      omega
theorem ppt_in {ln a lw pv : Nat} {tx : Nat → Int32} {r : Bool × Nat × Nat × Nat} (hr : ppt (btF ln tx) a lw pv = r) (r1 : r.1 = true) (h : ln ≤ r.2.1) : r.2.1 = ln := by
  subst hr
  unfold ppt at r1 h ⊢
  split
  · rename_i q; rw [if_pos q] at r1; cases r1
  · rename_i q0
    rw [if_neg q0] at r1 h
    split
    · rename_i q; rw [if_pos q] at r1; cases r1
    · rename_i q1
      rw [if_neg q1] at r1 h
      have := pnm_in r1
      dsimp only at h ⊢
      omega
section RLAWS
variable {I : ab_I} {J : ab_J} {Q : Option Value → ab_I → ab_J → Prop} {x x1 x2 : Int32} {u : Int64}
theorem c160 {ln p : Nat} (h : I 49 18 = nI ln) (hl : ln ≤ 60) (hp : I 49 20 = nI p) (hp2 : p < 1000) : Cal 160 [.ref 49] I J Q ↔ Q (some (.int (btF ln (I 64) p))) I J := by
  rw [en160]
  simp (disch := omega) only [k160_0, k160_1, k160_4, k160_5, k160_8, h, hp, nI_leI]
  unfold btF
  by_cases q : ln ≤ p
  · rw [if_pos q, if_neg (by omega)]
    simp (disch := omega) only [k160_23, k160_24]
  · rw [if_neg q, if_pos (by omega)]
    simp (disch := omega) only [k160_11, k160_12, k160_15, k160_16, k160_19, k160_20, k160_24, hp, nI_clamp, bnd, ly_64, Nat.reduceLT, true_and, and_true]
theorem c161 {ln p : Nat} (h : I 49 18 = nI ln) (hl : ln ≤ 60) (hp : I 49 20 = nI p) (hp2 : p < 1000) : Cal 161 [.ref 49] I J Q ↔ Q (some (.int (bI (isf (btF ln (I 64) p))))) I J := by
  rw [en161]
  simp (disch := omega) only [k161_0, k161_1, k161_4, k161_6, Option.toList_some, Option.toList_none, List.cons_append, List.nil_append, nl_i, nl_r, nl_l, nl_n, c160 h hl hp hp2]
  by_cases q : btF ln (I 64) p < nI 48
  · have : isf (btF ln (I 64) p) = false := by
      cases w : isf (btF ln (I 64) p) with
      | false => rfl
      | true => exact absurd q (isf_if.mp w).1
    rw [if_pos q, this]
    simp (disch := omega) only [k161_22, k161_23, z00, true_and, bI_f]
  · rw [if_neg q]
    simp (disch := omega) only [k161_9, k161_10, k161_13, k161_15, Option.toList_some, Option.toList_none, List.cons_append, List.nil_append, nl_i, nl_r, nl_l, nl_n, c160 h hl hp hp2]
    by_cases q2 : nI 57 < btF ln (I 64) p
    · have : isf (btF ln (I 64) p) = false := by
        cases w : isf (btF ln (I 64) p) with
        | false => rfl
        | true => exact absurd q2 (isf_if.mp w).2
      rw [if_pos q2, this]
      simp (disch := omega) only [k161_22, k161_23, z00, true_and, bI_f]
    · rw [if_neg q2, isf_if.mpr ⟨q, q2⟩]
      simp (disch := omega) only [k161_18, k161_19, k161_23, z10, true_and, bI_t]
theorem n162 {ln p st v : Nat} {a1 a2 a3 : Option Value} (h : I 49 18 = nI ln) (hl : ln ≤ 60) (hp : p < 500) (hst : st < 500) (hv : v ≤ 1000) (hi : p < st + 3) (ha3 : a3 = some (.int (nI st))) : At 162 97 [some (.ref 49), a1, a2, a3, some (.int (nI v))] [] (va_up I 49 (va_up (I 49) 20 (nI p))) J Q ↔ if isf (btF ln (I 64) p) then At 162 97 [some (.ref 49), a1, a2, a3, some (.int (nI (10 * v + dgt (btF ln (I 64) p))))] [] (va_up I 49 (va_up (I 49) 20 (nI (p + 1)))) J Q else At 162 142 [some (.ref 49), a1, a2, a3, some (.int (nI v))] [] (va_up I 49 (va_up (I 49) 20 (nI p))) J Q := by
  subst ha3
  have e0 : ¬ st + 3 ≤ p := by omega
  have h2 : (va_up I 49 (va_up (I 49) 20 (nI p))) 49 18 = nI ln := by simp (disch := omega) only [va_up_s, up_ne, h]
  have h3 : (va_up I 49 (va_up (I 49) 20 (nI p))) 49 20 = nI p := by simp (disch := omega) only [va_up_s]
  have h4 : (va_up I 49 (va_up (I 49) 20 (nI p))) 64 = I 64 := up_ne _ _ (by omega)
  rw [k162_97]
  simp (disch := omega) only [k162_98, k162_101, k162_102, k162_103, k162_104, k162_107, k162_108, k162_111, Option.toList_some, Option.toList_none, List.cons_append, List.nil_append, nl_i, nl_r, nl_l, nl_n, nI_add, nI_leI, e0, ↓reduceIte, va_up_s, c161 h2 hl h3 (show p < 1000 by omega), h4, bI_0]
  cases q : isf (btF ln (I 64) p) with
  | false => simp only [↓reduceIte, Bool.false_eq_true]
  | true =>
    obtain ⟨e1, e2⟩ := isf_n q
    have e3 : nI (10 * v) + btF ln (I 64) p - nI 48 = nI (10 * v + dgt (btF ln (I 64) p)) := by
      conv => lhs; rw [e1]
      rw [nI_add, pk_sub (by omega)]
      congr 1; omega
    simp (disch := omega) only [k162_114, k162_116, k162_118, k162_119, k162_120, k162_123, k162_124, k162_126, k162_127, k162_129, k162_130, k162_131, k162_134, k162_135, k162_136, k162_139, Option.toList_some, Option.toList_none, List.cons_append, List.nil_append, nl_i, nl_r, nl_l, nl_n, va_up_s, up_same, c160 h2 hl h3 (show p < 1000 by omega), h4, pk_mul, e3, nI_add, Bool.true_eq_false, ↓reduceIte]
set_option maxRecDepth 100000 in
theorem s162_142 {ln st n v pv pr l : Nat} {a1 : Option Value} (h : I 49 18 = nI ln) (hl : ln ≤ 60) (hst : st < 400) (hn : n ≤ 3) (hv : v ≤ 999) (hpr : I 49 22 = nI pr) (hpr6 : pr < 6) (hpv : pr = 0 ∧ pv = 2000 ∨ 0 < pr ∧ I 66 (pr - 1) = nI pv ∧ pv ≤ 1000)
    {r : Bool × Nat × Nat} (hr : r = if n = 0 then (false, st, 0) else if btF ln (I 64) (st + n) = nI 46 then (if isf (btF ln (I 64) (st + n + 1)) then pnf st pv (10 * v + dgt (btF ln (I 64) (st + n + 1))) (st + n + 1 + 1) else (false, st + n + 1, 0)) else pnf st pv (10 * v) (st + n))
    (hok : r.1 = true → Q none (va_up (va_up (va_up I 49 (va_up (va_up (I 49) 20 (nI r.2.1)) 22 (nI (pr + 1)))) 65 (va_up (I 65) pr (nI l))) 66 (va_up (I 66) pr (nI r.2.2))) J) (hno : r.1 = false → ∀ a', Q none (va_up I 49 (va_up (va_up (I 49) 20 a') 21 (nI r.2.1))) J) :
    At 162 142 [some (.ref 49), a1, some (.int (nI l)), some (.int (nI st)), some (.int (nI v))] [] (va_up I 49 (va_up (I 49) 20 (nI (st + n)))) J Q := by
  have h2 : ∀ y, (va_up I 49 (va_up (I 49) 20 y)) 49 18 = nI ln := fun y => by simp (disch := omega) only [va_up_s, up_ne, h]
  have h3 : ∀ y, (va_up I 49 (va_up (I 49) 20 y)) 49 20 = y := fun y => by simp (disch := omega) only [va_up_s]
  have h4 : ∀ y, (va_up I 49 (va_up (I 49) 20 y)) 64 = I 64 := fun y => up_ne _ _ (by omega)
  have fin : ∀ t pos : Nat, t ≤ 10000 → r = pnf st pv t pos → At 162 223 [some (.ref 49), a1, some (.int (nI l)), some (.int (nI st)), some (.int (nI t))] [] (va_up I 49 (va_up (I 49) 20 (nI pos))) J Q := by
    intro t pos ht e
    have good : r = (true, pos, t) → At 162 260 [some (.ref 49), a1, some (.int (nI l)), some (.int (nI st)), some (.int (nI t))] [] (va_up I 49 (va_up (I 49) 20 (nI pos))) J Q := by
      intro e2
      have := hok (by rw [e2])
      rw [e2] at this
      simp (disch := omega) only [k162_260, k162_261, k162_264, k162_265, k162_268, k162_269, k162_270, k162_271, k162_274, k162_275, k162_278, k162_280, k162_281, k162_282, k162_283, k162_286, k162_287, k162_288, k162_291, Option.toList_some, Option.toList_none, List.cons_append, List.nil_append, nl_i, nl_r, nl_l, nl_n, va_up_s, up_same, up_ne, up_cm, id_eq, hpr, nI_clamp, bnd, ly_65, ly_66, Nat.reduceLT, true_and, and_true, nI_add]
      exact this
    have bad : r = (false, st, 0) → At 162 254 [some (.ref 49), a1, some (.int (nI l)), some (.int (nI st)), some (.int (nI t))] [] (va_up I 49 (va_up (I 49) 20 (nI pos))) J Q := by
      intro e2
      have := hno (by rw [e2]) (nI pos)
      rw [e2] at this
      simp (disch := omega) only [k162_254, k162_255, k162_256, k162_259, Option.toList_some, Option.toList_none, List.cons_append, List.nil_append, nl_i, nl_r, nl_l, nl_n, va_up_s, up_same]
      exact this
    simp (disch := omega) only [k162_223, k162_225, k162_228, nI_ltI]
    by_cases q : 1000 < t
    · rw [if_pos q]
      exact bad (by rw [e]; unfold pnf; rw [if_pos (Or.inl q)])
    · rw [if_neg q]
      simp (disch := omega) only [k162_231, k162_232, k162_235, va_up_s, up_ne, hpr, ← nI_0, nI_leI]
      rcases hpv with ⟨p0, p1⟩ | ⟨p0, p1, p2⟩
      · rw [if_pos (by omega)]
        exact good (by rw [e]; unfold pnf; rw [if_neg (by omega)])
      · rw [if_neg (by omega)]
        simp (disch := omega) only [k162_238, k162_240, k162_241, k162_244, k162_245, k162_248, k162_249, k162_250, k162_251, va_up_s, up_ne, hpr, pk_sub, nI_clamp, bnd, ly_66, Nat.reduceLT, true_and, and_true, p1, nI_ltI]
        by_cases q2 : t < pv
        · rw [if_pos q2]
          exact good (by rw [e]; unfold pnf; rw [if_neg (by omega)])
        · rw [if_neg q2]
          exact bad (by rw [e]; unfold pnf; rw [if_pos (by omega)])
  simp (disch := omega) only [k162_142, k162_143, k162_146, k162_147, va_up_s, nIeq]
  by_cases q : n = 0
  · rw [if_pos q] at hr
    rw [if_neg (show ¬ ¬ st + n = st by omega)]
    simp (disch := omega) only [k162_150, k162_151, k162_152, k162_155, k162_158, Option.toList_some, Option.toList_none, List.cons_append, List.nil_append, nl_i, nl_r, nl_l, nl_n, va_up_s, up_same]
    have := hno (by rw [hr]) (nI (st + n))
    rw [hr] at this
    rw [show st + n = st by omega] at this ⊢
    exact this
  · rw [if_neg q] at hr
    rw [if_pos (show ¬ st + n = st by omega)]
    simp (disch := omega) only [k162_159, k162_161, k162_163, k162_164, k162_166, k162_167, k162_170, k162_172, Option.toList_some, Option.toList_none, List.cons_append, List.nil_append, nl_i, nl_r, nl_l, nl_n, pk_mul, c160 (h2 _) hl (h3 _) (show st + n < 1000 by omega), h4]
    rw [Nat.mul_comm v 10]
    by_cases q2 : btF ln (I 64) (st + n) = nI 46
    · rw [if_pos q2] at hr
      rw [if_neg (show ¬ ¬ btF ln (I 64) (st + n) = nI 46 from fun w => w q2)]
      simp (disch := omega) only [k162_175, k162_176, k162_177, k162_180, k162_181, k162_182, k162_185, k162_186, k162_189, Option.toList_some, Option.toList_none, List.cons_append, List.nil_append, nl_i, nl_r, nl_l, nl_n, va_up_s, up_same, nI_add, c161 (h2 _) hl (h3 _) (show st + n + 1 < 1000 by omega), h4, bI_0]
      cases q3 : isf (btF ln (I 64) (st + n + 1)) with
      | false =>
        rw [q3] at hr
        simp only [Bool.false_eq_true, ↓reduceIte] at hr
        simp (disch := omega) only [not_true_eq_false, ↓reduceIte, k162_192, k162_193, k162_194, k162_197, k162_200, Option.toList_some, Option.toList_none, List.cons_append, List.nil_append, nl_i, nl_r, nl_l, nl_n, va_up_s, up_same]
        have := hno (by rw [hr]) (nI (st + n + 1))
        rw [hr] at this
        exact this
      | true =>
        rw [q3] at hr
        simp only [↓reduceIte] at hr
        obtain ⟨e1, e2⟩ := isf_n q3
        have e3 : btF ln (I 64) (st + n + 1) - nI 48 = nI (dgt (btF ln (I 64) (st + n + 1))) := by
          conv => lhs; rw [e1]
          rw [pk_sub (by omega)]
          congr 1; omega
        simp (disch := omega) only [Bool.true_eq_false, not_false_eq_true, ↓reduceIte, k162_201, k162_203, k162_204, k162_207, k162_209, k162_210, k162_211, k162_213, k162_214, k162_215, k162_218, k162_219, k162_220, Option.toList_some, Option.toList_none, List.cons_append, List.nil_append, nl_i, nl_r, nl_l, nl_n, va_up_s, up_same, nI_add, c160 (h2 _) hl (h3 _) (show st + n + 1 < 1000 by omega), h4, e3]
        exact fin _ _ (by omega) hr
    · rw [if_neg q2] at hr
      rw [if_pos q2]
      exact fin _ _ (by omega) hr
set_option maxRecDepth 100000 in
theorem c162 {ln a p : Nat} {lt fl : Nat → Nat} {r : Bool × Nat × Nat × Nat} (h : I 49 18 = nI ln) (hl : ln ≤ 60) (hby : BY ln (I 64)) (hat : I 49 20 = nI a) (ha : a < 300) (hp : I 49 22 = nI p) (hp6 : p ≤ 6) (hlw : p ≤ lwF p lt) (hA : LTR lt fl p (I 65) (I 66)) (hr : r = ppt (btF ln (I 64)) a (lwF p lt) (pvF p fl))
    (k1 : r.1 = false → ∀ a', Q none (va_up I 49 (va_up (va_up (I 49) 20 a') 21 (nI r.2.1))) J)
    (k2 : r.1 = true → Q none (va_up (va_up (va_up I 49 (va_up (va_up (I 49) 20 (nI r.2.1)) 22 (nI (p + 1)))) 65 (va_up (I 65) p (nI r.2.2.1))) 66 (va_up (I 66) p (nI r.2.2.2))) J) : Cal 162 [.ref 49] I J Q := by
  obtain ⟨bs1, bs2⟩ := bt_sub hby a
  have hlw5 : lwF p lt ≤ 6 := by
    unfold lwF
    split
    · omega
    · have := (hA (p - 1) (by omega)).1.2; omega
  have h2 : ∀ y, (va_up I 49 (va_up (I 49) 20 y)) 49 18 = nI ln := fun y => by simp (disch := omega) only [va_up_s, up_ne, h]
  have h3 : ∀ y, (va_up I 49 (va_up (I 49) 20 y)) 49 20 = y := fun y => by simp (disch := omega) only [va_up_s]
  have h4 : ∀ y, (va_up I 49 (va_up (I 49) 20 y)) 64 = I 64 := fun y => up_ne _ _ (by omega)
  have low : ∀ (x : Int32) (a2 a3 a4 : Option Value), x + nI 1 = nI (lwF p lt) → At 162 23 [some (.ref 49), some (.int x), none, none, none] [] I J Q := by
    intro x a2 a3 a4 hx
    simp (disch := omega) only [k162_23, k162_24, k162_27, k162_29, k162_30, k162_31, k162_32, k162_33, k162_34, k162_35, k162_36, k162_39, Option.toList_some, Option.toList_none, List.cons_append, List.nil_append, nl_i, nl_r, nl_l, nl_n, c160 h hl hat (show a < 1000 by omega), hx, c126, bI_0, bs1, nI_toInt]
    by_cases q1 : ((lwF p lt : Nat) : Int) ≤ (btF ln (I 64) a).toInt - 65 ∧ (btF ln (I 64) a).toInt - 65 ≤ 5
    · have eb : (decide (((lwF p lt : Nat) : Int) ≤ (btF ln (I 64) a).toInt - 65) && decide ((btF ln (I 64) a).toInt - 65 ≤ ((5 : Nat) : Int))) = true := by
        rw [Bool.and_eq_true, decide_eq_true_eq, decide_eq_true_eq]; exact q1
      rw [eb, if_pos (by simp)]
      have p6 : p < 6 := by omega
      simp (disch := omega) only [k162_51, k162_52, k162_53, k162_56, k162_57, k162_58, k162_61, k162_62, k162_65, k162_67, Option.toList_some, Option.toList_none, List.cons_append, List.nil_append, nl_i, nl_r, nl_l, nl_n, hat, nI_add, c160 (h2 _) hl (h3 _) (show a + 1 < 1000 by omega), h4]
      by_cases q3 : btF ln (I 64) (a + 1) = nI 61
      · rw [if_pos q3]
        have e : r = ((pnm (btF ln (I 64)) (a + 1 + 1) (pvF p fl)).1, (pnm (btF ln (I 64)) (a + 1 + 1) (pvF p fl)).2.1, ((btF ln (I 64) a).toInt - 65).toNat, (pnm (btF ln (I 64)) (a + 1 + 1) (pvF p fl)).2.2) := by
          rw [hr]; unfold ppt; rw [if_neg (fun w => w q1), if_neg (fun w => w q3)]
        have el : btF ln (I 64) a - nI 65 = nI ((btF ln (I 64) a).toInt - 65).toNat := by
          rw [i_eq, bs1, nI_toInt (by omega)]
          omega
        have hpv : p = 0 ∧ pvF p fl = 2000 ∨ 0 < p ∧ I 66 (p - 1) = nI (pvF p fl) ∧ pvF p fl ≤ 1000 := by
          by_cases e0 : p = 0
          · left; exact ⟨e0, by unfold pvF; rw [if_pos e0]⟩
          · right
            have := (hA (p - 1) (by omega)).2
            unfold pvF
            rw [if_neg e0]
            exact ⟨by omega, this.1, this.2⟩
        have K1 : (pnm (btF ln (I 64)) (a + 1 + 1) (pvF p fl)).1 = false → ∀ a', Q none (va_up I 49 (va_up (va_up (I 49) 20 a') 21 (nI (pnm (btF ln (I 64)) (a + 1 + 1) (pvF p fl)).2.1))) J := by
          intro w a'
          have := k1 (by rw [e]; exact w) a'
          rw [e] at this
          exact this
        have K2 : (pnm (btF ln (I 64)) (a + 1 + 1) (pvF p fl)).1 = true → Q none (va_up (va_up (va_up I 49 (va_up (va_up (I 49) 20 (nI (pnm (btF ln (I 64)) (a + 1 + 1) (pvF p fl)).2.1)) 22 (nI (p + 1)))) 65 (va_up (I 65) p (nI ((btF ln (I 64) a).toInt - 65).toNat))) 66 (va_up (I 66) p (nI (pnm (btF ln (I 64)) (a + 1 + 1) (pvF p fl)).2.2))) J := by
          intro w
          have := k2 (by rw [e]; exact w)
          rw [e] at this
          exact this
        simp (disch := omega) only [k162_79, k162_80, k162_81, k162_84, k162_85, k162_86, k162_89, k162_90, k162_93, k162_94, k162_95, Option.toList_some, Option.toList_none, List.cons_append, List.nil_append, nl_i, nl_r, nl_l, nl_n, va_up_s, up_same, nI_add, el]
        rw [n162 h hl (by omega) (by omega) (by omega) (by omega) rfl]
        cases q4 : isf (btF ln (I 64) (a + 1 + 1)) with
        | false =>
          simp only [Bool.false_eq_true, ↓reduceIte]
          have ef : fgs (btF ln (I 64)) (a + 1 + 1) = (0, 0) := by unfold fgs; rw [q4]; rfl
          exact s162_142 (st := a + 1 + 1) (n := 0) (v := 0) h hl (by omega) (by omega) (by omega) hp p6 hpv (by unfold pnm; rw [ef]; rfl) K2 K1
        | true =>
          have d0 := (isf_n q4).2
          simp only [↓reduceIte]
          rw [n162 h hl (by omega) (by omega) (by omega) (by omega) rfl]
          cases q5 : isf (btF ln (I 64) (a + 1 + 1 + 1)) with
          | false =>
            simp only [Bool.false_eq_true, ↓reduceIte]
            have ef : fgs (btF ln (I 64)) (a + 1 + 1) = (1, dgt (btF ln (I 64) (a + 1 + 1))) := by unfold fgs; rw [q4, q5]; rfl
            have := s162_142 (st := a + 1 + 1) (n := 1) (v := dgt (btF ln (I 64) (a + 1 + 1))) (l := ((btF ln (I 64) a).toInt - 65).toNat) (a1 := some (.int x)) h hl (by omega) (by omega) (by omega) hp p6 hpv (by unfold pnm; rw [ef]; rfl) K2 K1
            rwa [show dgt (btF ln (I 64) (a + 1 + 1)) = 10 * 0 + dgt (btF ln (I 64) (a + 1 + 1)) by omega] at this
          | true =>
            have d1 := (isf_n q5).2
            simp only [↓reduceIte]
            rw [n162 h hl (by omega) (by omega) (by omega) (by omega) rfl]
            cases q6 : isf (btF ln (I 64) (a + 1 + 1 + 1 + 1)) with
            | false =>
              simp only [Bool.false_eq_true, ↓reduceIte]
              have ef : fgs (btF ln (I 64)) (a + 1 + 1) = (2, 10 * dgt (btF ln (I 64) (a + 1 + 1)) + dgt (btF ln (I 64) (a + 1 + 1 + 1))) := by unfold fgs; rw [q4, q5, q6]; rfl
              have := s162_142 (st := a + 1 + 1) (n := 2) (v := 10 * dgt (btF ln (I 64) (a + 1 + 1)) + dgt (btF ln (I 64) (a + 1 + 1 + 1))) (l := ((btF ln (I 64) a).toInt - 65).toNat) (a1 := some (.int x)) h hl (by omega) (by omega) (by omega) hp p6 hpv (by unfold pnm; rw [ef]; rfl) K2 K1
              rwa [show 10 * dgt (btF ln (I 64) (a + 1 + 1)) + dgt (btF ln (I 64) (a + 1 + 1 + 1)) = 10 * (10 * 0 + dgt (btF ln (I 64) (a + 1 + 1))) + dgt (btF ln (I 64) (a + 1 + 1 + 1)) by omega] at this
            | true =>
              have d2 := (isf_n q6).2
              simp only [↓reduceIte]
              have ef : fgs (btF ln (I 64)) (a + 1 + 1) = (3, 10 * (10 * dgt (btF ln (I 64) (a + 1 + 1)) + dgt (btF ln (I 64) (a + 1 + 1 + 1))) + dgt (btF ln (I 64) (a + 1 + 1 + 1 + 1))) := by unfold fgs; rw [q4, q5, q6]; rfl
              have := s162_142 (st := a + 1 + 1) (n := 3) (v := 10 * (10 * dgt (btF ln (I 64) (a + 1 + 1)) + dgt (btF ln (I 64) (a + 1 + 1 + 1))) + dgt (btF ln (I 64) (a + 1 + 1 + 1 + 1))) (l := ((btF ln (I 64) a).toInt - 65).toNat) (a1 := some (.int x)) h hl (by omega) (by omega) (by omega) hp p6 hpv (by unfold pnm; rw [ef]; rfl) K2 K1
              rw [show 10 * (10 * dgt (btF ln (I 64) (a + 1 + 1)) + dgt (btF ln (I 64) (a + 1 + 1 + 1))) + dgt (btF ln (I 64) (a + 1 + 1 + 1 + 1)) = 10 * (10 * (10 * 0 + dgt (btF ln (I 64) (a + 1 + 1))) + dgt (btF ln (I 64) (a + 1 + 1 + 1))) + dgt (btF ln (I 64) (a + 1 + 1 + 1 + 1)) by omega] at this
              have e9 : a + 1 + 1 + 3 ≤ a + 1 + 1 + 1 + 1 + 1 := by omega
              rw [k162_97]
              simp (disch := omega) only [k162_98, k162_101, k162_102, k162_103, k162_104, va_up_s, nI_add, nI_leI, e9, ↓reduceIte]
              exact this
      · have e : r = (false, a + 1, 0, 0) := by rw [hr]; unfold ppt; rw [if_neg (fun w => w q1), if_pos q3]
        rw [if_neg q3]
        simp (disch := omega) only [k162_70, k162_71, k162_72, k162_75, k162_78, Option.toList_some, Option.toList_none, List.cons_append, List.nil_append, nl_i, nl_r, nl_l, nl_n, va_up_s, up_same]
        have := k1 (by rw [e]) (nI (a + 1))
        rw [e] at this
        exact this
    · have e : r = (false, a, 0, 0) := by rw [hr]; unfold ppt; rw [if_pos q1]
      have eb : (decide (((lwF p lt : Nat) : Int) ≤ (btF ln (I 64) a).toInt - 65) && decide ((btF ln (I 64) a).toInt - 65 ≤ ((5 : Nat) : Int))) = false := by
        rw [Bool.eq_false_iff]
        intro w
        rw [Bool.and_eq_true, decide_eq_true_eq, decide_eq_true_eq] at w
        exact q1 w
      rw [eb, if_neg (by simp)]
      simp (disch := omega) only [k162_42, k162_43, k162_44, k162_47, k162_50, Option.toList_some, Option.toList_none, List.cons_append, List.nil_append, nl_i, nl_r, nl_l, nl_n, hat]
      have := k1 (by rw [e]) (nI a)
      rw [e] at this
      rwa [show va_up (I 49) 20 (nI a) = I 49 by rw [← hat]; exact up_id _ _] at this
  rw [en162]
  simp (disch := omega) only [k162_0, k162_1, k162_4, hp, eq0]
  by_cases e0 : p = 0
  · rw [if_neg (show ¬ ¬ p = 0 from fun w => w e0)]
    have e1 : (-1 : Int32) + nI 1 = nI (lwF p lt) := by unfold lwF; rw [if_pos e0]; decide
    have := low (-1) none none none e1
    simp (disch := omega) only [k162_7, k162_8, k162_22, Option.toList_some, Option.toList_none, List.cons_append, List.nil_append, nl_i, nl_r, nl_l, nl_n]
    exact this
  · rw [if_pos e0]
    have hA1 := (hA (p - 1) (by omega)).1
    have e1 : nI (lt (p - 1)) + nI 1 = nI (lwF p lt) := by unfold lwF; rw [if_neg e0, nI_add]
    have := low _ none none none e1
    simp (disch := omega) only [k162_11, k162_12, k162_15, k162_16, k162_19, k162_20, k162_21, k162_22, Option.toList_some, Option.toList_none, List.cons_append, List.nil_append, nl_i, nl_r, nl_l, nl_n, hp, pk_sub, nI_clamp, bnd, ly_65, Nat.reduceLT, true_and, and_true, hA1]
    exact this
/-- the reference's laws as read -/
def RLOK (z : Nat × (Nat → Nat) × (Nat → Nat) × Int32) (I : ab_I) : Prop := z.1 ≤ 6 ∧ I 49 22 = nI z.1 ∧ LTR z.2.1 z.2.2.1 z.1 (I 65) (I 66)
def RFr (I I' : ab_I) : Prop := (∀ k, k ≠ 49 → k ≠ 65 → k ≠ 66 → I' k = I k) ∧ ∀ j, j ≠ 20 → j ≠ 21 → j ≠ 22 → I' 49 j = I 49 j
set_option maxRecDepth 100000 in
theorem l163 {ln : Nat} {I0 : ab_I} (hl : ln ≤ 60) (h0 : I0 49 18 = nI ln) (hby : BY ln (I0 64)) : ∀ (f i a : Nat) (lt fl : Nat → Nat) (I : ab_I), i + f = 7 → RFr I0 I → I 49 20 = nI a → a ≤ 8 * i → I 49 22 = nI i → I 49 21 = -1 → i ≤ lwF i lt → LTR lt fl i (I 65) (I 66) → (∀ I', RFr I0 I' → RLOK (plp (btF ln (I0 64)) ln f a i lt fl) I' → Q (some (.int (plp (btF ln (I0 64)) ln f a i lt fl).2.2.2)) I' J) → Cal 162 [.ref 49] I J (fun v I' J' => At 163 19 [some (.ref 49)] (v.toList ++ []) I' J' Q)
  | 0, i, a, lt, fl, I, hf, hF, hat, ha, hp, h6, hlw, hA, hQ => by
    exfalso
    have e : i = 7 := by omega
    subst e
    have := (hA 6 (by omega)).1.2
    have : lwF 7 lt = lt 6 + 1 := lwF_s
    omega
  | f + 1, i, a, lt, fl, I, hf, hF, hat, ha, hp, h6, hlw, hA, hQ => by
    obtain ⟨F1, F2⟩ := id hF
    have h : I 49 18 = nI ln := by rw [F2 18 (by decide) (by decide) (by decide)]; exact h0
    have e64 : I 64 = I0 64 := F1 64 (by decide) (by decide) (by decide)
    have hf' := ppt_f (bt := btF ln (I0 64)) (p := a) (lw := lwF i lt) (pv := pvF i fl)
    refine c162 (ln := ln) (a := a) (p := i) (lt := lt) (fl := fl) (r := ppt (btF ln (I0 64)) a (lwF i lt) (pvF i fl)) h hl (by rw [e64]; exact hby) hat (by omega) hp (by omega) hlw hA (by rw [e64]) ?_ ?_
    · intro r1 a'
      have em : ¬ nI (ppt (btF ln (I0 64)) a (lwF i lt) (pvF i fl)).2.1 = -1 := nI_m1 (by have := hf'.1; omega)
      simp (disch := omega) only [Option.toList_some, Option.toList_none, List.cons_append, List.nil_append, nl_i, nl_r, nl_l, nl_n, k163_19, k163_20, k163_23, k163_24, va_up_s, em, not_false_eq_true, ↓reduceIte, k163_77, k163_78, k163_81]
      unfold plp at hQ
      rw [if_pos r1] at hQ
      refine hQ _ ⟨fun k g1 g2 g3 => ?_, fun j g1 g2 g3 => ?_⟩ ⟨by dsimp only; omega, ?_, ?_⟩
      · rw [va_up_n _ _ g1]; exact F1 k g1 g2 g3
      · simp (disch := omega) only [va_up_s, up_ne]; exact F2 j g1 g2 g3
      · simp (disch := omega) only [va_up_s, up_ne]; exact hp
      · simp (disch := omega) only [up_ne]; exact hA
    · intro r1
      obtain ⟨⟨f1, f2⟩, f3⟩ := hf'.2 r1
      have f0 := hf'.1
      have LT2 := LTR_up hA f2 f3
      generalize hr : ppt (btF ln (I0 64)) a (lwF i lt) (pvF i fl) = r at *
      have h18 : ∀ (Z A B : Nat → Int32), Z 18 = nI ln → (va_up (va_up (va_up I 49 Z) 65 A) 66 B) 49 18 = nI ln := fun Z A B q => by simp (disch := omega) only [va_up_s, up_ne, q]
      simp (disch := omega) only [Option.toList_some, Option.toList_none, List.cons_append, List.nil_append, nl_i, nl_r, nl_l, nl_n, k163_19, k163_20, k163_23, k163_24, va_up_s, up_ne, h6, not_true_eq_false, ↓reduceIte, k163_27, k163_28, k163_31, k163_32, k163_35, h, nI_leI]
      by_cases q1 : ln ≤ r.2.1
      · rw [if_pos q1]
        simp (disch := omega) only [k163_77, k163_78, k163_81, va_up_s, up_ne, h6]
        by_cases q2 : r.2.1 = ln
        · unfold plp at hQ
          rw [hr, if_neg (by rw [r1]; simp), if_pos q2] at hQ
          refine hQ _ ⟨fun k g1 g2 g3 => ?_, fun j g1 g2 g3 => ?_⟩ ⟨by dsimp only; omega, ?_, ?_⟩
          · rw [va_up_n _ _ g3, va_up_n _ _ g2, va_up_n _ _ g1]; exact F1 k g1 g2 g3
          · simp (disch := omega) only [va_up_s, up_ne]; exact F2 j g1 g2 g3
          · simp (disch := omega) only [va_up_s, up_ne]
          · simp (disch := omega) only [va_up_s, up_ne]; exact LT2
        · exfalso
          exact q2 (ppt_in hr r1 q1)
      · rw [if_neg q1]
        have q2 : ¬ r.2.1 = ln := by omega
        have h7 := h18 (va_up (va_up (I 49) 20 (nI r.2.1)) 22 (nI (i + 1))) (va_up (I 65) i (nI r.2.2.1)) (va_up (I 66) i (nI r.2.2.2)) (by simp (disch := omega) only [up_ne, h])
        have h8 : (va_up (va_up (va_up I 49 (va_up (va_up (I 49) 20 (nI r.2.1)) 22 (nI (i + 1)))) 65 (va_up (I 65) i (nI r.2.2.1))) 66 (va_up (I 66) i (nI r.2.2.2))) 49 20 = nI r.2.1 := by simp (disch := omega) only [va_up_s, up_ne]
        have h9 : (va_up (va_up (va_up I 49 (va_up (va_up (I 49) 20 (nI r.2.1)) 22 (nI (i + 1)))) 65 (va_up (I 65) i (nI r.2.2.1))) 66 (va_up (I 66) i (nI r.2.2.2))) 64 = I0 64 := by simp (disch := omega) only [up_ne]; exact e64
        simp (disch := omega) only [k163_38, k163_39, k163_42, k163_44, Option.toList_some, Option.toList_none, List.cons_append, List.nil_append, nl_i, nl_r, nl_l, nl_n, c160 h7 hl h8 (show r.2.1 < 1000 by omega), h9]
        by_cases q3 : btF ln (I0 64) r.2.1 = nI 59
        · rw [if_pos q3]
          unfold plp at hQ
          rw [hr, if_neg (by rw [r1]; simp), if_neg q2, if_neg (fun w => w q3)] at hQ
          simp (disch := omega) only [k163_60, k163_61, k163_62, k163_65, k163_66, k163_67, k163_70, k163_71, va_up_s, up_same, up_ne, up_cm, id_eq, nI_add]
          have rc1 := l163 hl h0 hby f (i + 1) (r.2.1 + 1) (va_up lt i r.2.2.1) (va_up fl i r.2.2.2) (va_up (va_up (va_up I 49 (va_up (va_up (I 49) 20 (nI (r.2.1 + 1))) 22 (nI (i + 1)))) 65 (va_up (I 65) i (nI r.2.2.1))) 66 (va_up (I 66) i (nI r.2.2.2))) (by omega) ⟨fun k g1 g2 g3 => ?_, fun j g1 g2 g3 => ?_⟩ ?_ (by omega) ?_ ?_ ?_ ?_ hQ
          · obtain ⟨n, v, I1, J1, w1, w2⟩ := rc1
            exact ⟨n, v, I1, J1, w1, (by show At 163 74 _ (v.toList ++ []) I1 J1 Q; rw [k163_74]; exact w2)⟩
          · rw [va_up_n _ _ g3, va_up_n _ _ g2, va_up_n _ _ g1]; exact F1 k g1 g2 g3
          · simp (disch := omega) only [va_up_s, up_ne]; exact F2 j g1 g2 g3
          · simp (disch := omega) only [va_up_s, up_ne]
          · simp (disch := omega) only [va_up_s, up_ne]
          · simp (disch := omega) only [va_up_s, up_ne]; exact h6
          · rw [lwF_s, va_up_s]; omega
          · simp (disch := omega) only [va_up_s, up_ne]; exact LT2
        · rw [if_neg q3]
          unfold plp at hQ
          rw [hr, if_neg (by rw [r1]; simp), if_neg q2, if_pos q3] at hQ
          simp (disch := omega) only [k163_47, k163_48, k163_49, k163_52, k163_55, k163_56, k163_59, va_up_s, up_same, up_ne, up_cm, id_eq]
          refine hQ _ ⟨fun k g1 g2 g3 => ?_, fun j g1 g2 g3 => ?_⟩ ⟨by dsimp only; omega, ?_, ?_⟩
          · rw [va_up_n _ _ g3, va_up_n _ _ g2, va_up_n _ _ g1]; exact F1 k g1 g2 g3
          · simp (disch := omega) only [va_up_s, up_ne]; exact F2 j g1 g2 g3
          · simp (disch := omega) only [va_up_s, up_ne]
          · simp (disch := omega) only [va_up_s, up_ne]; exact LT2
theorem c163 {ln : Nat} (h : I 49 18 = nI ln) (hl : ln ≤ 60) (hby : BY ln (I 64)) : ∃ I', (RFr I I' ∧ RLOK (prs ln (I 64)) I') ∧ ∀ Q : Option Value → ab_I → ab_J → Prop, Cal 163 [.ref 49] I J Q ↔ Q (some (.int (prs ln (I 64)).2.2.2)) I' J := by
  have main : ∀ Q : Option Value → ab_I → ab_J → Prop, (∀ v I' J', ((RFr I I' ∧ RLOK (prs ln (I 64)) I') ∧ v = some (.int (prs ln (I 64)).2.2.2) ∧ J' = J) → Q v I' J') → Cal 163 [.ref 49] I J Q := by
    intro Q hQ
    rw [en163]
    simp (disch := omega) only [k163_0, k163_1, k163_2, k163_5, k163_6, k163_7, k163_10, k163_11, k163_12, k163_15, k163_16, Option.toList_some, Option.toList_none, List.cons_append, List.nil_append, nl_i, nl_r, nl_l, nl_n, va_up_s, up_same]
    have := l163 (Q := Q) (J := J) (I0 := I) hl h hby 7 0 0 (fun _ => 0) (fun _ => 0) (va_up I 49 (va_up (va_up (va_up (I 49) 20 (nI 0)) 21 (-1)) 22 (nI 0))) rfl ⟨fun k g1 g2 g3 => ?_, fun j g1 g2 g3 => ?_⟩ ?_ (by omega) ?_ ?_ (by omega) (fun i hi => by omega) (fun I' q1 q2 => hQ _ _ _ ⟨⟨q1, q2⟩, rfl, rfl⟩)
    · simp only [List.append_nil] at this ⊢
      exact this
    · rw [va_up_n _ _ g1]
    · simp (disch := omega) only [va_up_s, up_ne]
    · simp (disch := omega) only [va_up_s, up_ne]
    · simp (disch := omega) only [va_up_s, up_ne]
    · simp (disch := omega) only [va_up_s, up_ne]
  obtain ⟨v, I', J', ⟨hG, rfl, rfl⟩, hc2⟩ := Cal_ex main
  exact ⟨I', hG, hc2⟩
set_option maxRecDepth 100000 in
theorem c165 {z : Nat × (Nat → Nat) × (Nat → Nat) × Int32} {a b t : Int} {B : Nat} (hz : RLOK z I) (ha : bd a B) (hb : bd b B) (hB : B ≤ 100000000000) (ht : x.toInt = t) (ht2 : bd t 1000) : Cal 165 [.ref 49, .long (zL a), .long (zL b), .int x] I J Q ↔ Q (some (.int (nI (grd z a b t)))) I J := by
  obtain ⟨h6, hp, hA⟩ := hz
  refine Cal_of (fun Q hQ => ?_)
  rw [en165]
  simp only [k165_0, k165_1, Option.toList_some, Option.toList_none, List.cons_append, List.nil_append, nl_i, nl_r, nl_l, nl_n]
  unfold grd at hQ
  have key : ∀ (n i : Nat), i + n = z.1 → Q (some (.int (nI (grF z.2.1 (fun i => rch a b t (z.2.2.1 i)) n i)))) I J → At 165 3 [some (.ref 49), some (.long (zL a)), none, some (.long (zL b)), none, some (.int x), some (.int (nI i))] [] I J Q := by
    intro n
    induction n with
    | zero =>
      intro i hi hQ
      have e0 : z.1 ≤ i := by omega
      rw [k165_3]
      simp (disch := omega) only [k165_5, k165_6, k165_9, k165_51, k165_53, hp, nI_leI, e0, ↓reduceIte]
      exact hQ
    | succ n ih =>
      intro i hi hQ
      have e0 : ¬ z.1 ≤ i := by omega
      obtain ⟨⟨hA1, hA2⟩, hA3, hA4⟩ := hA i (by omega)
      have o1 : ok (10 * a + t * b) := bd_ok (bd_add (bd_mul (A := 10) (by unfold bd; omega) ha) (bd_mul ht2 hb)) (by omega)
      have o2 : ok ((z.2.2.1 i : Int) * b) := bd_ok (bd_mul (A := 1000) (by unfold bd; omega) hb) (by omega)
      have ei : (nI (z.2.2.1 i)).toInt64 = zL (z.2.2.1 i : Nat) := by rw [nI_l (by omega), lN_zL]
      have ex : x.toInt64 = zL t := by rw [i2l_zL, ht]
      rw [k165_3]
      simp (disch := omega) only [k165_5, k165_6, k165_9, k165_12, k165_15, k165_16, k165_17, k165_19, k165_20, k165_21, k165_22, k165_23, k165_24, k165_27, k165_29, k165_30, k165_31, k165_32, k165_33, k165_34, Option.toList_some, Option.toList_none, List.cons_append, List.nil_append, nl_i, nl_r, nl_l, nl_n, hp, nI_leI, e0, ↓reduceIte, nI_clamp, bnd, ly_66, Nat.reduceLT, true_and, and_true, hA3, ei, ex, zL_10, zL_mul, zL_add, lg_cmp_lt]
      have el : (zL (10 * a + t * b) < zL ((z.2.2.1 i : Int) * b)) = (10 * a + t * b < (z.2.2.1 i : Int) * b) := zL_lt o1 o2
      unfold grF at hQ
      by_cases q : 10 * a + t * b < (z.2.2.1 i : Int) * b
      · rw [if_pos (el.mpr q)]
        have e1 : rch a b t (z.2.2.1 i) = false := decide_eq_false (by omega)
        rw [e1] at hQ
        simp (disch := omega) only [k165_45, k165_48, Option.toList_some, Option.toList_none, List.cons_append, List.nil_append, nl_i, nl_r, nl_l, nl_n, nI_add]
        exact ih (i + 1) (by omega) hQ
      · rw [if_neg (fun w => q (el.mp w))]
        have e1 : rch a b t (z.2.2.1 i) = true := decide_eq_true (by omega)
        rw [e1] at hQ
        simp (disch := omega) only [k165_37, k165_38, k165_41, k165_43, k165_44, nI_clamp, bnd, ly_65, Nat.reduceLT, true_and, and_true, hA1]
        exact hQ
  exact key z.1 0 (by omega) hQ
end RLAWS
