/-! THE GRADES' TEXT: what it says; CONTRACTS of the class's reading -/
def btF (ln : Nat) (tx : Nat → Int32) (p : Nat) : Int32 := if p < ln then tx p else -1
def isf (b : Int32) : Bool := decide (48 ≤ b.toInt) && decide (b.toInt ≤ 57)
def dgt (b : Int32) : Nat := (b.toInt - 48).toNat
theorem isf_n {b : Int32} (h : isf b = true) : b = nI (48 + dgt b) ∧ dgt b ≤ 9 := by
  unfold isf at h
  rw [Bool.and_eq_true, decide_eq_true_eq, decide_eq_true_eq] at h
  unfold dgt
  refine ⟨?_, by omega⟩
  rw [i_eq, nI_toInt (by omega)]
  omega
def fgs (bt : Nat → Int32) (p : Nat) : Nat × Nat := if isf (bt p) then (if isf (bt (p + 1)) then (if isf (bt (p + 2)) then (3, 10 * (10 * dgt (bt p) + dgt (bt (p + 1))) + dgt (bt (p + 2))) else (2, 10 * dgt (bt p) + dgt (bt (p + 1)))) else (1, dgt (bt p))) else (0, 0)
theorem fgs_le (bt : Nat → Int32) (p : Nat) : (fgs bt p).1 ≤ 3 ∧ (fgs bt p).2 ≤ 999 := by
  unfold fgs
  split
  · rename_i h0
    have := (isf_n h0).2
    split
    · rename_i h1
      have := (isf_n h1).2
      split
      · rename_i h2
        have := (isf_n h2).2
        dsimp only; omega
      · dsimp only; omega
    · dsimp only; omega
  · dsimp only; omega
def pnf (st pv t pos : Nat) : Bool × Nat × Nat := if 1000 < t ∨ pv ≤ t then (false, st, 0) else (true, pos, t)
/-- a number from st on: whether it is one that may stand, where it ends (or the fault), its tenths -/
def pnm (bt : Nat → Int32) (st pv : Nat) : Bool × Nat × Nat := if (fgs bt st).1 = 0 then (false, st, 0) else if bt (st + (fgs bt st).1) = nI 46 then (if isf (bt (st + (fgs bt st).1 + 1)) then pnf st pv (10 * (fgs bt st).2 + dgt (bt (st + (fgs bt st).1 + 1))) (st + (fgs bt st).1 + 1 + 1) else (false, st + (fgs bt st).1 + 1, 0)) else pnf st pv (10 * (fgs bt st).2) (st + (fgs bt st).1)
theorem up_id2 {α : Type} (f : Nat → Nat → α) {k j : Nat} {v : α} (h : f k j = v) : va_up f k (va_up (f k) j v) = f := by
  rw [← h, up_id, up_id]
theorem isf_if {b : Int32} : isf b = true ↔ ¬ b < nI 48 ∧ ¬ nI 57 < b := by
  unfold isf
  rw [Bool.and_eq_true, decide_eq_true_eq, decide_eq_true_eq, i_lt, i_lt, nI_toInt (by omega), nI_toInt (by omega)]
  omega
section LAWS
variable {I : ab_I} {J : ab_J} {Q : Option Value → ab_I → ab_J → Prop} {x x1 x2 : Int32} {u : Int64}
theorem c50 {ln p : Nat} (h : I 39 3 = nI ln) (hl : ln ≤ 60) (hp : p < 1000) : Cal 50 [.ref 39, .int (nI p)] I J Q ↔ Q (some (.int (btF ln (I 40) p))) I J := by
  rw [en50]
  simp (disch := omega) only [k50_0, k50_1, k50_4, k50_5, k50_6, k50_9, nlt0, ↓reduceIte, h, nI_leI]
  unfold btF
  by_cases q : ln ≤ p
  · rw [if_pos q, if_neg (by omega)]
    simp (disch := omega) only [k50_21, k50_22]
  · rw [if_neg q, if_pos (by omega)]
    simp (disch := omega) only [k50_12, k50_13, k50_16, k50_17, k50_18, k50_22, nI_clamp, bnd, ly_40, Nat.reduceLT, true_and, and_true]
theorem c49 {ln p : Nat} (h : I 39 3 = nI ln) (hl : ln ≤ 60) (hp : p < 1000) : Cal 49 [.ref 39, .int (nI p)] I J Q ↔ Q (some (.int (bI (isf (btF ln (I 40) p))))) I J := by
  rw [en49]
  simp (disch := omega) only [k49_0, k49_1, k49_2, k49_5, k49_7, Option.toList_some, Option.toList_none, List.cons_append, List.nil_append, nl_i, nl_r, nl_l, nl_n, c50 h hl hp]
  by_cases q : btF ln (I 40) p < nI 48
  · have : isf (btF ln (I 40) p) = false := by
      cases w : isf (btF ln (I 40) p) with
      | false => rfl
      | true => exact absurd q (isf_if.mp w).1
    rw [if_pos q, this]
    simp (disch := omega) only [k49_24, k49_25, z00, true_and, bI_f]
  · rw [if_neg q]
    simp (disch := omega) only [k49_10, k49_11, k49_12, k49_15, k49_17, Option.toList_some, Option.toList_none, List.cons_append, List.nil_append, nl_i, nl_r, nl_l, nl_n, c50 h hl hp]
    by_cases q2 : nI 57 < btF ln (I 40) p
    · have : isf (btF ln (I 40) p) = false := by
        cases w : isf (btF ln (I 40) p) with
        | false => rfl
        | true => exact absurd q2 (isf_if.mp w).2
      rw [if_pos q2, this]
      simp (disch := omega) only [k49_24, k49_25, z00, true_and, bI_f]
    · rw [if_neg q2, isf_if.mpr ⟨q, q2⟩]
      simp (disch := omega) only [k49_20, k49_21, k49_25, z10, true_and, bI_t]
theorem c48 : Cal 48 [.ref 39, .int x] I J Q ↔ Q (some (.int (nI 0))) (va_up I 39 (va_up (I 39) 6 x)) J := by
  rw [en48]
  simp (disch := omega) only [k48_0, k48_1, k48_2, k48_5, k48_6, Option.toList_some, Option.toList_none, List.cons_append, List.nil_append, nl_i, nl_r, nl_l, nl_n, z00, true_and]
theorem c42 {n : Nat} (h : I 39 3 = nI n) (hn : n ≤ 60) : Cal 42 [.ref 39] I J Q ↔ Q (some (.int (bI (decide (60 ≤ n))))) I J := by
  rw [en42]
  simp (disch := omega) only [k42_0, k42_1, k42_4, k42_6, k42_9, k42_10, k42_13, k42_14, Option.toList_some, Option.toList_none, List.cons_append, List.nil_append, nl_i, nl_r, nl_l, nl_n, z10, z00, true_and, h, nI_ltI]
  split
  · rw [show decide (60 ≤ n) = false by simp; omega, bI_f]
  · rw [show decide (60 ≤ n) = true by simp; omega, bI_t]
theorem n47 {ln p i t : Nat} {a1 : Option Value} (h : I 39 3 = nI ln) (hl : ln ≤ 60) (hp : p < 500) (hi : i < 3) : At 47 9 [some (.ref 39), a1, some (.int (nI t)), some (.int (nI i))] [] (va_up I 39 (va_up (I 39) 5 (nI p))) J Q ↔ if isf (btF ln (I 40) p) then At 47 9 [some (.ref 39), ab_nv a1, some (.int (nI (10 * t + 10 * dgt (btF ln (I 40) p)))), some (.int (nI (i + 1)))] [] (va_up I 39 (va_up (I 39) 5 (nI (p + 1)))) J Q else At 47 61 [some (.ref 39), a1, some (.int (nI t)), some (.int (nI i))] [] (va_up I 39 (va_up (I 39) 5 (nI p))) J Q := by
  have e0 : ¬ 3 ≤ i := by omega
  have h2 : (va_up I 39 (va_up (I 39) 5 (nI p))) 39 3 = nI ln := by simp (disch := omega) only [va_up_s, up_ne, h]
  have h4 : (va_up I 39 (va_up (I 39) 5 (nI p))) 40 = I 40 := up_ne _ _ (by omega)
  rw [k47_9]
  simp (disch := omega) only [k47_10, k47_11, k47_14, k47_15, k47_16, k47_19, k47_22, Option.toList_some, Option.toList_none, List.cons_append, List.nil_append, nl_i, nl_r, nl_l, nl_n, nI_leI, e0, ↓reduceIte, va_up_s, c49 h2 hl (show p < 1000 by omega), h4, bI_0]
  cases q : isf (btF ln (I 40) p) with
  | false => simp only [↓reduceIte, Bool.false_eq_true]
  | true =>
    obtain ⟨e1, e2⟩ := isf_n q
    have e3 : btF ln (I 40) p - nI 48 = nI (dgt (btF ln (I 40) p)) := by
      conv => lhs; rw [e1]
      rw [pk_sub (by omega)]
      congr 1; omega
    simp (disch := omega) only [k47_25, k47_27, k47_28, k47_29, k47_31, k47_32, k47_33, k47_36, k47_39, k47_41, k47_42, k47_43, k47_44, k47_45, k47_46, k47_47, k47_50, k47_51, k47_52, k47_55, k47_58, Option.toList_some, Option.toList_none, List.cons_append, List.nil_append, nl_i, nl_r, nl_l, nl_n, va_up_s, up_same, c50 h2 hl (show p < 1000 by omega), h4, e3, pk_mul, nI_add, Bool.true_eq_false, ↓reduceIte]
set_option maxRecDepth 100000 in
/-- behind the figures: a state in which the place is p -/
theorem s47_61 {ln st n v pv pr : Nat} {a3 : Option Value} (h : I 39 3 = nI ln) (hl : ln ≤ 60) (hst : st < 400) (hn : n ≤ 3) (hv : v ≤ 999) (hpr : I 39 4 = nI pr) (hpr6 : pr ≤ 6) (hpv : pr = 0 ∧ pv = 2000 ∨ 0 < pr ∧ I 42 (pr - 1) = nI pv ∧ pv ≤ 1000)
    {r : Bool × Nat × Nat} (hr : r = if n = 0 then (false, st, 0) else if btF ln (I 40) (st + n) = nI 46 then (if isf (btF ln (I 40) (st + n + 1)) then pnf st pv (10 * v + dgt (btF ln (I 40) (st + n + 1))) (st + n + 1 + 1) else (false, st + n + 1, 0)) else pnf st pv (10 * v) (st + n))
    (hok : r.1 = true → Q (some (.int (nI r.2.2))) (va_up I 39 (va_up (I 39) 5 (nI r.2.1))) J) (hno : r.1 = false → ∀ a', Q (some (.int (-1))) (va_up I 39 (va_up (va_up (I 39) 5 a') 6 (nI r.2.1))) J) :
    At 47 61 [some (.ref 39), some (.int (nI st)), some (.int (nI (10 * v))), a3] [] (va_up I 39 (va_up (I 39) 5 (nI (st + n)))) J Q := by
  have h2 : ∀ y, (va_up I 39 (va_up (I 39) 5 y)) 39 3 = nI ln := fun y => by simp (disch := omega) only [va_up_s, up_ne, h]
  have h4 : ∀ y, (va_up I 39 (va_up (I 39) 5 y)) 40 = I 40 := fun y => up_ne _ _ (by omega)
  -- the end: too large, or not below the part before
  have fin : ∀ t pos : Nat, t ≤ 10000 → r = pnf st pv t pos → At 47 149 [some (.ref 39), some (.int (nI st)), some (.int (nI t)), a3] [] (va_up I 39 (va_up (I 39) 5 (nI pos))) J Q := by
    intro t pos ht e
    simp (disch := omega) only [k47_149, k47_150, k47_153, nI_ltI]
    by_cases q : 1000 < t
    · have e2 : r = (false, st, 0) := by rw [e]; unfold pnf; rw [if_pos (Or.inl q)]
      rw [if_pos q]
      simp (disch := omega) only [k47_178, k47_179, k47_180, k47_183, k47_184, k47_185, Option.toList_some, Option.toList_none, List.cons_append, List.nil_append, nl_i, nl_r, nl_l, nl_n, c48, va_up_s, up_same]
      have := hno (by rw [e2]) (nI pos)
      rw [e2] at this
      exact this
    · rw [if_neg q]
      simp (disch := omega) only [k47_156, k47_157, k47_160, va_up_s, up_ne, hpr, ← nI_0, nI_leI]
      rcases hpv with ⟨p0, p1⟩ | ⟨p0, p1, p2⟩
      · have e2 : r = (true, pos, t) := by rw [e]; unfold pnf; rw [if_neg (by omega)]
        rw [if_pos (by omega)]
        simp (disch := omega) only [k47_186, k47_187]
        have := hok (by rw [e2])
        rw [e2] at this
        exact this
      · rw [if_neg (by omega)]
        simp (disch := omega) only [k47_163, k47_164, k47_165, k47_168, k47_169, k47_172, k47_173, k47_174, k47_175, va_up_s, up_ne, hpr, pk_sub, nI_clamp, bnd, ly_42, Nat.reduceLT, true_and, and_true, p1, nI_ltI]
        by_cases q2 : t < pv
        · have e2 : r = (true, pos, t) := by rw [e]; unfold pnf; rw [if_neg (by omega)]
          rw [if_pos q2]
          simp (disch := omega) only [k47_186, k47_187]
          have := hok (by rw [e2])
          rw [e2] at this
          exact this
        · have e2 : r = (false, st, 0) := by rw [e]; unfold pnf; rw [if_pos (by omega)]
          rw [if_neg q2]
          simp (disch := omega) only [k47_178, k47_179, k47_180, k47_183, k47_184, k47_185, Option.toList_some, Option.toList_none, List.cons_append, List.nil_append, nl_i, nl_r, nl_l, nl_n, c48, va_up_s, up_same]
          have := hno (by rw [e2]) (nI pos)
          rw [e2] at this
          exact this
  simp (disch := omega) only [k47_61, k47_62, k47_65, k47_66, va_up_s, nIeq]
  by_cases q : n = 0
  · rw [if_pos q] at hr
    rw [if_neg (show ¬ ¬ st + n = st by omega)]
    simp (disch := omega) only [k47_69, k47_70, k47_71, k47_74, k47_77, k47_78, k47_79, Option.toList_some, Option.toList_none, List.cons_append, List.nil_append, nl_i, nl_r, nl_l, nl_n, c48, va_up_s, up_same]
    have := hno (by rw [hr]) (nI (st + n))
    rw [hr] at this
    rw [show st + n = st by omega] at this ⊢
    exact this
  · rw [if_neg q] at hr
    rw [if_pos (show ¬ st + n = st by omega)]
    simp (disch := omega) only [k47_80, k47_81, k47_82, k47_85, k47_88, k47_90, Option.toList_some, Option.toList_none, List.cons_append, List.nil_append, nl_i, nl_r, nl_l, nl_n, va_up_s, c50 (h2 _) hl (show st + n < 1000 by omega), h4]
    by_cases q2 : btF ln (I 40) (st + n) = nI 46
    · rw [if_pos q2] at hr
      rw [if_neg (show ¬ ¬ btF ln (I 40) (st + n) = nI 46 from fun w => w q2)]
      simp (disch := omega) only [k47_93, k47_94, k47_95, k47_98, k47_99, k47_100, k47_103, k47_104, k47_105, k47_108, k47_111, Option.toList_some, Option.toList_none, List.cons_append, List.nil_append, nl_i, nl_r, nl_l, nl_n, va_up_s, up_same, nI_add, c49 (h2 _) hl (show st + n + 1 < 1000 by omega), h4, bI_0]
      cases q3 : isf (btF ln (I 40) (st + n + 1)) with
      | false =>
        rw [q3] at hr
        simp only [Bool.false_eq_true, ↓reduceIte] at hr
        simp (disch := omega) only [not_true_eq_false, ↓reduceIte, k47_114, k47_115, k47_116, k47_119, k47_122, k47_123, k47_124, Option.toList_some, Option.toList_none, List.cons_append, List.nil_append, nl_i, nl_r, nl_l, nl_n, c48, va_up_s, up_same]
        have := hno (by rw [hr]) (nI (st + n + 1))
        rw [hr] at this
        exact this
      | true =>
        rw [q3] at hr
        simp only [↓reduceIte] at hr
        obtain ⟨e1, e2⟩ := isf_n q3
        have e3 : btF ln (I 40) (st + n + 1) - nI 48 = nI (dgt (btF ln (I 40) (st + n + 1))) := by
          conv => lhs; rw [e1]
          rw [pk_sub (by omega)]
          congr 1; omega
        simp (disch := omega) only [Bool.true_eq_false, not_false_eq_true, ↓reduceIte, k47_125, k47_126, k47_127, k47_128, k47_131, k47_134, k47_136, k47_137, k47_138, k47_139, k47_140, k47_141, k47_144, k47_145, k47_146, Option.toList_some, Option.toList_none, List.cons_append, List.nil_append, nl_i, nl_r, nl_l, nl_n, va_up_s, up_same, nI_add, c50 (h2 _) hl (show st + n + 1 < 1000 by omega), h4, e3]
        exact fin _ _ (by omega) hr
    · rw [if_neg q2] at hr
      rw [if_pos q2]
      exact fin _ _ (by omega) hr
set_option maxRecDepth 100000 in
theorem c47 {ln st pv pr : Nat} (h : I 39 3 = nI ln) (hl : ln ≤ 60) (hat : I 39 5 = nI st) (hst : st < 400) (hpr : I 39 4 = nI pr) (hpr6 : pr ≤ 6) (hpv : pr = 0 ∧ pv = 2000 ∨ 0 < pr ∧ I 42 (pr - 1) = nI pv ∧ pv ≤ 1000)
    (hok : (pnm (btF ln (I 40)) st pv).1 = true → Q (some (.int (nI (pnm (btF ln (I 40)) st pv).2.2))) (va_up I 39 (va_up (I 39) 5 (nI (pnm (btF ln (I 40)) st pv).2.1))) J) (hno : (pnm (btF ln (I 40)) st pv).1 = false → ∀ a', Q (some (.int (-1))) (va_up I 39 (va_up (va_up (I 39) 5 a') 6 (nI (pnm (btF ln (I 40)) st pv).2.1))) J) :
    Cal 47 [.ref 39] I J Q := by
  rw [en47]
  simp (disch := omega) only [k47_0, k47_1, k47_4, k47_5, k47_6, k47_7, k47_8, Option.toList_some, Option.toList_none, List.cons_append, List.nil_append, nl_i, nl_r, nl_l, nl_n, hat]
  have key : At 47 9 [some (.ref 39), some (.int (nI st)), some (.int (nI 0)), some (.int (nI 0))] [] (va_up I 39 (va_up (I 39) 5 (nI st))) J Q := by
    rw [n47 h hl (by omega) (by omega)]
    cases q0 : isf (btF ln (I 40) st) with
    | false =>
      simp only [Bool.false_eq_true, ↓reduceIte]
      have e : fgs (btF ln (I 40)) st = (0, 0) := by unfold fgs; rw [q0]; rfl
      exact s47_61 (n := 0) (v := 0) h hl hst (by omega) (by omega) hpr hpr6 hpv (by unfold pnm; rw [e]; rfl) hok hno
    | true =>
      have d0 := (isf_n q0).2
      simp only [↓reduceIte, nl_i]
      rw [n47 h hl (by omega) (by omega)]
      cases q1 : isf (btF ln (I 40) (st + 1)) with
      | false =>
        simp only [Bool.false_eq_true, ↓reduceIte]
        have e : fgs (btF ln (I 40)) st = (1, dgt (btF ln (I 40) st)) := by unfold fgs; rw [q0, q1]; rfl
        have := s47_61 (n := 1) (v := dgt (btF ln (I 40) st)) (a3 := some (.int (nI 1))) h hl hst (by omega) (by omega) hpr hpr6 hpv (by unfold pnm; rw [e]) hok hno
        rwa [show 10 * dgt (btF ln (I 40) st) = 10 * 0 + 10 * dgt (btF ln (I 40) st) by omega] at this
      | true =>
        have d1 := (isf_n q1).2
        simp only [↓reduceIte, nl_i]
        rw [n47 h hl (by omega) (by omega)]
        cases q2 : isf (btF ln (I 40) (st + 1 + 1)) with
        | false =>
          simp only [Bool.false_eq_true, ↓reduceIte]
          have e : fgs (btF ln (I 40)) st = (2, 10 * dgt (btF ln (I 40) st) + dgt (btF ln (I 40) (st + 1))) := by unfold fgs; rw [q0, q1, q2]; rfl
          have := s47_61 (n := 2) (v := 10 * dgt (btF ln (I 40) st) + dgt (btF ln (I 40) (st + 1))) (a3 := some (.int (nI (1 + 1)))) h hl hst (by omega) (by omega) hpr hpr6 hpv (by unfold pnm; rw [e]) hok hno
          rwa [show 10 * (10 * dgt (btF ln (I 40) st) + dgt (btF ln (I 40) (st + 1))) = 10 * (10 * 0 + 10 * dgt (btF ln (I 40) st)) + 10 * dgt (btF ln (I 40) (st + 1)) by omega] at this
        | true =>
          have d2 := (isf_n q2).2
          simp only [↓reduceIte, nl_i]
          have e : fgs (btF ln (I 40)) st = (3, 10 * (10 * dgt (btF ln (I 40) st) + dgt (btF ln (I 40) (st + 1))) + dgt (btF ln (I 40) (st + 1 + 1))) := by unfold fgs; rw [q0, q1, q2]; rfl
          have := s47_61 (n := 3) (v := 10 * (10 * dgt (btF ln (I 40) st) + dgt (btF ln (I 40) (st + 1))) + dgt (btF ln (I 40) (st + 1 + 1))) (a3 := some (.int (nI (1 + 1 + 1)))) h hl hst (by omega) (by omega) hpr hpr6 hpv (by unfold pnm; rw [e]) hok hno
          rw [show 10 * (10 * (10 * dgt (btF ln (I 40) st) + dgt (btF ln (I 40) (st + 1))) + dgt (btF ln (I 40) (st + 1 + 1))) = 10 * (10 * (10 * 0 + 10 * dgt (btF ln (I 40) st)) + 10 * dgt (btF ln (I 40) (st + 1))) + 10 * dgt (btF ln (I 40) (st + 1 + 1)) by omega] at this
          rw [k47_9]
          simp (disch := omega) only [k47_10, k47_11, nI_leI, Nat.reduceAdd, Nat.le_refl, ↓reduceIte]
          exact this
  rw [up_id2 _ hat] at key
  exact key
end LAWS
