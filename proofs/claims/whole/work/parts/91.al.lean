/-! THE LAW'S BODY: one way rules -/
def AL (xs : Nat → Int32) (L : Nat) (pc : Nat) (ls : ab_L) (st : List Value) (z : ab_S) : Prop := ∃ n, ab_lw xs L n pc ls st z = true
theorem lw_up1 (xs : Nat → Int32) (L : Nat) : ∀ (n pc : Nat) (ls : ab_L) (st : List Value) (z : ab_S), ab_lw xs L n pc ls st z = true → ab_lw xs L (n + 1) pc ls st z = true
  | 0, _, _, _, _, h => by cases h
  | n + 1, pc, ls, st, z, h => by
    rw [ab_lw] at h ⊢
    cases hi : ab_cL.lookup pc with
    | none => rw [hi] at h; cases h
    | some i =>
      rw [hi] at h
      dsimp only at h ⊢
      cases hr : ab_lr i st with
      | true => rfl
      | false =>
        rw [hr] at h
        dsimp only at h ⊢
        cases hx : ab_lx xs L i st with
        | some st' => rw [hx] at h; exact lw_up1 xs L n _ _ _ _ h
        | none =>
          rw [hx] at h
          dsimp only at h ⊢
          cases hc : ab_clL i z.2.2.2 st with
          | some q =>
            obtain ⟨y', as, rest⟩ := q
            rw [hc] at h
            dsimp only at h ⊢
            cases h1 : ab_run n y' 0 (ab_en (ab_row y').2.2.1 as) [] z with
            | none => rw [h1] at h; cases h
            | some r =>
              rw [h1] at h
              rw [ab_up1 n _ _ _ _ _ _ h1]
              dsimp only at h ⊢
              split at h
              · rename_i hq
                rw [if_pos hq]
                exact lw_up1 xs L n _ _ _ _ h
              · cases h
          | none =>
            rw [hc] at h
            dsimp only at h ⊢
            cases h1 : ab_ex 11 false i pc ls st z with
            | none => rw [h1] at h; cases h
            | some r =>
              rw [h1] at h
              dsimp only at h ⊢
              split at h
              · rename_i hq
                rw [if_pos hq]
                exact lw_up1 xs L n _ _ _ _ h
              · cases h
theorem lw_upk {xs : Nat → Int32} {L n pc : Nat} {ls : ab_L} {st : List Value} {z : ab_S} (k : Nat) (h : ab_lw xs L n pc ls st z = true) : ab_lw xs L (n + k) pc ls st z = true := by
  induction k with
  | zero => exact h
  | succ k ih => exact lw_up1 xs L (n + k) _ _ _ _ ih
section LW
variable {xs : Nat → Int32} {L pc pc' : Nat} {i : Instr} {ls ls' : ab_L} {st st' : List Value} {z z' : ab_S} {I I' : ab_I} {J J' : ab_J}
theorem AL_end (hi : ab_cL.lookup pc = some i) (hr : ab_lr i st = true) : AL xs L pc ls st z := by
  refine ⟨1, ?_⟩
  rw [ab_lw, hi]
  dsimp only
  rw [hr]
theorem AL_ex (hi : ab_cL.lookup pc = some i) (hr : ab_lr i st = false) (hx : ab_lx xs L i st = none) (hc : ab_clL i z.2.2.2 st = none) (he : ab_ex 11 false i pc ls st z = some (pc', ls', st', z')) (h75 : z'.2.2.2 ≤ 75) (h : AL xs L pc' ls' st' z') : AL xs L pc ls st z := by
  obtain ⟨n, h⟩ := h
  refine ⟨n + 1, ?_⟩
  rw [ab_lw, hi]
  dsimp only
  rw [hr]
  dsimp only
  rw [hx]
  dsimp only
  rw [hc]
  dsimp only
  rw [he]
  dsimp only
  rw [if_pos h75]
  exact h
theorem AL_lx (hi : ab_cL.lookup pc = some i) (hr : ab_lr i st = false) (hx : ab_lx xs L i st = some st') (h : AL xs L (pc + ab_sz i) ls st' z) : AL xs L pc ls st z := by
  obtain ⟨n, h⟩ := h
  refine ⟨n + 1, ?_⟩
  rw [ab_lw, hi]
  dsimp only
  rw [hr]
  dsimp only
  rw [hx]
  exact h
theorem AL_cl {y' n : Nat} {as rest : List Value} {r : Option Value × ab_S} (hi : ab_cL.lookup pc = some i) (hr : ab_lr i st = false) (hx : ab_lx xs L i st = none) (hc : ab_clL i z.2.2.2 st = some (y', as, rest)) (h1 : ab_run n y' 0 (ab_en (ab_row y').2.2.1 as) [] z = some r) (hq : ab_cb y' ls rest z r.2 = true ∧ r.2.2.2.2 ≤ 75) (h : AL xs L (pc + 3) ls (r.1.toList ++ rest) r.2) : AL xs L pc ls st z := by
  obtain ⟨k, h⟩ := h
  refine ⟨n + k + 1, ?_⟩
  rw [ab_lw, hi]
  dsimp only
  rw [hr]
  dsimp only
  rw [hx]
  dsimp only
  rw [hc]
  dsimp only
  rw [ab_upk k h1]
  dsimp only
  rw [if_pos hq, Nat.add_comm n k]
  exact lw_upk n h
/-- a virtual call of the law, by its rows of the tables -/
def lw_qc (pc j y' na ea rk : Nat) : Bool := match ab_md 11 j with
  | some (t, nest, _) => decide (t = y') && decide (t < 1000) && decide ((ab_row y').2.2.2.2.2.2.1 < 100) && ((ab_row y').2.2.2.2.2.1 == false) && ((ab_row y').1.name == "<init>") == false && (nest == 0) && decide (na = (ab_row y').2.2.2.2.1 + 1) && decide (ea ≤ (ab_row y').2.2.1) && (ab_ly rk == (0, ab_own y')) && decide (rk < 75) && decide (ab_cL.lookup pc = some (.invokevirtual j))
  | none => false
theorem AL_cal {j y' na ea rk : Nat} {as rest : List Value} {v : Value} (hq : lw_qc pc j y' na ea rk = true) (hst : st = as.reverse ++ rest) (hna : as.length = na) (hea : (ab_ea as).length = ea) (hrk : as.head? = some (.ref rk)) (h8 : (rest.map (fun v => v.category)).sum ≤ 8) (hC : ∀ Q : Option Value → ab_I → ab_J → Prop, Cal y' as I J Q ↔ Q (some v) I' J') (h : AL xs L (pc + 3) ls (v :: rest) (I', J', ab_RF, 75)) : AL xs L pc ls st (I, J, ab_RF, 75) := by
  unfold lw_qc at hq
  split at hq
  · rename_i t nest q hm
    simp only [Bool.and_eq_true, decide_eq_true_eq, beq_iff_eq] at hq
    obtain ⟨⟨⟨⟨⟨⟨⟨⟨⟨⟨h1, h2⟩, h3⟩, h4⟩, h5⟩, h6⟩, h7⟩, h9⟩, h10⟩, h11⟩, h12⟩ := hq
    obtain ⟨n, v1, I1, J1, hrun, e1, e2, e3⟩ := (hC (fun v' I1 J1 => v' = some v ∧ I1 = I' ∧ J1 = J')).mpr ⟨rfl, rfl, rfl⟩
    subst e1 e2 e3
    have hgo : ab_clL (.invokevirtual j) 75 st = some (y', as, rest) := by
      have e1 : ab_na 0 y' = as.length := by rw [hna, h7]; rfl
      have e2 : (st.take (ab_na 0 y')).reverse = as := by rw [hst, e1, ← List.length_reverse (as := as), List.take_left, List.reverse_reverse]
      have e3 : st.drop (ab_na 0 y') = rest := by rw [hst, e1, ← List.length_reverse (as := as), List.drop_left]
      have hg : ab_gdL 0 y' nest 75 as rest = true := by
        have hrc : ab_rc (ab_own y') 75 as = true := by
          cases as with
          | nil => cases hrk
          | cons w as' =>
            cases hrk
            show (ab_ly rk == (0, ab_own y') && decide (rk < 75)) = true
            rw [h10, decide_eq_true h11]
            simp
        simp only [ab_gdL, Bool.and_eq_true, decide_eq_true_eq, hrc, Bool.or_true, h4, h5, h6]
        refine ⟨⟨⟨⟨⟨⟨⟨?_, h3⟩, h8⟩, ?_⟩, ?_⟩, ?_⟩, ?_⟩, ?_⟩
        · rw [hna, h7]; rfl
        · rfl
        · rfl
        · trivial
        · rfl
        · omega
      unfold ab_clL ab_goL
      dsimp only
      rw [hm]
      dsimp only
      subst h1
      rw [e2, e3, if_pos ⟨h2, hg⟩]
    have hlx : ab_lx xs L (.invokevirtual j) st = none := rfl
    refine AL_cl (i := .invokevirtual j) (z := (I, J, ab_RF, 75)) h12 rfl hlx hgo hrun ⟨?_, Nat.le_refl _⟩ h
    unfold ab_cb
    rw [h5]
    simp
  · cases hq
/-- the locals of the law -/
abbrev lw_L (p : Int32) : ab_L := [some (.ref 999), some (.ref 0), some (.ref 49), some (.int p)]
theorem AL_ld {k : Int} {p : Int32} (hq : ab_cL.lookup pc = some (.aload_n 0) ∧ ab_cL.lookup (pc + 1) = some (.iload_n 3) ∧ ab_cL.lookup (pc + 2) = some (.iconst k) ∧ ab_cL.lookup (pc + 3) = some .iadd ∧ ab_cL.lookup (pc + 4) = some .iaload) (hb : 0 ≤ (p + Int32.ofInt k).toInt ∧ (p + Int32.ofInt k).toInt < L) (h : AL xs L (pc + 5) (lw_L p) (.int (xs (p + Int32.ofInt k).toNatClampNeg) :: st) (I, J, ab_RF, 75)) : AL xs L pc (lw_L p) st (I, J, ab_RF, 75) := by
  obtain ⟨h1, h2, h3, h4, h5⟩ := hq
  refine AL_ex (pc' := pc + 1) (ls' := lw_L p) (st' := .ref 999 :: st) (z' := (I, J, ab_RF, 75)) h1 rfl rfl rfl rfl (Nat.le_refl _) ?_
  refine AL_ex (pc' := pc + 2) (ls' := lw_L p) (st' := .int p :: .ref 999 :: st) (z' := (I, J, ab_RF, 75)) h2 rfl rfl rfl rfl (Nat.le_refl _) ?_
  refine AL_ex (pc' := pc + 3) (ls' := lw_L p) (st' := .int (Int32.ofInt k) :: .int p :: .ref 999 :: st) (z' := (I, J, ab_RF, 75)) h3 rfl rfl rfl rfl (Nat.le_refl _) ?_
  refine AL_ex (pc' := pc + 4) (ls' := lw_L p) (st' := .int (p + Int32.ofInt k) :: .ref 999 :: st) (z' := (I, J, ab_RF, 75)) h4 rfl rfl rfl rfl (Nat.le_refl _) ?_
  refine AL_lx (i := .iaload) h5 rfl ?_ h
  show (if 999 = 999 ∧ 0 ≤ (p + Int32.ofInt k).toInt ∧ (p + Int32.ofInt k).toInt < (L : Int) then some _ else none) = _
  rw [if_pos ⟨rfl, hb.1, hb.2⟩]
theorem AL_a1 {p : Int32} (hq : ab_cL.lookup pc = some (.aload_n 1)) (h : AL xs L (pc + 1) (lw_L p) (.ref 0 :: st) (I, J, ab_RF, 75)) : AL xs L pc (lw_L p) st (I, J, ab_RF, 75) :=
  AL_ex (pc' := pc + 1) (ls' := lw_L p) (st' := .ref 0 :: st) (z' := (I, J, ab_RF, 75)) hq rfl rfl rfl rfl (Nat.le_refl _) h
theorem AL_a2 {p : Int32} (hq : ab_cL.lookup pc = some (.aload_n 2)) (h : AL xs L (pc + 1) (lw_L p) (.ref 49 :: st) (I, J, ab_RF, 75)) : AL xs L pc (lw_L p) st (I, J, ab_RF, 75) :=
  AL_ex (pc' := pc + 1) (ls' := lw_L p) (st' := .ref 49 :: st) (z' := (I, J, ab_RF, 75)) hq rfl rfl rfl rfl (Nat.le_refl _) h
theorem AL_ei {p a b : Int32} {o : Int} (hq : ab_cL.lookup pc = some (.if_icmp .eq o) ∧ 0 ≤ (pc : Int) + o ∧ ab_tg pc o = 1276) (hab : a = b) (h : AL xs L 1276 (lw_L p) [] (I, J, ab_RF, 75)) : AL xs L pc (lw_L p) [.int b, .int a] (I, J, ab_RF, 75) := by
  refine AL_ex (pc' := 1276) (ls' := lw_L p) (st' := []) (z' := (I, J, ab_RF, 75)) hq.1 rfl rfl rfl ?_ (Nat.le_refl _) h
  show (if 0 ≤ (pc : Int) + o then some (if decide (a = b) = true then ab_tg pc o else pc + ab_sz (.if_icmp .eq o), _, _, _) else none) = _
  rw [if_pos hq.2.1, if_pos (decide_eq_true hab), hq.2.2]
theorem AL_ej {p : Int32} {a b : Int64} {o : Int} (hq : ab_cL.lookup pc = some .lcmp ∧ ab_cL.lookup (pc + 1) = some (.ifCond .eq o) ∧ 0 ≤ ((pc + 1 : Nat) : Int) + o ∧ ab_tg (pc + 1) o = 1276) (hab : a = b) (h : AL xs L 1276 (lw_L p) [] (I, J, ab_RF, 75)) : AL xs L pc (lw_L p) [.long b, .long a] (I, J, ab_RF, 75) := by
  refine AL_ex (pc' := pc + 1) (ls' := lw_L p) (st' := [.int (lg_cmp a b)]) (z' := (I, J, ab_RF, 75)) hq.1 rfl rfl rfl rfl (Nat.le_refl _) ?_
  refine AL_ex (pc' := 1276) (ls' := lw_L p) (st' := []) (z' := (I, J, ab_RF, 75)) hq.2.1 rfl rfl rfl ?_ (Nat.le_refl _) h
  show (if 0 ≤ ((pc + 1 : Nat) : Int) + o then some (if decide (lg_cmp a b = 0) = true then ab_tg (pc + 1) o else pc + 1 + ab_sz (.ifCond .eq o), _, _, _) else none) = _
  have e0 : lg_cmp a b = 0 := by rw [hab]; unfold lg_cmp; simp
  rw [if_pos hq.2.2.1, if_pos (decide_eq_true e0), hq.2.2.2]
end LW
