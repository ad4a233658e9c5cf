/-! THE JUDGEMENT of the small machine: At y pc locals stack ints longs Q -/
def ab_RF : List (List (Option Nat)) := [[some 1, some 5, some 17, some 29, some 30, some 33, some 39, some 43, some 47, some 48, none, none, none, none, none, none, none, none, none, none, none, none, none, none, none, none, none, none, none, none, none, none, none, none, none, none, none, none, none, none, none],
  [some 2, some 3, some 4, none, none, none, none, none, none, none, none, none, none, none, none, none, none, none, none, none, none, none, none, none, none, none, none, none, none, none, none, none, none, none, none, none, none, none, none, none, none],
  [],
  [],
  [],
  [some 6, some 7, some 8, some 9, some 10, some 11, some 12, some 13, some 14, some 15, some 16, none, none, none, none, none, none, none, none, none, none, none, none, none, none, none, none, none, none, none, none, none, none, none, none, none, none, none, none, none, none],
  [],
  [],
  [],
  [],
  [],
  [],
  [],
  [],
  [],
  [],
  [],
  [some 18, some 19, some 20, some 21, some 22, some 23, some 24, some 25, some 26, some 27, some 28, none, none, none, none, none, none, none, none, none, none, none, none, none, none, none, none, none, none, none, none, none, none, none, none, none, none, none, none, none, none],
  [],
  [],
  [],
  [],
  [],
  [],
  [],
  [],
  [],
  [],
  [],
  [none, none, none, none, none, none, none, none, none, none, none, none, none, none, none, none, none, none, none, none, none, none, none, none, none, none, none, none, none, none, none, none, none, none, none, none, none, none, none, none, none],
  [some 31, some 32, none, none, none, none, none, none, none, none, none, none, none, none, none, none, none, none, none, none, none, none, none, none, none, none, none, none, none, none, none, none, none, none, none, none, none, none, none, none, none],
  [],
  [],
  [some 34, some 35, some 36, some 37, some 38, none, none, none, none, none, none, none, none, none, none, none, none, none, none, none, none, none, none, none, none, none, none, none, none, none, none, none, none, none, none, none, none, none, none, none, none],
  [],
  [],
  [],
  [],
  [],
  [some 40, some 41, some 42, none, none, none, none, none, none, none, none, none, none, none, none, none, none, none, none, none, none, none, none, none, none, none, none, none, none, none, none, none, none, none, none, none, none, none, none, none, none],
  [],
  [],
  [],
  [some 44, some 45, some 46, none, none, none, none, none, none, none, none, none, none, none, none, none, none, none, none, none, none, none, none, none, none, none, none, none, none, none, none, none, none, none, none, none, none, none, none, none, none],
  [],
  [],
  [],
  [],
  [],
  [none, some 50, some 51, some 52, some 53, none, some 54, some 55, some 56, some 57, some 58, some 59, some 60, some 61, none, some 62, some 63, none, none, some 64, none, none, none, some 65, some 66, none, none, none, none, none, none, none, some 67, some 68, some 69, some 70, some 71, some 72, some 73, some 74, none],
  [],
  [],
  [],
  [],
  [],
  [],
  [],
  [],
  [],
  [],
  [],
  [],
  [],
  [],
  [],
  [],
  [],
  [],
  [],
  [],
  [],
  [],
  [],
  [],
  []]
abbrev ab_I : Type := Nat → Nat → Int32
abbrev ab_J : Type := Nat → Nat → Int64
def At (y pc : Nat) (ls : ab_L) (st : List Value) (I : ab_I) (J : ab_J) (Q : Option Value → ab_I → ab_J → Prop) : Prop := ∃ (n : Nat) (v : Option Value) (I' : ab_I) (J' : ab_J), ab_run n y pc ls st (I, J, ab_RF, 75) = some (v, I', J', ab_RF, 75) ∧ Q v I' J'
def Cal (y : Nat) (as : List Value) (I : ab_I) (J : ab_J) (Q : Option Value → ab_I → ab_J → Prop) : Prop := At y 0 (ab_en (ab_row y).2.2.1 as) [] I J Q
theorem ab_up1 : ∀ (n y pc : Nat) (ls : ab_L) (st : List Value) (z : ab_S) (r : Option Value × ab_S), ab_run n y pc ls st z = some r → ab_run (n + 1) y pc ls st z = some r
  | 0, _, _, _, _, _, _, h => by cases h
  | n + 1, y, pc, ls, st, z, r, h => by
    unfold ab_run at h ⊢
    cases hi : ab_ins y pc with
    | none => rw [hi] at h; cases h
    | some i =>
      rw [hi] at h
      dsimp only at h ⊢
      cases hr : ab_rt (ab_row y).2.2.2.1 i st with
      | some v => rw [hr] at h; exact h
      | none =>
        rw [hr] at h
        dsimp only at h ⊢
        cases hc : ab_cl y i z.2.2.2 st with
        | some q =>
          obtain ⟨y', as, rest⟩ := q
          rw [hc] at h
          dsimp only at h ⊢
          rw [Option.bind_eq_some_iff] at h ⊢
          obtain ⟨r1, h1, h2⟩ := h
          refine ⟨r1, ab_up1 n _ _ _ _ _ _ h1, ?_⟩
          split at h2
          · rename_i hq
            rw [if_pos hq]
            exact ab_up1 n _ _ _ _ _ _ h2
          · cases h2
        | none =>
          rw [hc] at h
          dsimp only at h ⊢
          rw [Option.bind_eq_some_iff] at h ⊢
          obtain ⟨r1, h1, h2⟩ := h
          exact ⟨r1, h1, ab_up1 n _ _ _ _ _ _ h2⟩
theorem ab_upk {n y pc : Nat} {ls : ab_L} {st : List Value} {z : ab_S} {r : Option Value × ab_S} (k : Nat) (h : ab_run n y pc ls st z = some r) : ab_run (n + k) y pc ls st z = some r := by
  induction k with
  | zero => exact h
  | succ k ih => exact ab_up1 (n + k) _ _ _ _ _ _ ih
section AT
variable {y pc pc' : Nat} {i : Instr} {ls ls' : ab_L} {st st' : List Value} {I I' : ab_I} {J J' : ab_J} {Q : Option Value → ab_I → ab_J → Prop}
theorem At_ex (hi : ab_ins y pc = some i) (hr : ab_rt (ab_row y).2.2.2.1 i st = none) (hc : ab_cl y i 75 st = none) (hx : ab_ex (ab_own y) ((ab_row y).1.name == "<init>") i pc ls st (I, J, ab_RF, 75) = some (pc', ls', st', (I', J', ab_RF, 75))) : At y pc ls st I J Q ↔ At y pc' ls' st' I' J' Q := by
  have key : ∀ n, ab_run (n + 1) y pc ls st (I, J, ab_RF, 75) = ab_run n y pc' ls' st' (I', J', ab_RF, 75) := by
    intro n
    rw [ab_run, hi]
    dsimp only
    rw [hr]
    dsimp only
    rw [hc]
    dsimp only
    rw [hx]
    rfl
  constructor
  · rintro ⟨n, v, I1, J1, h, q⟩
    cases n with
    | zero => cases h
    | succ n => exact ⟨n, v, I1, J1, by rw [← key]; exact h, q⟩
  · rintro ⟨n, v, I1, J1, h, q⟩
    exact ⟨n + 1, v, I1, J1, by rw [key]; exact h, q⟩
theorem At_no (hi : ab_ins y pc = some i) (hr : ab_rt (ab_row y).2.2.2.1 i st = none) (hc : ab_cl y i 75 st = none) (hx : ab_ex (ab_own y) ((ab_row y).1.name == "<init>") i pc ls st (I, J, ab_RF, 75) = none) : ¬ At y pc ls st I J Q := by
  rintro ⟨n, v, I1, J1, h, q⟩
  cases n with
  | zero => cases h
  | succ n =>
    rw [ab_run, hi] at h
    dsimp only at h
    rw [hr] at h
    dsimp only at h
    rw [hc] at h
    dsimp only at h
    rw [hx] at h
    cases h
theorem At_rt {v : Option Value} (hi : ab_ins y pc = some i) (hr : ab_rt (ab_row y).2.2.2.1 i st = some v) : At y pc ls st I J Q ↔ Q v I J := by
  have key : ∀ n, ab_run (n + 1) y pc ls st (I, J, ab_RF, 75) = some (v, I, J, ab_RF, 75) := by
    intro n
    rw [ab_run, hi]
    dsimp only
    rw [hr]
  constructor
  · rintro ⟨n, v1, I1, J1, h, q⟩
    cases n with
    | zero => cases h
    | succ n => rw [key] at h; cases h; exact q
  · intro q
    exact ⟨1, v, I, J, key 0, q⟩
theorem At_cl {y' : Nat} {as rest : List Value} (hni : ((ab_row y').1.name == "<init>") = false) (hi : ab_ins y pc = some i) (hr : ab_rt (ab_row y).2.2.2.1 i st = none) (hc : ab_cl y i 75 st = some (y', as, rest)) : At y pc ls st I J Q ↔ Cal y' as I J (fun v I' J' => At y (pc + 3) ls (v.toList ++ rest) I' J' Q) := by
  have key : ∀ n, ab_run (n + 1) y pc ls st (I, J, ab_RF, 75) = (ab_run n y' 0 (ab_en (ab_row y').2.2.1 as) [] (I, J, ab_RF, 75)).bind (fun r => if ab_cb y' ls rest (I, J, ab_RF, 75) r.2 = true then ab_run n y (pc + 3) ls (r.1.toList ++ rest) r.2 else none) := by
    intro n
    rw [ab_run, hi]
    dsimp only
    rw [hr]
    dsimp only
    rw [hc]
  constructor
  · rintro ⟨n, v1, I1, J1, h, q⟩
    cases n with
    | zero => cases h
    | succ n =>
      rw [key, Option.bind_eq_some_iff] at h
      obtain ⟨⟨v2, I2, J2, R2, n2⟩, h1, h2⟩ := h
      dsimp only at h2
      split at h2
      · rename_i hcb
        unfold ab_cb at hcb
        rw [hni] at hcb
        have e1 : (R2, n2) = (ab_RF, 75) := of_decide_eq_true hcb
        cases e1
        exact ⟨n, v2, I2, J2, h1, n, v1, I1, J1, h2, q⟩
      · cases h2
  · rintro ⟨n1, v1, I1, J1, h1, n2, v2, I2, J2, h2, q⟩
    refine ⟨n1 + n2 + 1, v2, I2, J2, ?_, q⟩
    rw [key, ab_upk n2 h1]
    show (if ab_cb y' ls rest (I, J, ab_RF, 75) (I1, J1, ab_RF, 75) = true then _ else none) = _
    rw [if_pos (by simp [ab_cb, hni]), Nat.add_comm n1 n2]
    exact ab_upk n1 h2
/-- a stack instruction -/
theorem At_op {st2 : List Value} (hi : ab_ins y pc = some i) (hr : ab_rt (ab_row y).2.2.2.1 i st = none) (hc : ab_cl y i 75 st = none) (ho : ab_op i st = some st2) : At y pc ls st I J Q ↔ At y (pc + ab_sz i) ls st2 I J Q :=
  At_ex hi hr hc (by unfold ab_ex; rw [ho])
theorem At_opc {st2 : List Value} {P : Prop} [Decidable P] (hi : ab_ins y pc = some i) (hr : ab_rt (ab_row y).2.2.2.1 i st = none) (hc : ab_cl y i 75 st = none) (ho : ab_op i st = if P then none else some st2) (hl : ab_lo i ls st = none) (hb : ab_br i st = none) (hh : ab_he (ab_own y) ((ab_row y).1.name == "<init>") i st (I, J, ab_RF, 75) = none) (hw : ab_nw (ab_own y) i ls st (I, J, ab_RF, 75) = none) : At y pc ls st I J Q ↔ ¬ P ∧ At y (pc + ab_sz i) ls st2 I J Q := by
  by_cases hP : P
  · exact iff_of_false (At_no hi hr hc (by unfold ab_ex; rw [ho, if_pos hP, hl, hb, hh, hw])) (fun q => q.1 hP)
  · rw [At_op hi hr hc (ho.trans (if_neg hP))]
    exact ⟨fun q => ⟨hP, q⟩, fun q => q.2⟩
/-- a local's instruction -/
theorem At_lo (hi : ab_ins y pc = some i) (hr : ab_rt (ab_row y).2.2.2.1 i st = none) (hc : ab_cl y i 75 st = none) (ho : ab_op i st = none) (hl : ab_lo i ls st = some (ls', st')) : At y pc ls st I J Q ↔ At y (pc + ab_sz i) ls' st' I J Q :=
  At_ex hi hr hc (by unfold ab_ex; rw [ho]; dsimp only; rw [hl])
/-- a jump -/
theorem At_br {P : Prop} [Decidable P] {o : Int} (hi : ab_ins y pc = some i) (hr : ab_rt (ab_row y).2.2.2.1 i st = none) (hc : ab_cl y i 75 st = none) (ho : ab_op i st = none) (hl : ab_lo i ls st = none) (hb : ab_br i st = some (decide P, o, st')) (h0 : 0 ≤ (pc : Int) + o) : At y pc ls st I J Q ↔ if P then At y (ab_tg pc o) ls st' I J Q else At y (pc + ab_sz i) ls st' I J Q := by
  rw [At_ex (pc' := if decide P = true then ab_tg pc o else pc + ab_sz i) (ls' := ls) (st' := st') (I' := I) (J' := J) hi hr hc (by unfold ab_ex; rw [ho]; dsimp only; rw [hl]; dsimp only; rw [hb]; dsimp only; rw [if_pos h0])]
  by_cases hP : P
  · rw [if_pos hP, if_pos (decide_eq_true hP)]
  · rw [if_neg hP, if_neg (by simpa only [decide_eq_true_eq] using hP)]
theorem At_gt {o : Int} (hi : ab_ins y pc = some i) (hr : ab_rt (ab_row y).2.2.2.1 i st = none) (hc : ab_cl y i 75 st = none) (ho : ab_op i st = none) (hl : ab_lo i ls st = none) (hb : ab_br i st = some (true, o, st')) (h0 : 0 ≤ (pc : Int) + o) : At y pc ls st I J Q ↔ At y (ab_tg pc o) ls st' I J Q :=
  At_ex hi hr hc (by unfold ab_ex; rw [ho]; dsimp only; rw [hl]; dsimp only; rw [hb]; dsimp only; rw [if_pos h0]; rfl)
/-- a cell's instruction -/
theorem At_he (hi : ab_ins y pc = some i) (hr : ab_rt (ab_row y).2.2.2.1 i st = none) (hc : ab_cl y i 75 st = none) (ho : ab_op i st = none) (hl : ab_lo i ls st = none) (hb : ab_br i st = none) (hh : ab_he (ab_own y) ((ab_row y).1.name == "<init>") i st (I, J, ab_RF, 75) = some (st', (I', J', ab_RF, 75))) : At y pc ls st I J Q ↔ At y (pc + ab_sz i) ls st' I' J' Q :=
  At_ex hi hr hc (by unfold ab_ex; rw [ho]; dsimp only; rw [hl]; dsimp only; rw [hb]; dsimp only; rw [hh])
theorem At_hec {P : Prop} [Decidable P] (hi : ab_ins y pc = some i) (hr : ab_rt (ab_row y).2.2.2.1 i st = none) (hc : ab_cl y i 75 st = none) (ho : ab_op i st = none) (hl : ab_lo i ls st = none) (hb : ab_br i st = none) (hh : ab_he (ab_own y) ((ab_row y).1.name == "<init>") i st (I, J, ab_RF, 75) = if P then some (st', (I', J', ab_RF, 75)) else none) (hw : ab_nw (ab_own y) i ls st (I, J, ab_RF, 75) = none) : At y pc ls st I J Q ↔ P ∧ At y (pc + ab_sz i) ls st' I' J' Q := by
  by_cases hP : P
  · rw [At_he hi hr hc ho hl hb (hh.trans (if_pos hP))]
    exact ⟨fun q => ⟨hP, q⟩, fun q => q.2⟩
  · exact iff_of_false (At_no hi hr hc (by unfold ab_ex; rw [ho]; dsimp only; rw [hl]; dsimp only; rw [hb]; dsimp only; rw [hh, if_neg hP]; dsimp only; rw [hw])) (fun q => hP q.1)
theorem At_zr {x : Int32} (hi : ab_ins y pc = some .ireturn) (hr : (ab_row y).2.2.2.1 = some .boolean) (hc : ab_cl y .ireturn 75 [.int x] = none) : At y pc ls [.int x] I J Q ↔ (x = 0 ∨ x = 1) ∧ Q (some (.int x)) I J := by
  by_cases hP : x = 0 ∨ x = 1
  · rw [At_rt (v := some (.int x)) hi (by rw [hr]; show (if x = 0 ∨ x = 1 then some (some (Value.int x)) else none) = _; rw [if_pos hP])]
    exact ⟨fun q => ⟨hP, q⟩, fun q => q.2⟩
  · exact iff_of_false (At_no hi (by rw [hr]; show (if x = 0 ∨ x = 1 then some (some (Value.int x)) else none) = _; rw [if_neg hP]) hc (by unfold ab_ex; rfl)) (fun q => hP q.1)
/-- what a call asks for that stands in the tables -/
def ab_gs (kd y y' nest : Nat) : Bool :=
  let q := ab_row y'
  decide (q.2.2.2.2.2.2.1 < (ab_row y).2.2.2.2.2.2.1) && (q.2.2.2.2.2.1 == (kd == 1)) && ((q.1.name == "<init>") == (kd == 2)) && (kd != 0 || nest == 0) && (kd != 2)
theorem At_c2 {y' t nest q j kd : Nat} {as rest : List Value} (hi : ab_ins y pc = some (if kd = 1 then .invokestatic j else .invokevirtual j)) (hm : ab_md (ab_own y) j = some (t, nest, q)) (ht : ab_to y t = some y') (hs : (decide (t < 1000) && decide (kd ≤ 1) && ab_gs kd y y' nest && decide (as.length = (ab_row y').2.2.2.2.1 + (if kd = 1 then 0 else 1))) = true) (hst : st = as.reverse ++ rest) (hdyn : (decide ((rest.map (fun v => v.category)).sum ≤ 8) && (kd == 1 || ab_rc (ab_own y') 75 as) && decide ((ab_ea as).length ≤ (ab_row y').2.2.1)) = true) (hr : ab_rt (ab_row y).2.2.2.1 (if kd = 1 then .invokestatic j else .invokevirtual j) st = none) : At y pc ls st I J Q ↔ Cal y' as I J (fun v I' J' => At y (pc + 3) ls (v.toList ++ rest) I' J' Q) := by
  simp only [Bool.and_eq_true, decide_eq_true_eq, ab_gs, beq_iff_eq, bne_iff_ne] at hs hdyn
  obtain ⟨⟨⟨h1, h2⟩, ⟨⟨⟨g1, g2⟩, g3⟩, g4⟩, g5⟩, h3⟩ := hs
  have hgo : ab_go y kd j 75 st = some (y', as, rest) := by
    have e1 : ab_na kd y' = as.length := h3.symm
    have e2 : (st.take (ab_na kd y')).reverse = as := by rw [hst, e1, ← List.length_reverse (as := as), List.take_left, List.reverse_reverse]
    have e3 : st.drop (ab_na kd y') = rest := by rw [hst, e1, ← List.length_reverse (as := as), List.drop_left]
    have hg : ab_gd kd y y' nest 75 as rest = true := by
      simp only [ab_gd, Bool.and_eq_true, decide_eq_true_eq, beq_iff_eq]
      exact ⟨⟨⟨⟨⟨⟨⟨h3, g1⟩, hdyn.1.1⟩, g2⟩, g3⟩, hdyn.1.2⟩, g4⟩, hdyn.2⟩
    unfold ab_go
    rw [hm]
    dsimp only
    rw [ht]
    dsimp only
    rw [e2, e3, if_pos ⟨h1, hg⟩]
  refine At_cl ?_ hi hr ?_
  · rw [g3]
    simp only [beq_eq_false_iff_ne]
    exact g5
  · by_cases hk : kd = 1
    · subst hk
      exact hgo
    · have hk0 : kd = 0 := by omega
      subst hk0
      exact hgo
/-- a contract out of a run -/
theorem Cal_iff {as : List Value} {v : Option Value} (h : Cal y as I J (fun v' I1 J1 => v' = v ∧ I1 = I' ∧ J1 = J')) : Cal y as I J Q ↔ Q v I' J' := by
  obtain ⟨n, v1, I1, J1, h1, rfl, rfl, rfl⟩ := h
  constructor
  · rintro ⟨n2, v2, I2, J2, h2, q⟩
    have e1 := ab_upk n2 h1
    have e2 := ab_upk n h2
    rw [Nat.add_comm] at e2
    rw [e1] at e2
    cases e2
    exact q
  · intro q
    exact ⟨n, v1, I1, J1, h1, q⟩
end AT
def ab_nv (o : Option Value) : Option Value := if ab_ca o then none else o
theorem nl_i (x : Int32) : ab_nv (some (.int x)) = some (.int x) := rfl
theorem nl_r (x : Nat) : ab_nv (some (.ref x)) = some (.ref x) := rfl
theorem nl_l (x : Int64) : ab_nv (some (.long x)) = none := rfl
theorem nl_n : ab_nv none = none := rfl
section AR
variable {y pc : Nat} {ls ls' : ab_L} {st : List Value} {I : ab_I} {J : ab_J} {Q : Option Value → ab_I → ab_J → Prop} {x x1 x2 : Int32} {u u1 : Int64} {r r1 k f j : Nat}
theorem A_iconst {n : Int} {v : Int32} (hi : ab_ins y pc = some (.iconst n)) (hv : Int32.ofInt n = v) : At y pc ls st I J Q ↔ At y (pc + 1) ls (.int v :: st) I J Q := At_op (i := .iconst n) hi rfl rfl (congrArg (fun c => some (Value.int c :: st)) hv)
theorem A_bipush {n : Int} {v : Int32} (hi : ab_ins y pc = some (.bipush n)) (hv : (Int8.ofInt n).toInt32 = v) : At y pc ls st I J Q ↔ At y (pc + 2) ls (.int v :: st) I J Q := At_op (i := .bipush n) hi rfl rfl (congrArg (fun c => some (Value.int c :: st)) hv)
theorem A_sipush {n : Int} {v : Int32} (hi : ab_ins y pc = some (.sipush n)) (hv : (Int16.ofInt n).toInt32 = v) : At y pc ls st I J Q ↔ At y (pc + 3) ls (.int v :: st) I J Q := At_op (i := .sipush n) hi rfl rfl (congrArg (fun c => some (Value.int c :: st)) hv)
theorem A_lconst {n : Fin 2} {v : Int64} (hi : ab_ins y pc = some (.lconst n)) (hv : Int64.ofNat (n : Nat) = v) : At y pc ls st I J Q ↔ At y (pc + 1) ls (.long v :: st) I J Q := At_op (i := .lconst n) hi rfl rfl (congrArg (fun c => some (Value.long c :: st)) hv)
theorem A_iadd (hi : ab_ins y pc = some .iadd) : At y pc ls (.int x1 :: .int x :: st) I J Q ↔ At y (pc + 1) ls (.int (x + x1) :: st) I J Q := At_op (i := .iadd) hi rfl rfl rfl
theorem A_isub (hi : ab_ins y pc = some .isub) : At y pc ls (.int x1 :: .int x :: st) I J Q ↔ At y (pc + 1) ls (.int (x - x1) :: st) I J Q := At_op (i := .isub) hi rfl rfl rfl
theorem A_imul (hi : ab_ins y pc = some .imul) : At y pc ls (.int x1 :: .int x :: st) I J Q ↔ At y (pc + 1) ls (.int (x * x1) :: st) I J Q := At_op (i := .imul) hi rfl rfl rfl
theorem A_iand (hi : ab_ins y pc = some .iand) : At y pc ls (.int x1 :: .int x :: st) I J Q ↔ At y (pc + 1) ls (.int (x &&& x1) :: st) I J Q := At_op (i := .iand) hi rfl rfl rfl
theorem A_ior (hi : ab_ins y pc = some .ior) : At y pc ls (.int x1 :: .int x :: st) I J Q ↔ At y (pc + 1) ls (.int (x ||| x1) :: st) I J Q := At_op (i := .ior) hi rfl rfl rfl
theorem A_ixor (hi : ab_ins y pc = some .ixor) : At y pc ls (.int x1 :: .int x :: st) I J Q ↔ At y (pc + 1) ls (.int (x ^^^ x1) :: st) I J Q := At_op (i := .ixor) hi rfl rfl rfl
theorem A_ishl (hi : ab_ins y pc = some .ishl) : At y pc ls (.int x1 :: .int x :: st) I J Q ↔ At y (pc + 1) ls (.int (x <<< (x1 &&& 31)) :: st) I J Q := At_op (i := .ishl) hi rfl rfl rfl
theorem A_ishr (hi : ab_ins y pc = some .ishr) : At y pc ls (.int x1 :: .int x :: st) I J Q ↔ At y (pc + 1) ls (.int (x >>> (x1 &&& 31)) :: st) I J Q := At_op (i := .ishr) hi rfl rfl rfl
theorem A_iushr (hi : ab_ins y pc = some .iushr) : At y pc ls (.int x1 :: .int x :: st) I J Q ↔ At y (pc + 1) ls (.int ((x.toUInt32 >>> (x1.toUInt32 &&& Int32.toUInt32 31)).toInt32) :: st) I J Q := At_op (i := .iushr) hi rfl rfl rfl
theorem A_idiv (hi : ab_ins y pc = some .idiv) : At y pc ls (.int x1 :: .int x :: st) I J Q ↔ ¬ x1 = 0 ∧ At y (pc + 1) ls (.int (x / x1) :: st) I J Q := At_opc (i := .idiv) hi rfl rfl rfl rfl rfl rfl rfl
theorem A_irem (hi : ab_ins y pc = some .irem) : At y pc ls (.int x1 :: .int x :: st) I J Q ↔ ¬ x1 = 0 ∧ At y (pc + 1) ls (.int (x - x / x1 * x1) :: st) I J Q := At_opc (i := .irem) hi rfl rfl rfl rfl rfl rfl rfl
theorem A_ladd (hi : ab_ins y pc = some .ladd) : At y pc ls (.long u1 :: .long u :: st) I J Q ↔ At y (pc + 1) ls (.long (u + u1) :: st) I J Q := At_op (i := .ladd) hi rfl rfl rfl
theorem A_lsub (hi : ab_ins y pc = some .lsub) : At y pc ls (.long u1 :: .long u :: st) I J Q ↔ At y (pc + 1) ls (.long (u - u1) :: st) I J Q := At_op (i := .lsub) hi rfl rfl rfl
theorem A_lmul (hi : ab_ins y pc = some .lmul) : At y pc ls (.long u1 :: .long u :: st) I J Q ↔ At y (pc + 1) ls (.long (u * u1) :: st) I J Q := At_op (i := .lmul) hi rfl rfl rfl
theorem A_ldiv (hi : ab_ins y pc = some .ldiv) : At y pc ls (.long u1 :: .long u :: st) I J Q ↔ ¬ u1 = 0 ∧ At y (pc + 1) ls (.long (u / u1) :: st) I J Q := At_opc (i := .ldiv) hi rfl rfl rfl rfl rfl rfl rfl
theorem A_lrem (hi : ab_ins y pc = some .lrem) : At y pc ls (.long u1 :: .long u :: st) I J Q ↔ ¬ u1 = 0 ∧ At y (pc + 1) ls (.long (u - u / u1 * u1) :: st) I J Q := At_opc (i := .lrem) hi rfl rfl rfl rfl rfl rfl rfl
theorem A_lneg (hi : ab_ins y pc = some .lneg) : At y pc ls (.long u :: st) I J Q ↔ At y (pc + 1) ls (.long (-u) :: st) I J Q := At_op (i := .lneg) hi rfl rfl rfl
theorem A_lcmp (hi : ab_ins y pc = some .lcmp) : At y pc ls (.long u1 :: .long u :: st) I J Q ↔ At y (pc + 1) ls (.int (lg_cmp u u1) :: st) I J Q := At_op (i := .lcmp) hi rfl rfl rfl
theorem A_i2l (hi : ab_ins y pc = some .i2l) : At y pc ls (.int x :: st) I J Q ↔ At y (pc + 1) ls (.long x.toInt64 :: st) I J Q := At_op (i := .i2l) hi rfl rfl rfl
theorem A_l2i (hi : ab_ins y pc = some .l2i) : At y pc ls (.long u :: st) I J Q ↔ At y (pc + 1) ls (.int u.toInt32 :: st) I J Q := At_op (i := .l2i) hi rfl rfl rfl
theorem A_i2b (hi : ab_ins y pc = some .i2b) : At y pc ls (.int x :: st) I J Q ↔ At y (pc + 1) ls (.int x.toInt8.toInt32 :: st) I J Q := At_op (i := .i2b) hi rfl rfl rfl
theorem A_i2s (hi : ab_ins y pc = some .i2s) : At y pc ls (.int x :: st) I J Q ↔ At y (pc + 1) ls (.int x.toInt16.toInt32 :: st) I J Q := At_op (i := .i2s) hi rfl rfl rfl
theorem A_dupI (hi : ab_ins y pc = some .dup) : At y pc ls (.int x :: st) I J Q ↔ At y (pc + 1) ls (.int x :: .int x :: st) I J Q := At_op (i := .dup) hi rfl rfl rfl
theorem A_dupA (hi : ab_ins y pc = some .dup) : At y pc ls (.ref r :: st) I J Q ↔ At y (pc + 1) ls (.ref r :: .ref r :: st) I J Q := At_op (i := .dup) hi rfl rfl rfl
theorem A_dup2 (hi : ab_ins y pc = some .dup2) : At y pc ls (.int x :: .ref r :: st) I J Q ↔ At y (pc + 1) ls (.int x :: .ref r :: .int x :: .ref r :: st) I J Q := At_op (i := .dup2) hi rfl rfl rfl
theorem A_popI (hi : ab_ins y pc = some .pop) : At y pc ls (.int x :: st) I J Q ↔ At y (pc + 1) ls st I J Q := At_op (i := .pop) hi rfl rfl rfl
theorem A_iload_n {q : Fin 4} (hi : ab_ins y pc = some (.iload_n q)) (hg : ab_lg ls q = some (.int x)) : At y pc ls st I J Q ↔ At y (pc + 1) ls (.int x :: st) I J Q := At_lo (i := .iload_n q) hi rfl rfl rfl (by unfold ab_lo; dsimp only; rw [hg])
theorem A_iload {q : Nat} (hi : ab_ins y pc = some (.iload q)) (hg : ab_lg ls q = some (.int x)) : At y pc ls st I J Q ↔ At y (pc + 2) ls (.int x :: st) I J Q := At_lo (i := .iload q) hi rfl rfl rfl (by unfold ab_lo; dsimp only; rw [hg])
theorem A_lload_n {q : Fin 4} (hi : ab_ins y pc = some (.lload_n q)) (hg : ab_lg ls q = some (.long u)) : At y pc ls st I J Q ↔ At y (pc + 1) ls (.long u :: st) I J Q := At_lo (i := .lload_n q) hi rfl rfl rfl (by unfold ab_lo; dsimp only; rw [hg])
theorem A_lload {q : Nat} (hi : ab_ins y pc = some (.lload q)) (hg : ab_lg ls q = some (.long u)) : At y pc ls st I J Q ↔ At y (pc + 2) ls (.long u :: st) I J Q := At_lo (i := .lload q) hi rfl rfl rfl (by unfold ab_lo; dsimp only; rw [hg])
theorem A_aload_n {q : Fin 4} (hi : ab_ins y pc = some (.aload_n q)) (hg : ab_lg ls q = some (.ref r)) : At y pc ls st I J Q ↔ At y (pc + 1) ls (.ref r :: st) I J Q := At_lo (i := .aload_n q) hi rfl rfl rfl (by unfold ab_lo; dsimp only; rw [hg])
theorem A_aload {q : Nat} (hi : ab_ins y pc = some (.aload q)) (hg : ab_lg ls q = some (.ref r)) : At y pc ls st I J Q ↔ At y (pc + 2) ls (.ref r :: st) I J Q := At_lo (i := .aload q) hi rfl rfl rfl (by unfold ab_lo; dsimp only; rw [hg])
theorem A_istore_n {q : Fin 4} (hi : ab_ins y pc = some (.istore_n q)) (hq : (q : Nat) < ls.length) (hg : ab_s1 ls q (.int x) = ls') : At y pc ls (.int x :: st) I J Q ↔ At y (pc + 1) ls' st I J Q := At_lo (i := .istore_n q) hi rfl rfl rfl (by unfold ab_lo; dsimp only; rw [if_pos hq, hg])
theorem A_istore {q : Nat} (hi : ab_ins y pc = some (.istore q)) (hq : q < ls.length) (hg : ab_s1 ls q (.int x) = ls') : At y pc ls (.int x :: st) I J Q ↔ At y (pc + 2) ls' st I J Q := At_lo (i := .istore q) hi rfl rfl rfl (by unfold ab_lo; dsimp only; rw [if_pos hq, hg])
theorem A_lstore_n {q : Fin 4} (hi : ab_ins y pc = some (.lstore_n q)) (hq : (q : Nat) + 1 < ls.length) (hg : ab_s2 ls q (.long u) = ls') : At y pc ls (.long u :: st) I J Q ↔ At y (pc + 1) ls' st I J Q := At_lo (i := .lstore_n q) hi rfl rfl rfl (by unfold ab_lo; dsimp only; rw [if_pos hq, hg])
theorem A_lstore {q : Nat} (hi : ab_ins y pc = some (.lstore q)) (hq : q + 1 < ls.length) (hg : ab_s2 ls q (.long u) = ls') : At y pc ls (.long u :: st) I J Q ↔ At y (pc + 2) ls' st I J Q := At_lo (i := .lstore q) hi rfl rfl rfl (by unfold ab_lo; dsimp only; rw [if_pos hq, hg])
theorem A_astore_n {q : Fin 4} (hi : ab_ins y pc = some (.astore_n q)) (hq : (q : Nat) < ls.length) (hg : ab_s1 ls q (.ref r) = ls') : At y pc ls (.ref r :: st) I J Q ↔ At y (pc + 1) ls' st I J Q := At_lo (i := .astore_n q) hi rfl rfl rfl (by unfold ab_lo; dsimp only; rw [if_pos hq, hg])
theorem A_iinc {q : Nat} {n : Int} {v : Int32} (hi : ab_ins y pc = some (.iinc q n)) (hv : Int32.ofInt n = v) (hq : q < ls.length) (hx : ab_lg ls q = some (.int x)) (hg : ab_s1 ls q (.int (x + v)) = ls') : At y pc ls st I J Q ↔ At y (pc + 3) ls' st I J Q := At_lo (i := .iinc q n) hi rfl rfl rfl (by unfold ab_lo; dsimp only; rw [hx]; dsimp only; rw [if_pos hq, hv, hg])
theorem A_goto {o : Int} {t : Nat} (hi : ab_ins y pc = some (.goto o)) (ht : 0 ≤ (pc : Int) + o ∧ ab_tg pc o = t) : At y pc ls st I J Q ↔ At y t ls st I J Q := by rw [← ht.2]; exact At_gt (i := .goto o) hi rfl rfl rfl rfl rfl ht.1
theorem A_ifCond_eq {o : Int} {t : Nat} (hi : ab_ins y pc = some (.ifCond .eq o)) (ht : 0 ≤ (pc : Int) + o ∧ ab_tg pc o = t) : At y pc ls (.int x :: st) I J Q ↔ if x = 0 then At y t ls st I J Q else At y (pc + 3) ls st I J Q := by rw [← ht.2]; exact At_br (i := .ifCond .eq o) hi rfl rfl rfl rfl rfl ht.1
theorem A_if_icmp_eq {o : Int} {t : Nat} (hi : ab_ins y pc = some (.if_icmp .eq o)) (ht : 0 ≤ (pc : Int) + o ∧ ab_tg pc o = t) : At y pc ls (.int x1 :: .int x :: st) I J Q ↔ if x = x1 then At y t ls st I J Q else At y (pc + 3) ls st I J Q := by rw [← ht.2]; exact At_br (i := .if_icmp .eq o) hi rfl rfl rfl rfl rfl ht.1
theorem A_ifCond_ne {o : Int} {t : Nat} (hi : ab_ins y pc = some (.ifCond .ne o)) (ht : 0 ≤ (pc : Int) + o ∧ ab_tg pc o = t) : At y pc ls (.int x :: st) I J Q ↔ if ¬ x = 0 then At y t ls st I J Q else At y (pc + 3) ls st I J Q := by rw [← ht.2]; exact At_br (i := .ifCond .ne o) hi rfl rfl rfl rfl rfl ht.1
theorem A_if_icmp_ne {o : Int} {t : Nat} (hi : ab_ins y pc = some (.if_icmp .ne o)) (ht : 0 ≤ (pc : Int) + o ∧ ab_tg pc o = t) : At y pc ls (.int x1 :: .int x :: st) I J Q ↔ if ¬ x = x1 then At y t ls st I J Q else At y (pc + 3) ls st I J Q := by rw [← ht.2]; exact At_br (i := .if_icmp .ne o) hi rfl rfl rfl rfl rfl ht.1
theorem A_ifCond_lt {o : Int} {t : Nat} (hi : ab_ins y pc = some (.ifCond .lt o)) (ht : 0 ≤ (pc : Int) + o ∧ ab_tg pc o = t) : At y pc ls (.int x :: st) I J Q ↔ if x < 0 then At y t ls st I J Q else At y (pc + 3) ls st I J Q := by rw [← ht.2]; exact At_br (i := .ifCond .lt o) hi rfl rfl rfl rfl rfl ht.1
theorem A_if_icmp_lt {o : Int} {t : Nat} (hi : ab_ins y pc = some (.if_icmp .lt o)) (ht : 0 ≤ (pc : Int) + o ∧ ab_tg pc o = t) : At y pc ls (.int x1 :: .int x :: st) I J Q ↔ if x < x1 then At y t ls st I J Q else At y (pc + 3) ls st I J Q := by rw [← ht.2]; exact At_br (i := .if_icmp .lt o) hi rfl rfl rfl rfl rfl ht.1
theorem A_ifCond_ge {o : Int} {t : Nat} (hi : ab_ins y pc = some (.ifCond .ge o)) (ht : 0 ≤ (pc : Int) + o ∧ ab_tg pc o = t) : At y pc ls (.int x :: st) I J Q ↔ if 0 ≤ x then At y t ls st I J Q else At y (pc + 3) ls st I J Q := by rw [← ht.2]; exact At_br (i := .ifCond .ge o) hi rfl rfl rfl rfl rfl ht.1
theorem A_if_icmp_ge {o : Int} {t : Nat} (hi : ab_ins y pc = some (.if_icmp .ge o)) (ht : 0 ≤ (pc : Int) + o ∧ ab_tg pc o = t) : At y pc ls (.int x1 :: .int x :: st) I J Q ↔ if x1 ≤ x then At y t ls st I J Q else At y (pc + 3) ls st I J Q := by rw [← ht.2]; exact At_br (i := .if_icmp .ge o) hi rfl rfl rfl rfl rfl ht.1
theorem A_ifCond_gt {o : Int} {t : Nat} (hi : ab_ins y pc = some (.ifCond .gt o)) (ht : 0 ≤ (pc : Int) + o ∧ ab_tg pc o = t) : At y pc ls (.int x :: st) I J Q ↔ if 0 < x then At y t ls st I J Q else At y (pc + 3) ls st I J Q := by rw [← ht.2]; exact At_br (i := .ifCond .gt o) hi rfl rfl rfl rfl rfl ht.1
theorem A_if_icmp_gt {o : Int} {t : Nat} (hi : ab_ins y pc = some (.if_icmp .gt o)) (ht : 0 ≤ (pc : Int) + o ∧ ab_tg pc o = t) : At y pc ls (.int x1 :: .int x :: st) I J Q ↔ if x1 < x then At y t ls st I J Q else At y (pc + 3) ls st I J Q := by rw [← ht.2]; exact At_br (i := .if_icmp .gt o) hi rfl rfl rfl rfl rfl ht.1
theorem A_ifCond_le {o : Int} {t : Nat} (hi : ab_ins y pc = some (.ifCond .le o)) (ht : 0 ≤ (pc : Int) + o ∧ ab_tg pc o = t) : At y pc ls (.int x :: st) I J Q ↔ if x ≤ 0 then At y t ls st I J Q else At y (pc + 3) ls st I J Q := by rw [← ht.2]; exact At_br (i := .ifCond .le o) hi rfl rfl rfl rfl rfl ht.1
theorem A_if_icmp_le {o : Int} {t : Nat} (hi : ab_ins y pc = some (.if_icmp .le o)) (ht : 0 ≤ (pc : Int) + o ∧ ab_tg pc o = t) : At y pc ls (.int x1 :: .int x :: st) I J Q ↔ if x ≤ x1 then At y t ls st I J Q else At y (pc + 3) ls st I J Q := by rw [← ht.2]; exact At_br (i := .if_icmp .le o) hi rfl rfl rfl rfl rfl ht.1
theorem A_iret (hi : ab_ins y pc = some .ireturn) (hr : (ab_row y).2.2.2.1 = some .int) : At y pc ls [.int x] I J Q ↔ Q (some (.int x)) I J := At_rt (i := .ireturn) hi (by rw [hr]; rfl)
theorem A_zret (hi : ab_ins y pc = some .ireturn) (hr : (ab_row y).2.2.2.1 = some .boolean) : At y pc ls [.int x] I J Q ↔ (x = 0 ∨ x = 1) ∧ Q (some (.int x)) I J := At_zr hi hr rfl
theorem A_lret (hi : ab_ins y pc = some .lreturn) (hr : (ab_row y).2.2.2.1 = some .long) : At y pc ls [.long u] I J Q ↔ Q (some (.long u)) I J := At_rt (i := .lreturn) hi (by rw [hr]; rfl)
theorem A_vret (hi : ab_ins y pc = some .return_) (hr : (ab_row y).2.2.2.1 = none) : At y pc ls [] I J Q ↔ Q none I J := At_rt (i := .return_) hi (by rw [hr]; rfl)
theorem A_ldc_w {v : Int32} {q : Nat} {o : Nat} (hi : ab_ins y pc = some (.ldc_w j)) (ho : ab_own y = o) (hk : ab_kd o j = some (v, q)) : At y pc ls st I J Q ↔ At y (pc + 3) ls (.int v :: st) I J Q := At_he (i := .ldc_w j) hi rfl rfl rfl rfl rfl (by unfold ab_he; dsimp only; rw [ho, hk]; rfl)
theorem A_ldc2_w {v : Int64} {q : Nat} {o : Nat} (hi : ab_ins y pc = some (.ldc2_w j)) (ho : ab_own y = o) (hk : ab_kD o j = some (v, q)) : At y pc ls st I J Q ↔ At y (pc + 3) ls (.long v :: st) I J Q := At_he (i := .ldc2_w j) hi rfl rfl rfl rfl rfl (by unfold ab_he; dsimp only; rw [ho, hk]; rfl)
theorem ab_io {y pc : Nat} {i : Instr} {c : List (Nat × Instr)} (h : ab_ct.getD y [] = c) (hl : c.lookup pc = some i) : ab_ins y pc = some i := by unfold ab_ins; rw [h]; exact hl
theorem A_getI {c q : Nat} {o : Nat} (hi : ab_ins y pc = some (.getfield j)) (ho : ab_own y = o) (hq : (ab_fd o j = some (c, f, q) ∧ ab_ly k = (0, c) ∧ k < 75) ∧ ab_fk c f = 0) : At y pc ls (.ref k :: st) I J Q ↔ At y (pc + 3) ls (.int (I k f) :: st) I J Q := At_he (i := .getfield j) hi rfl rfl rfl rfl rfl (by unfold ab_he; dsimp only; rw [ho, hq.1.1]; dsimp only; rw [if_pos hq.1.2, if_neg (by omega), if_neg (by omega), if_pos (by omega)])
theorem A_getZ {c q : Nat} {o : Nat} (hi : ab_ins y pc = some (.getfield j)) (ho : ab_own y = o) (hq : (ab_fd o j = some (c, f, q) ∧ ab_ly k = (0, c) ∧ k < 75) ∧ ab_fk c f = 1) : At y pc ls (.ref k :: st) I J Q ↔ At y (pc + 3) ls (.int (I k f) :: st) I J Q := At_he (i := .getfield j) hi rfl rfl rfl rfl rfl (by unfold ab_he; dsimp only; rw [ho, hq.1.1]; dsimp only; rw [if_pos hq.1.2, if_neg (by omega), if_neg (by omega), if_pos (by omega)])
theorem A_getJ {c q : Nat} {o : Nat} (hi : ab_ins y pc = some (.getfield j)) (ho : ab_own y = o) (hq : (ab_fd o j = some (c, f, q) ∧ ab_ly k = (0, c) ∧ k < 75) ∧ ab_fk c f = 2) : At y pc ls (.ref k :: st) I J Q ↔ At y (pc + 3) ls (.long (J k f) :: st) I J Q := At_he (i := .getfield j) hi rfl rfl rfl rfl rfl (by unfold ab_he; dsimp only; rw [ho, hq.1.1]; dsimp only; rw [if_pos hq.1.2, if_pos hq.2])
theorem A_getR {c q : Nat} {o : Nat} (hi : ab_ins y pc = some (.getfield j)) (ho : ab_own y = o) (hq : (ab_fd o j = some (c, f, q) ∧ ab_ly k = (0, c) ∧ k < 75) ∧ ab_fk c f = 3 ∧ ab_rf ab_RF k f = some r) : At y pc ls (.ref k :: st) I J Q ↔ At y (pc + 3) ls (.ref r :: st) I J Q := At_he (i := .getfield j) hi rfl rfl rfl rfl rfl (by unfold ab_he; dsimp only; rw [ho, hq.1.1]; dsimp only; rw [if_pos hq.1.2, if_neg (by omega), if_pos hq.2.1, hq.2.2])
theorem A_putI {c q : Nat} {o : Nat} (hi : ab_ins y pc = some (.putfield j)) (ho : ab_own y = o) (hq : (ab_fd o j = some (c, f, q) ∧ ab_ly k = (0, c) ∧ k < 75) ∧ ab_fk c f = 0) : At y pc ls (.int x :: .ref k :: st) I J Q ↔ At y (pc + 3) ls st (va_up I k (va_up (I k) f x)) J Q := At_he (i := .putfield j) hi rfl rfl rfl rfl rfl (by unfold ab_he; dsimp only; rw [ho, hq.1.1]; dsimp only; rw [if_pos ⟨hq.1.2.1, hq.1.2.2, Or.inl hq.2⟩])
theorem A_putZ {c q : Nat} {o : Nat} (hi : ab_ins y pc = some (.putfield j)) (ho : ab_own y = o) (hq : (ab_fd o j = some (c, f, q) ∧ ab_ly k = (0, c) ∧ k < 75) ∧ ab_fk c f = 1 ∧ (x = 0 ∨ x = 1)) : At y pc ls (.int x :: .ref k :: st) I J Q ↔ At y (pc + 3) ls st (va_up I k (va_up (I k) f x)) J Q := At_he (i := .putfield j) hi rfl rfl rfl rfl rfl (by unfold ab_he; dsimp only; rw [ho, hq.1.1]; dsimp only; rw [if_pos ⟨hq.1.2.1, hq.1.2.2, Or.inr hq.2⟩])
theorem A_putJ {c q : Nat} {o : Nat} (hi : ab_ins y pc = some (.putfield j)) (ho : ab_own y = o) (hq : (ab_fd o j = some (c, f, q) ∧ ab_ly k = (0, c) ∧ k < 75) ∧ ab_fk c f = 2) : At y pc ls (.long u :: .ref k :: st) I J Q ↔ At y (pc + 3) ls st I (va_up J k (va_up (J k) f u)) Q := At_he (i := .putfield j) hi rfl rfl rfl rfl rfl (by unfold ab_he; dsimp only; rw [ho, hq.1.1]; dsimp only; rw [if_pos ⟨hq.1.2.1, hq.1.2.2, hq.2⟩])
theorem A_iaload (hi : ab_ins y pc = some .iaload) : At y pc ls (.int x :: .ref r :: st) I J Q ↔ ((ab_ly r).1 = 1 ∧ r < 75 ∧ 0 ≤ x.toInt ∧ x.toInt < (ab_ly r).2) ∧ At y (pc + 1) ls (.int (I r x.toNatClampNeg) :: st) I J Q := At_hec (i := .iaload) hi rfl rfl rfl rfl rfl rfl rfl
theorem A_baload (hi : ab_ins y pc = some .baload) : At y pc ls (.int x :: .ref r :: st) I J Q ↔ ((ab_ly r).1 = 3 ∧ r < 75 ∧ 0 ≤ x.toInt ∧ x.toInt < (ab_ly r).2) ∧ At y (pc + 1) ls (.int (I r x.toNatClampNeg) :: st) I J Q := At_hec (i := .baload) hi rfl rfl rfl rfl rfl rfl rfl
theorem A_laload (hi : ab_ins y pc = some .laload) : At y pc ls (.int x :: .ref r :: st) I J Q ↔ ((ab_ly r).1 = 2 ∧ r < 75 ∧ 0 ≤ x.toInt ∧ x.toInt < (ab_ly r).2) ∧ At y (pc + 1) ls (.long (J r x.toNatClampNeg) :: st) I J Q := At_hec (i := .laload) hi rfl rfl rfl rfl rfl rfl rfl
theorem A_iastore (hi : ab_ins y pc = some .iastore) : At y pc ls (.int x1 :: .int x :: .ref r :: st) I J Q ↔ ((ab_ly r).1 = 1 ∧ r < 75 ∧ 0 ≤ x.toInt ∧ x.toInt < (ab_ly r).2) ∧ At y (pc + 1) ls st (va_up I r (va_up (I r) x.toNatClampNeg x1)) J Q := At_hec (i := .iastore) hi rfl rfl rfl rfl rfl rfl rfl
theorem A_lastore (hi : ab_ins y pc = some .lastore) : At y pc ls (.long u :: .int x :: .ref r :: st) I J Q ↔ ((ab_ly r).1 = 2 ∧ r < 75 ∧ 0 ≤ x.toInt ∧ x.toInt < (ab_ly r).2) ∧ At y (pc + 1) ls st I (va_up J r (va_up (J r) x.toNatClampNeg u)) Q := At_hec (i := .lastore) hi rfl rfl rfl rfl rfl rfl rfl
theorem A_bastore (hi : ab_ins y pc = some .bastore) : At y pc ls (.int x1 :: .int x :: .ref r :: st) I J Q ↔ ((x1 = 0 ∨ x1 = 1) ∧ (ab_ly r).1 = 3 ∧ r < 75 ∧ 0 ≤ x.toInt ∧ x.toInt < (ab_ly r).2) ∧ At y (pc + 1) ls st (va_up I r (va_up (I r) x.toNatClampNeg x1)) J Q := At_hec (i := .bastore) hi rfl rfl rfl rfl rfl rfl rfl
/-- a call by its rows of the tables; its receiver's cell (for a virtual one) is rk -/
def ab_qc (y pc kd j y' na ea rk : Nat) : Bool := match ab_md (ab_own y) j with
  | some (t, nest, _) => decide (ab_to y t = some y') && decide (t < 1000) && decide (kd ≤ 1) && ab_gs kd y y' nest && decide (na = (ab_row y').2.2.2.2.1 + (if kd = 1 then 0 else 1)) && decide (ea ≤ (ab_row y').2.2.1) && (kd == 1 || ab_ly rk == (0, ab_own y')) && (kd == 1 || decide (rk < 75)) && decide (ab_ins y pc = some (if kd = 1 then .invokestatic j else .invokevirtual j))
  | none => false
theorem A_cal {kd y' na ea rk : Nat} {as rest : List Value} (hq : ab_qc y pc kd j y' na ea rk = true) (hst : st = as.reverse ++ rest) (hna : as.length = na) (hea : (ab_ea as).length = ea) (hrk : kd = 1 ∨ as.head? = some (.ref rk)) (h8 : (rest.map (fun v => v.category)).sum ≤ 8) : At y pc ls st I J Q ↔ Cal y' as I J (fun v I' J' => At y (pc + 3) ls (v.toList ++ rest) I' J' Q) := by
  unfold ab_qc at hq
  split at hq
  · rename_i t nest q hm
    simp only [Bool.and_eq_true, decide_eq_true_eq] at hq
    obtain ⟨⟨⟨⟨⟨⟨⟨⟨h1, h2⟩, h3⟩, h4⟩, h5⟩, h6⟩, h7⟩, h7b⟩, h8b⟩ := hq
    refine At_c2 (j := j) (kd := kd) h8b hm h1 ?_ hst ?_ ?_
    · simp only [Bool.and_eq_true, decide_eq_true_eq]
      exact ⟨⟨⟨h2, h3⟩, h4⟩, hna.trans h5⟩
    · simp only [Bool.and_eq_true, decide_eq_true_eq, Bool.or_eq_true]
      refine ⟨⟨h8, ?_⟩, by omega⟩
      rcases hrk with hk | hk
      · exact Or.inl (by rw [hk]; rfl)
      · rcases Bool.or_eq_true_iff.mp h7 with z | z
        · exact Or.inl z
        · rcases Bool.or_eq_true_iff.mp h7b with z2 | z2
          · exact Or.inl z2
          · right
            cases as with
            | nil => cases hk
            | cons w as' =>
              cases hk
              show (ab_ly rk == (0, ab_own y') && decide (rk < 75)) = true
              rw [z, z2]; rfl
    · by_cases hk : kd = 1
      · rw [if_pos hk]; rfl
      · rw [if_neg hk]; rfl
  · cases hq
theorem A_abs {st : List Value} {q0 q1 : Nat} (hi : ab_ins y pc = some (.invokestatic j) ∧ ab_md (ab_own y) j = some (1002, q0, q1) ∧ ab_to y 1002 = some 1002) (h8 : (st.map (fun v => v.category)).sum ≤ 8) : At y pc ls (.long u :: st) I J Q ↔ At y (pc + 3) ls (.long (if 0 < u then u else -u) :: st) I J Q := At_he (i := .invokestatic j) hi.1 rfl (by unfold ab_cl; dsimp only; unfold ab_go; rw [hi.2.1]; dsimp only; rw [hi.2.2]; dsimp only; rw [if_neg (fun q => absurd q.1 (by decide))]) rfl rfl rfl (by unfold ab_he; dsimp only; rw [hi.2.1]; exact if_pos h8)
theorem A_min {st : List Value} {q0 q1 : Nat} (hi : ab_ins y pc = some (.invokestatic j) ∧ ab_md (ab_own y) j = some (1003, q0, q1) ∧ ab_to y 1003 = some 1003) (h8 : (st.map (fun v => v.category)).sum ≤ 8) : At y pc ls (.int x1 :: .int x :: st) I J Q ↔ At y (pc + 3) ls (.int (if x1 < x then x1 else x) :: st) I J Q := At_he (i := .invokestatic j) hi.1 rfl (by unfold ab_cl; dsimp only; unfold ab_go; rw [hi.2.1]; dsimp only; rw [hi.2.2]; dsimp only; rw [if_neg (fun q => absurd q.1 (by decide))]) rfl rfl rfl (by unfold ab_he; dsimp only; rw [hi.2.1]; exact if_pos h8)
theorem A_max {st : List Value} (hi : ab_ins y pc = some (.invokestatic 118)) (ho : ab_own y = 1) (hm : ab_md 1 118 = none) (h8 : (st.map (fun v => v.category)).sum ≤ 8) : At y pc ls (.int x1 :: .int x :: st) I J Q ↔ At y (pc + 3) ls (.int (if x < x1 then x1 else x) :: st) I J Q := At_he (i := .invokestatic 118) hi rfl (by unfold ab_cl; dsimp only; unfold ab_go; rw [ho, hm]) rfl rfl rfl (by unfold ab_he; dsimp only; rw [ho, hm]; exact if_pos ⟨rfl, rfl, h8⟩)
end AR

theorem ly_0 : ab_ly 0 = (0, 7) := rfl
theorem ly_1 : ab_ly 1 = (0, 5) := rfl
theorem ly_2 : ab_ly 2 = (1, 100) := rfl
theorem ly_3 : ab_ly 3 = (1, 100) := rfl
theorem ly_4 : ab_ly 4 = (1, 100) := rfl
theorem ly_5 : ab_ly 5 = (0, 1) := rfl
theorem ly_6 : ab_ly 6 = (1, 48) := rfl
theorem ly_7 : ab_ly 7 = (1, 12) := rfl
theorem ly_8 : ab_ly 8 = (2, 12) := rfl
theorem ly_9 : ab_ly 9 = (1, 4) := rfl
theorem ly_10 : ab_ly 10 = (1, 4) := rfl
theorem ly_11 : ab_ly 11 = (1, 12) := rfl
theorem ly_12 : ab_ly 12 = (2, 9) := rfl
theorem ly_13 : ab_ly 13 = (2, 9) := rfl
theorem ly_14 : ab_ly 14 = (2, 3) := rfl
theorem ly_15 : ab_ly 15 = (2, 4) := rfl
theorem ly_16 : ab_ly 16 = (2, 12) := rfl
theorem ly_17 : ab_ly 17 = (0, 1) := rfl
theorem ly_18 : ab_ly 18 = (1, 48) := rfl
theorem ly_19 : ab_ly 19 = (1, 12) := rfl
theorem ly_20 : ab_ly 20 = (2, 12) := rfl
theorem ly_21 : ab_ly 21 = (1, 4) := rfl
theorem ly_22 : ab_ly 22 = (1, 4) := rfl
theorem ly_23 : ab_ly 23 = (1, 12) := rfl
theorem ly_24 : ab_ly 24 = (2, 9) := rfl
theorem ly_25 : ab_ly 25 = (2, 9) := rfl
theorem ly_26 : ab_ly 26 = (2, 3) := rfl
theorem ly_27 : ab_ly 27 = (2, 4) := rfl
theorem ly_28 : ab_ly 28 = (2, 12) := rfl
theorem ly_29 : ab_ly 29 = (0, 4) := rfl
theorem ly_30 : ab_ly 30 = (0, 6) := rfl
theorem ly_31 : ab_ly 31 = (1, 4) := rfl
theorem ly_32 : ab_ly 32 = (1, 4) := rfl
theorem ly_33 : ab_ly 33 = (0, 0) := rfl
theorem ly_34 : ab_ly 34 = (1, 12) := rfl
theorem ly_35 : ab_ly 35 = (1, 12) := rfl
theorem ly_36 : ab_ly 36 = (1, 49) := rfl
theorem ly_37 : ab_ly 37 = (1, 49) := rfl
theorem ly_38 : ab_ly 38 = (1, 7) := rfl
theorem ly_39 : ab_ly 39 = (0, 2) := rfl
theorem ly_40 : ab_ly 40 = (1, 60) := rfl
theorem ly_41 : ab_ly 41 = (1, 6) := rfl
theorem ly_42 : ab_ly 42 = (1, 6) := rfl
theorem ly_43 : ab_ly 43 = (0, 3) := rfl
theorem ly_44 : ab_ly 44 = (1, 192) := rfl
theorem ly_45 : ab_ly 45 = (1, 4) := rfl
theorem ly_46 : ab_ly 46 = (1, 4) := rfl
theorem ly_47 : ab_ly 47 = (1, 48) := rfl
theorem ly_48 : ab_ly 48 = (1, 4) := rfl
theorem ly_49 : ab_ly 49 = (0, 8) := rfl
theorem ly_50 : ab_ly 50 = (1, 100) := rfl
theorem ly_51 : ab_ly 51 = (1, 100) := rfl
theorem ly_52 : ab_ly 52 = (1, 100) := rfl
theorem ly_53 : ab_ly 53 = (1, 100) := rfl
theorem ly_54 : ab_ly 54 = (1, 4) := rfl
theorem ly_55 : ab_ly 55 = (1, 48) := rfl
theorem ly_56 : ab_ly 56 = (1, 48) := rfl
theorem ly_57 : ab_ly 57 = (1, 16) := rfl
theorem ly_58 : ab_ly 58 = (1, 3) := rfl
theorem ly_59 : ab_ly 59 = (2, 12) := rfl
theorem ly_60 : ab_ly 60 = (2, 4) := rfl
theorem ly_61 : ab_ly 61 = (2, 4) := rfl
theorem ly_62 : ab_ly 62 = (2, 4) := rfl
theorem ly_63 : ab_ly 63 = (2, 12) := rfl
theorem ly_64 : ab_ly 64 = (1, 60) := rfl
theorem ly_65 : ab_ly 65 = (1, 6) := rfl
theorem ly_66 : ab_ly 66 = (1, 6) := rfl
theorem ly_67 : ab_ly 67 = (1, 12) := rfl
theorem ly_68 : ab_ly 68 = (1, 12) := rfl
theorem ly_69 : ab_ly 69 = (1, 12) := rfl
theorem ly_70 : ab_ly 70 = (3, 4) := rfl
theorem ly_71 : ab_ly 71 = (1, 4) := rfl
theorem ly_72 : ab_ly 72 = (1, 4) := rfl
theorem ly_73 : ab_ly 73 = (1, 192) := rfl
theorem ly_74 : ab_ly 74 = (1, 48) := rfl
