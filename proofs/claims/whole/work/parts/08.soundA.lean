/-! SOUND, first: the instructions of the stack, the locals, the jumps -/
def ab_v (ad : Nat → Nat) (v : Value) : Value := match v with
  | .ref k => .ref (ad k)
  | v => v
theorem ab_v_cat (ad : Nat → Nat) (v : Value) : (ab_v ad v).category = v.category := by cases v <;> rfl
theorem ab_v_cats (ad : Nat → Nat) (st : List Value) : ((st.map (ab_v ad)).map (fun v => v.category)) = st.map (fun v => v.category) := by
  rw [List.map_map]
  exact List.map_congr_left (fun v _ => ab_v_cat ad v)
section ABA
variable {p : Program} {l : Launch} {e : Env} {R : Room} {s : State} {m : MethodId} {args : Array Value} {below : List Frame} {meth : Method} {c : Code} {H : Heap} {locs : List Loc} {cells slots : Nat} {Q : State → Prop}
variable {cc : ByteArray} {pc : Nat} {lc : Array Slot} {ad : Nat → Nat}
set_option maxHeartbeats 4000000 in
theorem ab_op_W {i : Instr} {st st' : List Value} (hx : p.tables.exec = Jvm.exec) (hb : c.code = cc) (h : ab_op i st = some st') (hd : decode cc pc = .ok (i, ab_sz i))
    (k : W p l e R s m args below meth c H locs cells slots Q (F0 m (pc + ab_sz i) lc (st'.map (ab_v ad)))) : W p l e R s m args below meth c H locs cells slots Q (F0 m pc lc (st.map (ab_v ad))) := by
  unfold ab_op at h
  split at h
  · cases h; exact lv_iconst hx hb hd rfl k
  · cases h; exact lv_bipush hx hb hd rfl k
  · cases h; exact lv_sipush hx hb hd rfl k
  · cases h; exact lv_lconst hx hb hd rfl k
  · cases h; exact lv_iadd hx hb hd k
  · cases h; exact lv_isub hx hb hd k
  · cases h; exact lv_imul hx hb hd k
  · cases h; exact lv_iand hx hb hd k
  · cases h; exact lv_ior hx hb hd k
  · cases h; exact lv_ixor hx hb hd k
  · split at h
    · cases h
    · rename_i hne; cases h; exact lv_idiv hx hb hd hne k
  · split at h
    · cases h
    · rename_i hne; cases h; exact lv_irem hx hb hd hne k
  · cases h; exact lv_ladd hx hb hd k
  · cases h; exact lv_lsub hx hb hd k
  · cases h; exact lv_lmul hx hb hd k
  · split at h
    · cases h
    · rename_i hne; cases h; exact lv_ldiv hx hb hd hne k
  · split at h
    · cases h
    · rename_i hne; cases h; exact lv_lrem hx hb hd hne k
  · cases h; exact lv_lneg hx hb hd k
  · cases h; exact lv_ishl hx hb hd k
  · cases h; exact lv_ishr hx hb hd k
  · cases h; exact lv_iushr hx hb hd rfl k
  · cases h; exact lv_i2l hx hb hd rfl k
  · cases h; exact lv_l2i hx hb hd rfl k
  · cases h; exact lv_i2b hx hb hd rfl k
  · cases h; exact lv_i2s hx hb hd rfl k
  · cases h; exact W.lcmp hx hb hd k
  · split at h
    · rename_i hc; cases h; exact lv_dup hx hb hd (by rw [ab_v_cat]; exact hc) k
    · cases h
  · split at h
    · rename_i hc; cases h; exact lv_pop (va := ab_v ad _) hx hb hd (by rw [ab_v_cat]; exact hc) k
    · cases h
  · split at h
    · rename_i hc; cases h; exact lv_dup2_11 hx hb hd (by rw [ab_v_cat]; exact hc.1) (by rw [ab_v_cat]; exact hc.2) k
    · cases h
  · cases h
end ABA
/-- the small machine's locals are held by the machine's -/
def ab_has (lc : Array Slot) (nL : Nat) (ad : Nat → Nat) (ls : ab_L) : Prop := lc.size = nL ∧ lv_wf lc ∧ ls.length = nL ∧ ∀ (i : Nat) (v : Value), ls.getD i none = some v → lc[i]? = some (.val (ab_v ad v))
def ab_lv (ad : Nat → Nat) (nL : Nat) (ls : ab_L) : List (Nat × Value) := (List.range nL).filterMap (fun i => (ls.getD i none).map (fun v => (i, ab_v ad v)))
theorem ab_lt {ls : ab_L} {i : Nat} {v : Value} (h : ls.getD i none = some v) : i < ls.length := by
  rcases Nat.lt_or_ge i ls.length with q | q
  · exact q
  · rw [List.getD_eq_getElem?_getD, List.getElem?_eq_none q] at h
    cases h
theorem ab_lv_in {ad : Nat → Nat} {nL : Nat} {ls : ab_L} (hl : ls.length = nL) {i : Nat} {v : Value} (h : ls.getD i none = some v) : (i, ab_v ad v) ∈ ab_lv ad nL ls :=
  List.mem_filterMap.mpr ⟨i, List.mem_range.mpr (hl ▸ ab_lt h), by rw [h]; rfl⟩
theorem ab_has.lv {lc : Array Slot} {nL : Nat} {ad : Nat → Nat} {ls : ab_L} (h : ab_has lc nL ad ls) : lv_has lc nL (ab_lv ad nL ls) := by
  refine ⟨h.1, h.2.1, fun q hq => ?_⟩
  obtain ⟨i, -, hi⟩ := List.mem_filterMap.mp hq
  cases hg : ls.getD i none with
  | none => rw [hg] at hi; cases hi
  | some v =>
    rw [hg] at hi
    cases hi
    exact h.2.2.2 i v hg
theorem ab_s1_len : ∀ (ls : ab_L) (i : Nat) (v : Value), (ab_s1 ls i v).length = ls.length
  | [], _, _ => rfl
  | _ :: _, 0, _ => rfl
  | [_], _ + 1, _ => rfl
  | _ :: _ :: _, 1, _ => rfl
  | _ :: b :: r, i + 2, v => by
    show (ab_s1 (b :: r) (i + 1) v).length + 1 = _
    rw [ab_s1_len (b :: r) (i + 1) v]
    rfl
theorem ab_s1_get : ∀ (ls : ab_L) (i : Nat) (v : Value) (j : Nat) (w : Value), i < ls.length → (ab_s1 ls i v).getD j none = some w → (j = i ∧ w = v) ∨ (j ≠ i ∧ ¬ (j + 1 = i ∧ w.category = 2) ∧ ls.getD j none = some w)
  | [], _, _, _, _, hi, _ => absurd hi (Nat.not_lt_zero _)
  | a :: r, 0, v, 0, w, _, h => Or.inl ⟨rfl, (Option.some.inj h).symm⟩
  | a :: r, 0, v, j + 1, w, _, h => Or.inr ⟨by omega, by omega, h⟩
  | [_], i + 1, _, _, _, hi, _ => absurd hi (by simp)
  | a :: b :: r, 1, v, 0, w, _, h => by
    refine Or.inr ⟨by omega, fun hc => ?_, ?_⟩
    · have h2 : (if ab_ca a then none else a) = some w := h
      split at h2
      · cases h2
      · rename_i hn
        subst h2
        exact hn (by simp [ab_ca, hc.2])
    · have h2 : (if ab_ca a then none else a) = some w := h
      split at h2
      · cases h2
      · exact h2
  | a :: b :: r, 1, v, 1, w, _, h => Or.inl ⟨rfl, (Option.some.inj h).symm⟩
  | a :: b :: r, 1, v, j + 2, w, _, h => Or.inr ⟨by omega, by omega, h⟩
  | a :: b :: r, i + 2, v, 0, w, _, h => Or.inr ⟨by omega, by omega, h⟩
  | a :: b :: r, i + 2, v, j + 1, w, hi, h => by
    rcases ab_s1_get (b :: r) (i + 1) v j w (by simpa using hi) h with ⟨h1, h2⟩ | ⟨h1, h2, h3⟩
    · exact Or.inl ⟨by omega, h2⟩
    · exact Or.inr ⟨by omega, fun q => h2 ⟨by omega, q.2⟩, h3⟩
theorem ab_s2_len : ∀ (ls : ab_L) (i : Nat) (v : Value), (ab_s2 ls i v).length = ls.length
  | [], _, _ => by simp [ab_s2]
  | [_], i, _ => by cases i <;> simp [ab_s2]
  | _ :: _ :: _, 0, _ => rfl
  | [_, _], _ + 1, _ => rfl
  | _ :: _ :: _ :: _, 1, _ => rfl
  | _ :: b :: d :: r, i + 2, v => by
    show (ab_s2 (b :: d :: r) (i + 1) v).length + 1 = _
    rw [ab_s2_len (b :: d :: r) (i + 1) v]
    rfl
theorem ab_s2_get : ∀ (ls : ab_L) (i : Nat) (v : Value) (j : Nat) (w : Value), i + 1 < ls.length → (ab_s2 ls i v).getD j none = some w → (j = i ∧ w = v) ∨ (j ≠ i ∧ j ≠ i + 1 ∧ ¬ (j + 1 = i ∧ w.category = 2) ∧ ls.getD j none = some w)
  | [], _, _, _, _, hi, _ => absurd hi (Nat.not_lt_zero _)
  | [_], _, _, _, _, hi, _ => absurd hi (by simp)
  | a :: b :: r, 0, v, 0, w, _, h => Or.inl ⟨rfl, (Option.some.inj h).symm⟩
  | a :: b :: r, 0, v, 1, w, _, h => by cases h
  | a :: b :: r, 0, v, j + 2, w, _, h => Or.inr ⟨by omega, by omega, by omega, h⟩
  | [_, _], i + 1, _, _, _, hi, _ => absurd hi (by simp)
  | a :: b :: d :: r, 1, v, 0, w, _, h => by
    refine Or.inr ⟨by omega, by omega, fun hc => ?_, ?_⟩
    · have h2 : (if ab_ca a then none else a) = some w := h
      split at h2
      · cases h2
      · rename_i hn
        subst h2
        exact hn (by simp [ab_ca, hc.2])
    · have h2 : (if ab_ca a then none else a) = some w := h
      split at h2
      · cases h2
      · exact h2
  | a :: b :: d :: r, 1, v, 1, w, _, h => Or.inl ⟨rfl, (Option.some.inj h).symm⟩
  | a :: b :: d :: r, 1, v, 2, w, _, h => by cases h
  | a :: b :: d :: r, 1, v, j + 3, w, _, h => Or.inr ⟨by omega, by omega, by omega, h⟩
  | a :: b :: d :: r, i + 2, v, 0, w, _, h => Or.inr ⟨by omega, by omega, by omega, h⟩
  | a :: b :: d :: r, i + 2, v, j + 1, w, hi, h => by
    rcases ab_s2_get (b :: d :: r) (i + 1) v j w (by simpa using hi) h with ⟨h1, h2⟩ | ⟨h1, h2, h3, h4⟩
    · exact Or.inl ⟨by omega, h2⟩
    · exact Or.inr ⟨by omega, by omega, fun q => h3 ⟨by omega, q.2⟩, h4⟩
theorem ab_has.s1 {lc lc' : Array Slot} {nL i : Nat} {ad : Nat → Nat} {ls : ab_L} {v : Value} (h : ab_has lc nL ad ls) (hi : i < nL) (h' : lv_has lc' nL ((i, ab_v ad v) :: (ab_lv ad nL ls).filter (fun q => !(q.1 == i) && !(q.1 + 1 == i && q.2.category == 2)))) : ab_has lc' nL ad (ab_s1 ls i v) := by
  refine ⟨h'.1, h'.2.1, (ab_s1_len ls i v).trans h.2.2.1, fun j w hj => ?_⟩
  rcases ab_s1_get ls i v j w (by rw [h.2.2.1]; exact hi) hj with ⟨rfl, rfl⟩ | ⟨h1, h2, h3⟩
  · exact h'.2.2 (j, ab_v ad w) List.mem_cons_self
  · refine h'.2.2 (j, ab_v ad w) (List.mem_cons_of_mem _ (List.mem_filter.mpr ⟨ab_lv_in h.2.2.1 h3, ?_⟩))
    simp only [Bool.and_eq_true, Bool.not_eq_true', beq_eq_false_iff_ne, ne_eq, Bool.and_eq_false_iff, ab_v_cat]
    refine ⟨h1, ?_⟩
    by_cases q : j + 1 = i
    · exact Or.inr (fun z => h2 ⟨q, z⟩)
    · exact Or.inl q
theorem ab_has.s2 {lc lc' : Array Slot} {nL i : Nat} {ad : Nat → Nat} {ls : ab_L} {v : Value} (h : ab_has lc nL ad ls) (hi : i + 1 < nL) (h' : lv_has lc' nL ((i, ab_v ad v) :: (ab_lv ad nL ls).filter (fun q => !(q.1 == i) && (!(q.1 == i + 1) && !(q.1 + 1 == i && q.2.category == 2))))) : ab_has lc' nL ad (ab_s2 ls i v) := by
  refine ⟨h'.1, h'.2.1, (ab_s2_len ls i v).trans h.2.2.1, fun j w hj => ?_⟩
  rcases ab_s2_get ls i v j w (by rw [h.2.2.1]; exact hi) hj with ⟨rfl, rfl⟩ | ⟨h1, h2, h3, h4⟩
  · exact h'.2.2 (j, ab_v ad w) List.mem_cons_self
  · refine h'.2.2 (j, ab_v ad w) (List.mem_cons_of_mem _ (List.mem_filter.mpr ⟨ab_lv_in h.2.2.1 h4, ?_⟩))
    simp only [Bool.and_eq_true, Bool.not_eq_true', beq_eq_false_iff_ne, ne_eq, Bool.and_eq_false_iff, ab_v_cat]
    refine ⟨h1, h2, ?_⟩
    by_cases q : j + 1 = i
    · exact Or.inr (fun z => h3 ⟨q, z⟩)
    · exact Or.inl q
section ABB
variable {p : Program} {l : Launch} {e : Env} {R : Room} {s : State} {m : MethodId} {args : Array Value} {below : List Frame} {meth : Method} {c : Code} {H : Heap} {locs : List Loc} {cells slots : Nat} {Q : State → Prop}
variable {cc : ByteArray} {pc : Nat} {lc : Array Slot} {ad : Nat → Nat} {nL : Nat}
set_option maxHeartbeats 4000000 in
theorem ab_lo_W {i : Instr} {ls ls' : ab_L} {st st' : List Value} (hx : p.tables.exec = Jvm.exec) (hb : c.code = cc) (h : ab_lo i ls st = some (ls', st')) (hd : decode cc pc = .ok (i, ab_sz i)) (hl : ab_has lc nL ad ls)
    (k : ∀ lc', ab_has lc' nL ad ls' → W p l e R s m args below meth c H locs cells slots Q (F0 m (pc + ab_sz i) lc' (st'.map (ab_v ad)))) : W p l e R s m args below meth c H locs cells slots Q (F0 m pc lc (st.map (ab_v ad))) := by
  unfold ab_lo at h
  split at h
  · split at h
    · rename_i hg; cases h; exact lv_iload_n hx hb hd rfl (hl.2.2.2 _ _ hg) (k lc hl)
    · cases h
  · split at h
    · rename_i hg; cases h; exact lv_iload hx hb hd (hl.2.2.2 _ _ hg) (k lc hl)
    · cases h
  · split at h
    · rename_i hg; cases h; exact lv_lload_n hx hb hd rfl (hl.2.2.2 _ _ hg) (k lc hl)
    · cases h
  · split at h
    · rename_i hg; cases h; exact lv_lload hx hb hd (hl.2.2.2 _ _ hg) (k lc hl)
    · cases h
  · split at h
    · rename_i hg; cases h; exact lv_aload_n hx hb hd rfl (hl.2.2.2 _ _ hg) (k lc hl)
    · cases h
  · split at h
    · rename_i hg; cases h; exact lv_aload hx hb hd (hl.2.2.2 _ _ hg) (k lc hl)
    · cases h
  · split at h
    · rename_i hi; cases h; exact lv_istore_n hx hb hd rfl hl.lv (hl.2.2.1 ▸ hi) rfl (fun lc' h' => k lc' (hl.s1 (hl.2.2.1 ▸ hi) h'))
    · cases h
  · split at h
    · rename_i hi; cases h; exact lv_istore hx hb hd hl.lv (hl.2.2.1 ▸ hi) rfl (fun lc' h' => k lc' (hl.s1 (hl.2.2.1 ▸ hi) h'))
    · cases h
  · split at h
    · rename_i hi; cases h; exact lv_astore_n hx hb hd rfl hl.lv (hl.2.2.1 ▸ hi) rfl (fun lc' h' => k lc' (hl.s1 (hl.2.2.1 ▸ hi) h'))
    · cases h
  · split at h
    · rename_i hi; cases h; exact lv_lstore_n hx hb hd rfl hl.lv (hl.2.2.1 ▸ hi) rfl (fun lc' h' => k lc' (hl.s2 (hl.2.2.1 ▸ hi) h'))
    · cases h
  · split at h
    · rename_i hi; cases h; exact lv_lstore hx hb hd hl.lv (hl.2.2.1 ▸ hi) rfl (fun lc' h' => k lc' (hl.s2 (hl.2.2.1 ▸ hi) h'))
    · cases h
  · split at h
    · rename_i hg
      split at h
      · rename_i hi
        cases h
        obtain ⟨kk, hkk⟩ := List.getElem?_of_mem (ab_lv_in (ad := ad) hl.2.2.1 hg)
        exact lv_iinc hx hb hd hl.lv hkk rfl (hl.2.2.1 ▸ hi) rfl (fun lc' h' => k lc' (hl.s1 (hl.2.2.1 ▸ hi) h'))
      · cases h
    · cases h
  · cases h
theorem ab_tg_ok {pc : Nat} {o : Int} (h : 0 ≤ (pc : Int) + o) : (pc : Int) + o = (ab_tg pc o : Int) := by
  unfold ab_tg
  omega
set_option maxHeartbeats 4000000 in
theorem ab_br_W {i : Instr} {n : Nat} {t : Bool} {off : Int} {st st' : List Value} (hx : p.tables.exec = Jvm.exec) (hb : c.code = cc) (h : ab_br i st = some (t, off, st')) (h0 : 0 ≤ (pc : Int) + off) (hd : decode cc pc = .ok (i, n)) (hn : n = ab_sz i ∨ ab_ts i = true)
    (k : W p l e R s m args below meth c H locs cells slots Q (F0 m (if t = true then ab_tg pc off else pc + ab_sz i) lc (st'.map (ab_v ad)))) : W p l e R s m args below meth c H locs cells slots Q (F0 m pc lc (st.map (ab_v ad))) := by
  have hd' : ab_ts i = false → decode cc pc = .ok (i, ab_sz i) := by
    intro q
    rcases hn with r | r
    · rw [← r]; exact hd
    · rw [q] at r; cases r
  unfold ab_br at h
  split at h
  case h_14 =>
    split at h
    · rename_i ho
      cases h
      exact lv_tableOut hx hb hd ho (ab_tg_ok h0) k
    · rename_i ho
      rw [Option.map_eq_some_iff] at h
      obtain ⟨o, h1, h2⟩ := h
      cases h2
      exact lv_tableIn hx hb hd (fun q => ho (Or.inl q)) (fun q => ho (Or.inr q)) h1 (ab_tg_ok h0) k
  · cases h; exact lv_goto hx hb (hd' rfl) (ab_tg_ok h0) k
  · cases h; exact lv_if_eq hx hb (hd' rfl) (ab_tg_ok h0) (fun q => by rw [if_pos (by simpa using q)] at k; exact k) (fun q => by rw [if_neg (by simpa using q)] at k; exact k)
  · cases h; exact lv_if_ne hx hb (hd' rfl) (ab_tg_ok h0) (fun q => by rw [if_pos (by simpa using q)] at k; exact k) (fun q => by rw [if_neg (by simpa using q)] at k; exact k)
  · cases h; exact lv_if_lt hx hb (hd' rfl) (ab_tg_ok h0) (fun q => by rw [if_pos (decide_eq_true q)] at k; exact k) (fun q => by rw [if_neg (by simpa only [decide_eq_true_eq] using q)] at k; exact k)
  · cases h; exact lv_if_ge hx hb (hd' rfl) (ab_tg_ok h0) (fun q => by rw [if_pos (decide_eq_true q)] at k; exact k) (fun q => by rw [if_neg (by simpa only [decide_eq_true_eq] using q)] at k; exact k)
  · cases h; exact lv_if_gt hx hb (hd' rfl) (ab_tg_ok h0) (fun q => by rw [if_pos (decide_eq_true q)] at k; exact k) (fun q => by rw [if_neg (by simpa only [decide_eq_true_eq] using q)] at k; exact k)
  · cases h; exact lv_if_le hx hb (hd' rfl) (ab_tg_ok h0) (fun q => by rw [if_pos (decide_eq_true q)] at k; exact k) (fun q => by rw [if_neg (by simpa only [decide_eq_true_eq] using q)] at k; exact k)
  · cases h; exact lv_icmp_eq hx hb (hd' rfl) (ab_tg_ok h0) (fun q => by rw [if_pos (decide_eq_true q)] at k; exact k) (fun q => by rw [if_neg (by simpa only [decide_eq_true_eq] using q)] at k; exact k)
  · cases h; exact lv_icmp_ne hx hb (hd' rfl) (ab_tg_ok h0) (fun q => by rw [if_pos (decide_eq_true q)] at k; exact k) (fun q => by rw [if_neg (by simpa using q)] at k; exact k)
  · cases h; exact lv_icmp_lt hx hb (hd' rfl) (ab_tg_ok h0) (fun q => by rw [if_pos (decide_eq_true q)] at k; exact k) (fun q => by rw [if_neg (by simpa only [decide_eq_true_eq] using q)] at k; exact k)
  · cases h; exact lv_icmp_ge hx hb (hd' rfl) (ab_tg_ok h0) (fun q => by rw [if_pos (decide_eq_true q)] at k; exact k) (fun q => by rw [if_neg (by simpa only [decide_eq_true_eq] using q)] at k; exact k)
  · cases h; exact lv_icmp_gt hx hb (hd' rfl) (ab_tg_ok h0) (fun q => by rw [if_pos (decide_eq_true q)] at k; exact k) (fun q => by rw [if_neg (by simpa only [decide_eq_true_eq] using q)] at k; exact k)
  · cases h; exact lv_icmp_le hx hb (hd' rfl) (ab_tg_ok h0) (fun q => by rw [if_pos (decide_eq_true q)] at k; exact k) (fun q => by rw [if_neg (by simpa only [decide_eq_true_eq] using q)] at k; exact k)
  · cases h
end ABB
