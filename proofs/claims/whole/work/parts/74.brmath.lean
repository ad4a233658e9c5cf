/-! BRIDGES: what the other markers reach without the mark -/
theorem hnd_hi {c : Nat → Int32} {s x : Nat} (h : 4 ≤ x) : (hnd c s).testBit x = false := Nat.testBit_lt_two_pow (Nat.lt_of_lt_of_le (hnd_lt c s) (Nat.pow_le_pow_right (n := 2) (i := 4) (by decide) h))
theorem hnd_up {c : Nat → Int32} {k t m : Nat} {v : Int32} (hm : m < 4) : (hnd (va_up c k v) t).testBit m = if 4 * t + m = k then decide (v ≠ -1) else (hnd c t).testBit m := by
  rw [hnd_bit _ t hm, hnd_bit _ t hm]
  by_cases q : 4 * t + m = k
  · rw [if_pos q, q, va_up_s]
  · rw [if_neg q, va_up_n _ _ q]
theorem cut_bit : ∀ a, a < 16 → ∀ m, m < 4 → ∀ x, x < 4 → (cut a m).testBit x = (a.testBit x && decide (x ≠ m)) := by decide +kernel
theorem bit_hi {a x : Nat} (ha : a < 16) (h : 4 ≤ x) : a.testBit x = false := Nat.testBit_lt_two_pow (Nat.lt_of_lt_of_le ha (Nat.pow_le_pow_right (n := 2) (i := 4) (by decide) h))
theorem and_ne0 : ∀ a, a < 16 → ∀ b, b < 16 → a &&& b ≠ 0 → ∃ x, x < 4 ∧ a.testBit x = true ∧ b.testBit x = true := by
  intro a _ b _ h
  refine Classical.byContradiction (fun w => h ?_)
  apply Nat.eq_of_testBit_eq
  intro i
  rw [Nat.testBit_and, Nat.zero_testBit]
  by_cases hi : i < 4
  · cases q1 : a.testBit i with
    | false => rfl
    | true =>
      cases q2 : b.testBit i with
      | false => rfl
      | true => exact absurd ⟨i, hi, q1, q2⟩ w
  · rw [bit_hi (a := a) (by omega) (by omega)]; rfl
theorem and_ne {a b x : Nat} (h1 : a.testBit x = true) (h2 : b.testBit x = true) : a &&& b ≠ 0 := by
  intro w
  have := congrArg (fun n => n.testBit x) w
  simp [Nat.testBit_and, h1, h2] at this
/-- a is in b -/
def sub (a b : Nat) : Prop := ∀ x, a.testBit x = true → b.testBit x = true
theorem sub_eq {a b : Nat} (h : sub a b) (h' : sub b a) : a = b := by
  apply Nat.eq_of_testBit_eq
  intro i
  cases q : a.testBit i with
  | true => rw [h i q]
  | false =>
    cases q2 : b.testBit i with
    | false => rfl
    | true => rw [h' i q2] at q; cases q
theorem sub_or {a b : Nat} : sub a (a ||| b) := fun x h => by rw [Nat.testBit_or, h]; rfl
theorem pop_or : ∀ a, a < 16 → ∀ b, b < 16 → a ||| b = b → a ≠ b → pop a < pop b := by decide +kernel
theorem sub_pop {a b : Nat} (ha : a < 16) (hb : b < 16) (h : sub a b) (hne : a ≠ b) : pop a < pop b := by
  refine pop_or a ha b hb ?_ hne
  apply Nat.eq_of_testBit_eq
  intro i
  rw [Nat.testBit_or]
  cases q : a.testBit i with
  | true => rw [h i q]; rfl
  | false => rfl
theorem brS_sub {h : Nat → Nat} {s r : Nat} : ∀ k, sub (brS h s r k) (brS h s r (k + 1))
  | k => by
    show sub (brS h s r k) (if k = s then brS h s r k else if h k &&& brS h s r k = 0 then brS h s r k else brS h s r k ||| h k)
    split
    · exact fun _ q => q
    · split
      · exact fun _ q => q
      · exact sub_or
theorem brS_mono {h : Nat → Nat} {s r j : Nat} : ∀ d, sub (brS h s r j) (brS h s r (j + d))
  | 0 => fun _ q => q
  | d + 1 => fun x q => brS_sub (j + d) x (brS_mono d x q)
theorem brR_sub {h : Nat → Nat} {s r i : Nat} : sub (brR h s r i) (brR h s r (i + 1)) := by
  have := brS_mono (h := h) (s := s) (r := brR h s r i) (j := 0) 12
  rw [Nat.zero_add] at this
  exact this
theorem brR_mono {h : Nat → Nat} {s r : Nat} : ∀ i, sub r (brR h s r i)
  | 0 => fun _ q => q
  | i + 1 => fun x q => brR_sub x (brR_mono i x q)
theorem brR_fix {h : Nat → Nat} {s r j : Nat} (e : brR h s r j = brR h s r (j + 1)) : ∀ d, brR h s r (j + d) = brR h s r (j + d + 1)
  | 0 => e
  | d + 1 => by
    show brS h s (brR h s r (j + d)) 12 = brS h s (brR h s r (j + d + 1)) 12
    rw [← brR_fix e d]
theorem brR_st {h : Nat → Nat} (hh : ∀ s, s < 12 → h s < 16) {s r : Nat} (hr : r < 16) : brS h s (brR h s r 4) 12 = brR h s r 4 := by
  refine Eq.symm (Classical.byContradiction (fun w => ?_))
  have st : ∀ j, j ≤ 4 → pop (brR h s r j) < pop (brR h s r (j + 1)) := by
    intro j hj
    refine sub_pop (brR_lt hh hr j) (brR_lt hh hr (j + 1)) brR_sub (fun e => w ?_)
    have := brR_fix e (4 - j)
    rw [show j + (4 - j) = 4 by omega] at this
    exact this
  have h0 := st 0 (by omega)
  have h1 := st 1 (by omega)
  have h2 := st 2 (by omega)
  have h3 := st 3 (by omega)
  have h4 := st 4 (by omega)
  have := pop_le (brR h s r (4 + 1))
  simp only [Nat.zero_add, Nat.reduceAdd] at h0 h1 h2 h3 h4 this
  omega
theorem brS_cl {h : Nat → Nat} (hh : ∀ s, s < 12 → h s < 16) {s r k : Nat} (hr : r < 16) (e : brS h s r 12 = r) (hk : k < 12) (hks : k ≠ s) (hne : h k &&& r ≠ 0) : sub (h k) r := by
  have e1 : ∀ j, j ≤ 12 → brS h s r j = r := by
    intro j hj
    have u1 := brS_mono (h := h) (s := s) (r := r) (j := 0) j
    have u2 := brS_mono (h := h) (s := s) (r := r) (j := j) (12 - j)
    rw [Nat.zero_add] at u1
    rw [show j + (12 - j) = 12 by omega, e] at u2
    exact sub_eq u2 u1
  have e2 := e1 (k + 1) (by omega)
  have e3 := e1 k (by omega)
  unfold brS at e2
  rw [if_neg hks, e3, if_neg hne] at e2
  intro x q
  rw [← e2, Nat.testBit_or, q]
  simp
def isBr (c : Nat → Int32) (k : Nat) : Bool := decide (slb (hnd (va_up c k (-1))) (k / 4) = 4 ∨ slb (hnd (va_up c k (-1))) (k / 4) ≠ lb (hnd (va_up c k (-1))) (k % 4))
theorem br_iff {c : Nat → Int32} {s m : Nat} (hs : s < 12) (hm : m < 4) : (brR (hnd c) s (cut (hnd c s) m) 4).testBit m = true ↔ slb (hnd (va_up c (4 * s + m) (-1))) s ≠ 4 ∧ slb (hnd (va_up c (4 * s + m) (-1))) s = lb (hnd (va_up c (4 * s + m) (-1))) m := by
  have hh : ∀ t, t < 12 → hnd c t < 16 := fun t _ => hnd_lt c t
  have hr : cut (hnd c s) m < 16 := cut_lt (hnd_lt c s)
  have bs : ∀ x, (hnd (va_up c (4 * s + m) (-1)) s).testBit x = (cut (hnd c s) m).testBit x := by
    intro x
    by_cases hx : x < 4
    · rw [hnd_up hx, cut_bit _ (hnd_lt c s) m hm x hx]
      by_cases e : x = m
      · subst e; rw [if_pos rfl]; simp
      · rw [if_neg (by omega)]; simp [e]
    · rw [hnd_hi (by omega), bit_hi hr (by omega)]
  have bt : ∀ t x, t ≠ s → (hnd (va_up c (4 * s + m) (-1)) t).testBit x = (hnd c t).testBit x := by
    intro t x ht
    by_cases hx : x < 4
    · rw [hnd_up hx, if_neg (by omega)]
    · rw [hnd_hi (by omega), hnd_hi (by omega)]
  generalize hh' : hnd (va_up c (4 * s + m) (-1)) = h' at *
  have hlt' : ∀ t, h' t < 16 := fun t => by rw [← hh']; exact hnd_lt _ t
  -- sound
  have sS : ∀ r, r < 16 → (∀ x, x < 4 → r.testBit x = true → ∃ y, y < 4 ∧ (cut (hnd c s) m).testBit y = true ∧ con h' y x = true) → ∀ k, k ≤ 12 → ∀ x, x < 4 → (brS (hnd c) s r k).testBit x = true → ∃ y, y < 4 ∧ (cut (hnd c s) m).testBit y = true ∧ con h' y x = true := by
    intro r hr0 h0 k
    induction k with
    | zero => intro _; exact h0
    | succ k ih =>
      intro hk x hx q
      have ih := ih (by omega)
      unfold brS at q
      by_cases e1 : k = s
      · rw [if_pos e1] at q; exact ih x hx q
      · rw [if_neg e1] at q
        by_cases e2 : hnd c k &&& brS (hnd c) s r k = 0
        · rw [if_pos e2] at q; exact ih x hx q
        · rw [if_neg e2, Nat.testBit_or, Bool.or_eq_true] at q
          rcases q with q | q
          · exact ih x hx q
          · obtain ⟨z, hz, z1, z2⟩ := and_ne0 _ (hnd_lt c k) _ (brS_lt hh hr0 k (by omega)) e2
            obtain ⟨y, hy, y1, y2⟩ := ih z hz z2
            refine ⟨y, hy, y1, con_trans hz y2 (con_eg (eg_of (s := k) (by omega) ?_ ?_))⟩
            · rw [bt k z e1]; exact z1
            · rw [bt k x e1]; exact q
  have sR : ∀ i x, x < 4 → (brR (hnd c) s (cut (hnd c s) m) i).testBit x = true → ∃ y, y < 4 ∧ (cut (hnd c s) m).testBit y = true ∧ con h' y x = true := by
    intro i
    induction i with
    | zero =>
      intro x hx q
      refine ⟨x, hx, q, con_eg (eg_of hs ?_ ?_)⟩
      · rw [bs x]; exact q
      · rw [bs x]; exact q
    | succ i ih =>
      intro x hx q
      exact sS _ (brR_lt hh hr i) ih 12 (Nat.le_refl _) x hx q
  -- complete
  have cl : ∀ a b, eg h' a b = true → (brR (hnd c) s (cut (hnd c s) m) 4).testBit a = (brR (hnd c) s (cut (hnd c s) m) 4).testBit b := by
    intro a b e
    obtain ⟨t, ht, ha, hb⟩ := eg_iff.mp e
    by_cases ets : t = s
    · subst ets
      rw [bs] at ha hb
      rw [brR_mono 4 a ha, brR_mono 4 b hb]
    · rw [bt t a ets] at ha
      rw [bt t b ets] at hb
      have half : ∀ p q, (hnd c t).testBit p = true → (hnd c t).testBit q = true → (brR (hnd c) s (cut (hnd c s) m) 4).testBit p = true → (brR (hnd c) s (cut (hnd c s) m) 4).testBit q = true := by
        intro p q hp hq w
        exact brS_cl hh (brR_lt hh hr 4) (brR_st hh hr) ht ets (and_ne hp w) q hq
      cases w1 : (brR (hnd c) s (cut (hnd c s) m) 4).testBit a with
      | true => rw [half a b ha hb w1]
      | false =>
        cases w2 : (brR (hnd c) s (cut (hnd c s) m) 4).testBit b with
        | false => rfl
        | true => rw [half b a hb ha w2] at w1; cases w1
  constructor
  · intro q
    obtain ⟨y, hy, y1, y2⟩ := sR 4 m hm q
    rw [← bs y] at y1
    have e1 := slb_of hs hy y1
    have e2 := slb_lt hs hy y1
    refine ⟨by omega, ?_⟩
    rw [e1]
    exact lb_eq hy hm y2
  · rintro ⟨q1, q2⟩
    have z : ∀ x, x < 16 → (lbn x = 4 ↔ x = 0) := by decide +kernel
    have h5 : lbn (h' s) ≠ 4 := fun w => q1 ((slb_4 hs (hlt' s)).mpr ((z _ (hlt' s)).mp w))
    have h6 := lbn_le (h' s)
    have h7 := lbn_bit h5
    have e1 := slb_of hs (show lbn (h' s) < 4 by omega) h7
    have e2 := slb_lt hs (show lbn (h' s) < 4 by omega) h7
    have c1 : con h' (lbn (h' s)) (lb h' (lbn (h' s))) = true := lb_con (by rw [← e1]; exact e2)
    have c2 : con h' m (lb h' m) = true := lb_con (by rw [← q2]; exact e2)
    rw [← q2, e1] at c2
    have c3 : con h' (lbn (h' s)) m = true := con_trans (j := lb h' (lbn (h' s))) (by rw [← e1]; exact e2) c1 (by rw [con_symm]; exact c2)
    rw [← con_L cl c3]
    exact brR_mono 4 _ (by rw [← bs]; exact h7)
theorem br_eq {c : Nat → Int32} {k : Nat} (hk : k < 48) : decide ((brR (hnd c) (k / 4) (cut (hnd c (k / 4)) (k % 4)) 4).testBit (k % 4) = false) = isBr c k := by
  have h := br_iff (c := c) (s := k / 4) (m := k % 4) (by omega) (by omega)
  rw [show 4 * (k / 4) + k % 4 = k by omega] at h
  unfold isBr
  rw [decide_eq_decide]
  constructor
  · intro q
    by_cases w : slb (hnd (va_up c k (-1))) (k / 4) = 4
    · exact Or.inl w
    · refine Or.inr (fun w2 => ?_)
      rw [h.mpr ⟨w, w2⟩] at q
      cases q
  · intro q
    cases w : (brR (hnd c) (k / 4) (cut (hnd c (k / 4)) (k % 4)) 4).testBit (k % 4) with
    | false => rfl
    | true =>
      obtain ⟨w1, w2⟩ := h.mp w
      rcases q with q | q
      · exact absurd q w1
      · exact absurd w2 q
