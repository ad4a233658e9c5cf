/-! WHO HANGS TOGETHER: h s the set (bits) of the markers of script s -/
def eg (h : Nat → Nat) (a b : Nat) : Bool := (List.range 12).any (fun s => (h s).testBit a && (h s).testBit b)
theorem eg_iff {h : Nat → Nat} {a b : Nat} : eg h a b = true ↔ ∃ s, s < 12 ∧ (h s).testBit a = true ∧ (h s).testBit b = true := by
  unfold eg
  rw [List.any_eq_true]
  constructor
  · rintro ⟨s, hs, hq⟩
    rw [Bool.and_eq_true] at hq
    exact ⟨s, List.mem_range.mp hs, hq⟩
  · rintro ⟨s, hs, hq⟩
    exact ⟨s, List.mem_range.mpr hs, by rw [Bool.and_eq_true]; exact hq⟩
theorem eg_symm (h : Nat → Nat) (a b : Nat) : eg h a b = eg h b a := by
  unfold eg
  congr 1
  funext s
  exact Bool.and_comm _ _
theorem eg_l {h : Nat → Nat} {a b : Nat} (q : eg h a b = true) : eg h a a = true := by
  rw [eg_iff] at q ⊢
  obtain ⟨s, h1, h2, h3⟩ := q
  exact ⟨s, h1, h2, h2⟩
/-- Warshall's step -/
def wk (k : Nat) (w : Nat → Nat → Bool) (a b : Nat) : Bool := w a b || (w a k && w k b)
theorem wk_of {k : Nat} {w : Nat → Nat → Bool} {a b : Nat} (h : w a b = true) : wk k w a b = true := by simp [wk, h]
theorem wk_symm {k : Nat} {w : Nat → Nat → Bool} (h : ∀ a b, w a b = w b a) (a b : Nat) : wk k w a b = wk k w b a := by
  unfold wk
  rw [h a b, h a k, h k b, Bool.and_comm]
theorem wk_L {α : Type} {k : Nat} {w : Nat → Nat → Bool} {L : Nat → α} (h : ∀ a b, w a b = true → L a = L b) (a b : Nat) (q : wk k w a b = true) : L a = L b := by
  unfold wk at q
  rw [Bool.or_eq_true, Bool.and_eq_true] at q
  rcases q with q | q
  · exact h a b q
  · exact (h a k q.1).trans (h k b q.2)
theorem wk_self {k : Nat} {w : Nat → Nat → Bool} {a b : Nat} (h1 : wk k w a k = true) (h2 : wk k w k b = true) : wk k w a b = true := by
  unfold wk at *
  cases e1 : w a b <;> cases e2 : w a k <;> cases e3 : w k b <;> simp_all
theorem wk_keep {j k : Nat} {w : Nat → Nat → Bool} (h : ∀ a b, w a j = true → w j b = true → w a b = true) (a b : Nat) (h1 : wk k w a j = true) (h2 : wk k w j b = true) : wk k w a b = true := by
  unfold wk at *
  rw [Bool.or_eq_true, Bool.and_eq_true] at *
  rcases h1 with h1 | h1 <;> rcases h2 with h2 | h2
  · exact Or.inl (h a b h1 h2)
  · exact Or.inr ⟨h a k h1 h2.1, h2.2⟩
  · exact Or.inr ⟨h1.1, h k b h1.2 h2⟩
  · exact Or.inr ⟨h1.1, h2.2⟩
def con (h : Nat → Nat) : Nat → Nat → Bool := wk 3 (wk 2 (wk 1 (wk 0 (eg h))))
theorem con_eg {h : Nat → Nat} {a b : Nat} (q : eg h a b = true) : con h a b = true := wk_of (wk_of (wk_of (wk_of q)))
theorem con_symm (h : Nat → Nat) (a b : Nat) : con h a b = con h b a := wk_symm (wk_symm (wk_symm (wk_symm (eg_symm h)))) a b
theorem con_L {α : Type} {h : Nat → Nat} {L : Nat → α} (q : ∀ a b, eg h a b = true → L a = L b) {a b : Nat} (c : con h a b = true) : L a = L b := wk_L (wk_L (wk_L (wk_L q))) a b c
theorem con_trans {h : Nat → Nat} {a b j : Nat} (hj : j < 4) (h1 : con h a j = true) (h2 : con h j b = true) : con h a b = true := by
  have s0 : ∀ x y, wk 0 (eg h) x 0 = true → wk 0 (eg h) 0 y = true → wk 0 (eg h) x y = true := fun _ _ => wk_self
  have s1 : ∀ x y, wk 1 (wk 0 (eg h)) x 1 = true → wk 1 (wk 0 (eg h)) 1 y = true → wk 1 (wk 0 (eg h)) x y = true := fun _ _ => wk_self
  have s2 : ∀ x y, wk 2 (wk 1 (wk 0 (eg h))) x 2 = true → wk 2 (wk 1 (wk 0 (eg h))) 2 y = true → wk 2 (wk 1 (wk 0 (eg h))) x y = true := fun _ _ => wk_self
  match j, hj with
  | 0, _ => exact wk_keep (wk_keep (wk_keep s0)) a b h1 h2
  | 1, _ => exact wk_keep (wk_keep s1) a b h1 h2
  | 2, _ => exact wk_keep s2 a b h1 h2
  | 3, _ => exact wk_self h1 h2
theorem con_l {h : Nat → Nat} {a b : Nat} (c : con h a b = true) : eg h a a = true := by
  have q : ∀ x y, eg h x y = true → (eg h x x = true) = (eg h y y = true) := by
    intro x y e
    rw [eg_l e, eg_l (by rw [eg_symm]; exact e)]
  -- the first step out of a is an edge of a's
  have key : ∀ {k : Nat} {w : Nat → Nat → Bool}, (∀ x y, w x y = true → eg h x x = true) → ∀ x y, wk k w x y = true → eg h x x = true := by
    intro k w hw x y hq
    unfold wk at hq
    rw [Bool.or_eq_true, Bool.and_eq_true] at hq
    rcases hq with hq | hq
    · exact hw x y hq
    · exact hw x k hq.1
  exact key (key (key (key (fun x y e => eg_l e)))) a b c
/-- the least marker of the bundle of m; 4 without one -/
def lb (h : Nat → Nat) (m : Nat) : Nat := if con h m 0 then 0 else if con h m 1 then 1 else if con h m 2 then 2 else if con h m 3 then 3 else 4
theorem lb_le {h : Nat → Nat} {m j : Nat} (hj : j < 4) (c : con h m j = true) : lb h m ≤ j := by
  unfold lb
  split
  · omega
  · split
    · rename_i n0 _
      rcases Nat.eq_zero_or_pos j with z | z
      · rw [z] at c; exact absurd c n0
      · omega
    · split
      · rename_i n0 n1 _
        have : j ≠ 0 := fun z => n0 (z ▸ c)
        have : j ≠ 1 := fun z => n1 (z ▸ c)
        omega
      · split
        · rename_i n0 n1 n2 _
          have : j ≠ 0 := fun z => n0 (z ▸ c)
          have : j ≠ 1 := fun z => n1 (z ▸ c)
          have : j ≠ 2 := fun z => n2 (z ▸ c)
          omega
        · rename_i n0 n1 n2 n3
          have : j ≠ 0 := fun z => n0 (z ▸ c)
          have : j ≠ 1 := fun z => n1 (z ▸ c)
          have : j ≠ 2 := fun z => n2 (z ▸ c)
          have : j ≠ 3 := fun z => n3 (z ▸ c)
          omega
theorem lb_con {h : Nat → Nat} {m : Nat} (c : lb h m < 4) : con h m (lb h m) = true := by
  unfold lb at c ⊢
  split
  · assumption
  · split
    · assumption
    · split
      · assumption
      · split
        · assumption
        · simp_all
theorem lb_self {h : Nat → Nat} {m : Nat} (hm : m < 4) (e : eg h m m = true) : lb h m ≤ m ∧ lb h m < 4 := by
  have := lb_le hm (con_eg e)
  omega
theorem lb_eq {h : Nat → Nat} {a b : Nat} (ha : a < 4) (hb : b < 4) (c : con h a b = true) : lb h a = lb h b := by
  have la : lb h a < 4 := by have := lb_le hb c; omega
  have c' : con h b a = true := by rw [con_symm]; exact c
  have lb4 : lb h b < 4 := by have := lb_le ha c'; omega
  have h1 := lb_le la (con_trans ha c' (lb_con la))
  have h2 := lb_le lb4 (con_trans hb c (lb_con lb4))
  omega
theorem lb_lb {h : Nat → Nat} {m : Nat} (hm : m < 4) (c : lb h m < 4) : lb h (lb h m) = lb h m := (lb_eq hm c (lb_con c)).symm
