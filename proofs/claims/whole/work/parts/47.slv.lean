/-! CONTRACTS: solves -/
theorem msF_pop (c : Nat → Int32) (s : Nat) : msF c s 4 = pop (hnd c s) := by
  unfold hnd
  by_cases h0 : c (4 * s + 0) = -1 <;> by_cases h1 : c (4 * s + 1) = -1 <;> by_cases h2 : c (4 * s + 2) = -1 <;> by_cases h3 : c (4 * s + 3) = -1 <;> simp only [msF, hb, h0, h1, h2, h3, ↓reduceIte] <;> decide
theorem pop_0 : ∀ x, x < 16 → (pop x = 0 ↔ x = 0) := by decide +kernel
/-- n rows of n numbers in a table whose rows have four -/
def tab (n : Nat) (T : Nat → Nat → Int64) (f : Nat → Int64) : Nat → Int64 := fun j => if j / 4 < n ∧ j % 4 < n then T (j / 4) (j % 4) else f j
def tabP (n : Nat) (T T' : Nat → Nat → Int64) (r c : Nat) (f : Nat → Int64) : Nat → Int64 := fun j => if j / 4 < n ∧ j % 4 < n then (if j / 4 < r ∨ (j / 4 = r ∧ j % 4 < c) then T' (j / 4) (j % 4) else T (j / 4) (j % 4)) else f j
theorem tabP_0 {n : Nat} {T T' : Nat → Nat → Int64} {f : Nat → Int64} : tabP n T T' 0 0 f = tab n T f := by
  funext j
  unfold tabP tab
  rw [if_neg (show ¬ (j / 4 < 0 ∨ (j / 4 = 0 ∧ j % 4 < 0)) by omega)]
theorem tabP_n {n : Nat} {T T' : Nat → Nat → Int64} {f : Nat → Int64} : tabP n T T' n 0 f = tab n T' f := by
  funext j
  unfold tabP tab
  by_cases h : j / 4 < n ∧ j % 4 < n
  · rw [if_pos h, if_pos h, if_pos (Or.inl h.1)]
  · rw [if_neg h, if_neg h]
theorem tabP_r {n r : Nat} {T T' : Nat → Nat → Int64} {f : Nat → Int64} : tabP n T T' r n f = tabP n T T' (r + 1) 0 f := by
  funext j
  unfold tabP
  by_cases h : j / 4 < n ∧ j % 4 < n
  · rw [if_pos h, if_pos h]
    by_cases h2 : j / 4 < r ∨ (j / 4 = r ∧ j % 4 < n)
    · rw [if_pos h2, if_pos (by omega)]
    · rw [if_neg h2, if_neg (by omega)]
  · rw [if_neg h, if_neg h]
theorem tabP_v {n r c : Nat} {T T' : Nat → Nat → Int64} {f : Nat → Int64} (hn : n ≤ 3) (hr : r < n) (hc : c < n) : tabP n T T' r c f (4 * r + c) = T r c := by
  unfold tabP
  have e1 : (4 * r + c) / 4 = r := by omega
  have e2 : (4 * r + c) % 4 = c := by omega
  rw [e1, e2, if_pos ⟨hr, hc⟩, if_neg (by omega)]
theorem tabP_s {n r c : Nat} {T T' : Nat → Nat → Int64} {f : Nat → Int64} (hn : n ≤ 3) (hr : r < n) (hc : c < n) : va_up (tabP n T T' r c f) (4 * r + c) (T' r c) = tabP n T T' r (c + 1) f := by
  funext j
  unfold va_up
  by_cases e : j = 4 * r + c
  · subst e
    have e1 : (4 * r + c) / 4 = r := by omega
    have e2 : (4 * r + c) % 4 = c := by omega
    rw [if_pos rfl]
    unfold tabP
    rw [e1, e2, if_pos ⟨hr, hc⟩, if_pos (by omega)]
  · rw [if_neg e]
    unfold tabP
    by_cases h : j / 4 < n ∧ j % 4 < n
    · rw [if_pos h, if_pos h]
      by_cases h2 : j / 4 < r ∨ (j / 4 = r ∧ j % 4 < c)
      · rw [if_pos h2, if_pos (by omega)]
      · rw [if_neg h2, if_neg (by omega)]
    · rw [if_neg h, if_neg h]
theorem tab_cg {n : Nat} {T T' : Nat → Nat → Int64} {f : Nat → Int64} (h : ∀ r c, r < n → c < n → T r c = T' r c) : tab n T f = tab n T' f := by
  funext j
  unfold tab
  split
  · rename_i q; exact h _ _ q.1 q.2
  · rfl
/-- the last column -/
def tabF (F : Nat → Int64) (r : Nat) (f : Nat → Int64) : Nat → Int64 := fun j => if j % 4 = 3 ∧ j / 4 < r then F (j / 4) else f j
theorem tabF_0 {F : Nat → Int64} {f : Nat → Int64} : tabF F 0 f = f := by
  funext j; unfold tabF; rw [if_neg (by omega)]
theorem tabF_s {F : Nat → Int64} {r : Nat} {f : Nat → Int64} : va_up (tabF F r f) (4 * r + 3) (F r) = tabF F (r + 1) f := by
  funext j
  unfold va_up tabF
  by_cases e : j = 4 * r + 3
  · subst e
    have e1 : (4 * r + 3) / 4 = r := by omega
    rw [if_pos rfl, if_pos (by omega), e1]
  · rw [if_neg e]
    by_cases h2 : j % 4 = 3 ∧ j / 4 < r
    · rw [if_pos h2, if_pos (by omega)]
    · rw [if_neg h2, if_neg (by omega)]
def Tz (h g : Nat → Nat) (s r c : Nat) : Int := if r = c then (dN h (g r) s : Int) else - (wN h (g r) (g c) s : Int)
/-- levels of the markers g 0 .. -/
def lvS (g : Nat → Nat) (v : Nat → Int) : Nat → Nat → Int
  | 0 => fun _ => 0
  | r + 1 => va_up (lvS g v r) (g r) (v r)
def lvJ (g : Nat → Nat) (v : Nat → Int) (f : Nat → Int64) : Nat → Nat → Int64
  | 0 => fil 0 f 4
  | r + 1 => va_up (lvJ g v f r) (g r) (zL (v r))
theorem lvJ_S {g : Nat → Nat} {v : Nat → Int} {f : Nat → Int64} {m : Nat} (hm : m < 4) : ∀ r, lvJ g v f r m = zL (lvS g v r m)
  | 0 => by show fil 0 f 4 m = _; unfold fil; rw [if_pos hm]; exact zL_0
  | r + 1 => by
    unfold lvJ lvS va_up
    split
    · rfl
    · exact lvJ_S hm r
theorem lvS_n {g : Nat → Nat} {v : Nat → Int} {m : Nat} : ∀ r, (∀ r', r' < r → g r' ≠ m) → lvS g v r m = 0
  | 0, _ => rfl
  | r + 1, h => by
    unfold lvS
    rw [va_up_n _ _ (fun e => h r (by omega) e.symm)]
    exact lvS_n r (fun r' hr' => h r' (by omega))
theorem lvS_v {g : Nat → Nat} {v : Nat → Int} {r0 : Nat} : ∀ r, r0 < r → (∀ r', r0 < r' → r' < r → g r' ≠ g r0) → lvS g v r (g r0) = v r0
  | 0, h, _ => by omega
  | r + 1, h, hd => by
    unfold lvS
    by_cases e : r = r0
    · subst e; exact va_up_s _ _ _
    · rw [va_up_n _ _ (fun q => hd r (by omega) (by omega) q.symm)]
      exact lvS_v r (by omega) (fun r' h1 h2 => hd r' h1 (by omega))
theorem sol_nf {h : Nat → Nat} {p : Nat → Int} {m : Nat} (hm : m < 4) (hf : fre h m = false) (hp : m ≠ 0 → p (m - 1) = 0) : solZ (Mz h 12) p m = 0 := by
  have : m = 0 ∨ m = 1 ∨ m = 2 ∨ m = 3 := by omega
  rcases this with e | e | e | e <;> subst e
  · rfl
  · have hp := hp (by decide)
    simp only [solZ, cofZ, Nat.reduceAdd, Nat.reduceSub, Nat.reduceMul, Nat.reduceMod, Nat.one_ne_zero, ↓reduceIte] at hp ⊢
    simp [Mz, hf, hp]
  · have hp := hp (by decide)
    simp only [solZ, cofZ, Nat.reduceAdd, Nat.reduceSub, Nat.reduceMul, Nat.reduceMod, Nat.reduceEqDiff, ↓reduceIte] at hp ⊢
    simp [Mz, hf, hp]
  · have hp := hp (by decide)
    simp only [solZ, cofZ, Nat.reduceAdd, Nat.reduceSub, Nat.reduceMul, Nat.reduceMod, Nat.reduceEqDiff, ↓reduceIte] at hp ⊢
    simp [Mz, hf, hp]
theorem Mz_bd {h : Nat → Nat} (hh : ∀ s, s < 12 → h s < 16) {k : Nat} (hk : k < 9) : bd (Mz h 12 k) 108 := by
  unfold bd Mz
  by_cases e : k / 3 = k % 3
  · have := dN_le hh (a := k / 3 + 1) (by omega) 12 (Nat.le_refl _)
    rw [if_pos e, if_pos e]
    split <;> omega
  · have := wN_le hh (a := k / 3 + 1) (b := k % 3 + 1) (by omega) (by omega) (by omega) 12 (Nat.le_refl _)
    rw [if_neg e, if_neg e]
    split <;> omega
/-- who goes into the equations of the bundle b: g 0 < g 1 < .. -/
def isAm (h : Nat → Nat) (b n : Nat) (g : Nat → Nat) : Prop := n ≤ 3 ∧ (∀ r, r < n → b < g r ∧ lb h (g r) = b) ∧ (∀ r, 1 ≤ g r ∧ g r < 4) ∧ (∀ r, r + 1 < n → g r < g (r + 1)) ∧ ∀ m, b < m → m < 4 → lb h m = b → ∃ r, r < n ∧ g r = m
theorem am_inj {h : Nat → Nat} {b n : Nat} {g : Nat → Nat} (H : isAm h b n g) : ∀ {r r'}, r < r' → r' < n → g r < g r' := by
  intro r r' h1 h2
  have key : ∀ d, r + d + 1 < n → g r < g (r + d + 1) := by
    intro d
    induction d with
    | zero => intro hd; exact H.2.2.2.1 r hd
    | succ d ih => intro hd; exact Nat.lt_trans (ih (by omega)) (H.2.2.2.1 (r + d + 1) hd)
  have := key (r' - r - 1) (by omega)
  rwa [show r + (r' - r - 1) + 1 = r' by omega] at this
theorem am_fre {h : Nat → Nat} {b n : Nat} {g : Nat → Nat} (H : isAm h b n g) {r : Nat} (hr : r < n) : fre h (g r) = true := by
  obtain ⟨h1, h2⟩ := H.2.1 r hr
  have := (H.2.2.1 r).2
  unfold fre
  rw [h2]
  exact decide_eq_true (by omega)
theorem am_Tz {h : Nat → Nat} {b n : Nat} {g : Nat → Nat} (H : isAm h b n g) {r c : Nat} (hr : r < n) (hc : c < n) : Tz h g 12 r c = Mz h 12 (3 * (g r - 1) + (g c - 1)) := by
  have hn := H.1
  have g1 := H.2.2.1 r
  have g2 := H.2.2.1 c
  have e1 : (3 * (g r - 1) + (g c - 1)) / 3 = g r - 1 := by omega
  have e2 : (3 * (g r - 1) + (g c - 1)) % 3 = g c - 1 := by omega
  unfold Tz Mz
  rw [e1, e2, show g r - 1 + 1 = g r by omega, show g c - 1 + 1 = g c by omega, am_fre H hr, am_fre H hc]
  simp only [Bool.and_self, ↓reduceIte]
  by_cases e : r = c
  · subst e
    rw [if_pos rfl, if_pos rfl]
  · have : g r ≠ g c := by
      rcases Nat.lt_or_gt_of_ne e with q | q
      · have := am_inj H q hc; omega
      · have := am_inj H q hr; omega
    rw [if_neg e, if_neg (by omega)]
/-- the block of the bundle, solved -/
theorem am_core {h : Nat → Nat} (hh : ∀ s, s < 12 → h s < 16) {b n : Nat} {g : Nat → Nat} (hb : b < 4) (hbb : lb h b = b) (H : isAm h b n g) (p : Nat → Int) (hp : ∀ j, j < 3 → fre h (j + 1) = false → p j = 0) : ∃ K, 0 < K ∧ 0 < ovZ (fun r c => Mz h 12 (3 * (g r - 1) + (g c - 1))) n ∧ whZ (Mz h 12) = K * ovZ (fun r c => Mz h 12 (3 * (g r - 1) + (g c - 1))) n ∧
    (∀ m, m < 4 → lb h m = b → solZ (Mz h 12) p m = K * lvS g (lvZ (fun r c => Mz h 12 (3 * (g r - 1) + (g c - 1))) (fun r => p (g r - 1)) n) n m) ∧ (∀ m, m < 4 → lb h m ≠ b → lvS g (lvZ (fun r c => Mz h 12 (3 * (g r - 1) + (g c - 1))) (fun r => p (g r - 1)) n) n m = 0) ∧ lvS g (lvZ (fun r c => Mz h 12 (3 * (g r - 1) + (g c - 1))) (fun r => p (g r - 1)) n) n b = 0 := by
  obtain ⟨K, k1, k2, k3, k4⟩ := core (R := Mz h 12) (p := p) (Mz_PD hh) (n := n) (q := fun r => g r - 1) H.1 (fun r hr => by have := H.2.2.1 r; omega) (fun r hr => by have := H.2.2.2.1 r hr; have := H.2.2.1 r; omega) (by
    intro r hr j hj hne
    have g1 := H.2.2.1 r
    have hj2 : g r - 1 ≠ j := hne r hr
    have e1 : (3 * (g r - 1) + j) / 3 = g r - 1 := by omega
    have e2 : (3 * (g r - 1) + j) % 3 = j := by omega
    unfold Mz
    rw [e1, e2, if_neg (show ¬ g r - 1 = j from hj2), if_neg (show ¬ g r - 1 = j from hj2), show g r - 1 + 1 = g r by omega]
    cases hf : fre h (j + 1) with
    | false => simp
    | true =>
      have hw : wN h (g r) (j + 1) 12 = 0 := by
        rw [wN_eg hh (by omega)]
        cases q : eg h (g r) (j + 1) with
        | false => rfl
        | true =>
          exfalso
          have e3 := lb_eq (by omega) (by omega) (con_eg q)
          rw [(H.2.1 r hr).2] at e3
          have hlt : b < j + 1 := by
            unfold fre at hf
            have hf := of_decide_eq_true hf
            have := (lb_self (m := j + 1) (by omega) (eg_l (by rw [eg_symm]; exact q))).1
            omega
          obtain ⟨r', hr', e4⟩ := H.2.2.2.2 (j + 1) hlt (by omega) e3.symm
          have : g r' - 1 ≠ j := hne r' hr'
          omega
      rw [hw]
      simp)
  have inj : ∀ r, r < n → lvS g (lvZ (fun r c => Mz h 12 (3 * (g r - 1) + (g c - 1))) (fun r => p (g r - 1)) n) n (g r) = lvZ (fun r c => Mz h 12 (3 * (g r - 1) + (g c - 1))) (fun r => p (g r - 1)) n r := by
    intro r hr
    exact lvS_v n hr (fun r' h1 h2 => by have := am_inj H h1 h2; omega)
  have hb0 : lvS g (lvZ (fun r c => Mz h 12 (3 * (g r - 1) + (g c - 1))) (fun r => p (g r - 1)) n) n b = 0 := lvS_n n (fun r' hr' => by have := (H.2.1 r' hr').1; omega)
  refine ⟨K, k1, k2, k3, fun m hm hl => ?_, fun m hm hl => ?_, hb0⟩
  · by_cases e : m = b
    · subst e
      rw [hb0, Int.mul_zero]
      have hf : fre h m = false := by unfold fre; rw [hl]; exact decide_eq_false (by omega)
      exact sol_nf hm hf (fun hm0 => hp (m - 1) (by omega) (by rw [show m - 1 + 1 = m by omega]; exact hf))
    · have hlt : b < m := by
        have : lb h m < 4 := by omega
        have := (lb_self hm (con_l (lb_con this))).1
        omega
      obtain ⟨r, hr, rfl⟩ := H.2.2.2.2 m hlt hm hl
      have := k4 r hr
      rw [show g r - 1 + 1 = g r by have := H.2.2.1 r; omega] at this
      rw [this, inj r hr]
  · exact lvS_n n (fun r' hr' e => by subst e; exact hl (H.2.1 r' hr').2)
