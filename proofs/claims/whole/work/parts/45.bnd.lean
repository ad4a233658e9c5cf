/-! CONTRACTS: the reference's bundles and lays -/
theorem hb_bit (c : Nat → Int32) (s : Nat) : ∀ n m, (hb c s n).testBit m = decide (m < n ∧ c (4 * s + m) ≠ -1)
  | 0, m => by simp [hb]
  | n + 1, m => by
    have ih := hb_bit c s n m
    have e : (2 ^ n).testBit m = decide (n = m) := Nat.testBit_two_pow
    unfold hb
    split
    · rename_i q
      rw [ih, decide_eq_decide]
      by_cases hm : m = n
      · subst hm; simp [q]
      · exact and_congr_left' (by omega)
    · rename_i q
      rw [Nat.testBit_or, ih, e]
      by_cases hm : m = n
      · subst hm; simp [q]
      · have : ¬ n = m := fun z => hm z.symm
        simp only [this, decide_false, Bool.or_false]
        rw [decide_eq_decide]
        exact and_congr_left' (by omega)
theorem hnd_bit (c : Nat → Int32) (s : Nat) {m : Nat} (hm : m < 4) : (hnd c s).testBit m = decide (c (4 * s + m) ≠ -1) := by
  unfold hnd
  rw [hb_bit, decide_eq_decide]
  exact ⟨fun q => q.2, fun q => ⟨hm, q⟩⟩
theorem hnd_b1 {c : Nat → Int32} {k : Nat} : (hnd c (k / 4)).testBit (k % 4) = decide (c k ≠ -1) := by
  rw [hnd_bit c _ (by omega), show 4 * (k / 4) + k % 4 = k by omega]
/-- a label as the arrays have it: 4 stands for none -/
def enc (n : Nat) : Int32 := if n = 4 then -1 else nI n
theorem enc_4 : enc 4 = -1 := rfl
theorem enc_lt {n : Nat} (h : n < 4) : enc n = nI n := by unfold enc; rw [if_neg (by omega)]
theorem enc_m1 {n : Nat} (h : n ≤ 4) : (enc n = -1) = (n = 4) := by
  unfold enc
  split
  · rename_i e; simp [e]
  · rename_i e; exact propext ⟨fun q => absurd q (nI_m1 (by omega)), fun q => absurd q e⟩
theorem enc_eq {a b : Nat} (ha : a ≤ 4) (hb : b ≤ 4) : (enc a = enc b) = (a = b) := by
  have h : ∀ a, a < 5 → ∀ b, b < 5 → (enc a = enc b ↔ a = b) := by decide +kernel
  exact propext (h a (by omega) b (by omega))
theorem enc_le {a b : Nat} (ha : a < 4) (hb : b < 4) : (enc a ≤ enc b) = (a ≤ b) := by
  have h : ∀ a, a < 4 → ∀ b, b < 4 → (enc a ≤ enc b ↔ a ≤ b) := by decide +kernel
  exact propext (h a ha b hb)
theorem lbit_enc (a : Nat) : lbit a = enc (lbn a) := lbit_eq a
/-- the label of a script -/
def slb (h : Nat → Nat) (s : Nat) : Nat := if lbn (h s) = 4 then 4 else lb h (lbn (h s))
def LB (h : Nat → Nat) (k : Nat) : Nat := if k < 12 then slb h k else lb h (k - 12)
theorem lb_le4 (h : Nat → Nat) (m : Nat) : lb h m ≤ 4 := by unfold lb; split <;> (try split) <;> (try split) <;> (try split) <;> omega
theorem slb_le4 (h : Nat → Nat) (s : Nat) : slb h s ≤ 4 := by
  unfold slb
  split
  · omega
  · exact lb_le4 _ _
theorem sbF_enc (c : Nat → Int32) (s : Nat) : sbF (wC c) (hnd c) s = enc (slb (hnd c) s) := by
  unfold sbF slb
  have := lbn_le (hnd c s)
  split
  · rfl
  · rw [lbit_enc, lbn_wC c (by omega)]
theorem lbn_bit {a : Nat} (h : lbn a ≠ 4) : a.testBit (lbn a) = true := by
  unfold lbn at h ⊢
  split
  · assumption
  · split
    · assumption
    · split
      · assumption
      · split
        · assumption
        · simp_all
theorem lbn_ne {a m : Nat} (hm : m < 4) (h : a.testBit m = true) : lbn a ≠ 4 := by
  intro q
  unfold lbn at q
  have : m = 0 ∨ m = 1 ∨ m = 2 ∨ m = 3 := by omega
  rcases this with e | e | e | e <;> subst e <;> rw [h] at q <;> simp at q
  · split at q <;> omega
  · split at q <;> (try split at q) <;> omega
  · split at q <;> (try split at q) <;> (try split at q) <;> omega
theorem eg_of {h : Nat → Nat} {s a b : Nat} (hs : s < 12) (ha : (h s).testBit a = true) (hb : (h s).testBit b = true) : eg h a b = true := eg_iff.mpr ⟨s, hs, ha, hb⟩
/-- all markers of a script have its label -/
theorem slb_of {h : Nat → Nat} {s m : Nat} (hs : s < 12) (hm : m < 4) (hb : (h s).testBit m = true) : slb h s = lb h m := by
  have h4 := lbn_ne hm hb
  have := lbn_le (h s)
  unfold slb
  rw [if_neg h4]
  exact lb_eq (by omega) hm (con_eg (eg_of hs (lbn_bit h4) hb))
theorem slb_lt {h : Nat → Nat} {s m : Nat} (hs : s < 12) (hm : m < 4) (hb : (h s).testBit m = true) : slb h s < 4 := by
  rw [slb_of hs hm hb]
  exact (lb_self hm (eg_of hs hb hb)).2
theorem slb_4 {h : Nat → Nat} {s : Nat} (hs : s < 12) (hlt : h s < 16) : slb h s = 4 ↔ h s = 0 := by
  have z : ∀ x, x < 16 → (lbn x = 4 ↔ x = 0) := by decide +kernel
  constructor
  · intro q
    refine Classical.byContradiction (fun hn => ?_)
    have h4 : lbn (h s) ≠ 4 := fun w => hn ((z _ hlt).mp w)
    have := lbn_le (h s)
    have := slb_lt hs (show lbn (h s) < 4 by omega) (lbn_bit h4)
    omega
  · intro q
    unfold slb
    rw [if_pos ((z _ hlt).mpr q)]
/-- first labels: each marker with a mark its own -/
def pL (c : Nat → Int32) : Nat → Nat → Nat
  | 0 => fun _ => 4
  | k + 1 => if c k = -1 then pL c k else va_up (pL c k) (12 + k % 4) (k % 4)
theorem pL_inv (c : Nat → Int32) : ∀ i, i ≤ 48 → (∀ s, s < 12 → pL c i s = 4) ∧ (∀ m, m < 4 → pL c i (12 + m) = 4 ∨ (pL c i (12 + m) = m ∧ eg (hnd c) m m = true)) ∧ ∀ k, k < i → c k ≠ -1 → pL c i (12 + k % 4) = k % 4
  | 0, _ => ⟨fun _ _ => rfl, fun _ _ => Or.inl rfl, fun k hk => by omega⟩
  | i + 1, hi => by
    obtain ⟨h1, h2, h3⟩ := pL_inv c i (by omega)
    unfold pL
    split
    · rename_i q
      refine ⟨h1, h2, fun k hk hc => ?_⟩
      by_cases e : k = i
      · subst e; exact absurd q hc
      · exact h3 k (by omega) hc
    · rename_i q
      have hb : (hnd c (i / 4)).testBit (i % 4) = true := by rw [hnd_b1, decide_eq_true q]
      refine ⟨fun s hs => ?_, fun m hm => ?_, fun k hk hc => ?_⟩
      · rw [va_up_n _ _ (by omega)]; exact h1 s hs
      · by_cases e : m = i % 4
        · subst e
          rw [va_up_s]
          exact Or.inr ⟨rfl, eg_of (by omega) hb hb⟩
        · rw [va_up_n _ _ (by omega)]
          exact h2 m hm
      · by_cases e : k % 4 = i % 4
        · rw [e, va_up_s]
        · rw [va_up_n _ _ (by omega)]
          exact h3 k (by omega) hc
/-- labels under way -/
def bInv (h : Nat → Nat) (L : Nat → Nat) : Prop := (∀ m, m < 4 → (L (12 + m) = 4 ∧ eg h m m = false) ∨ (L (12 + m) ≤ m ∧ con h m (L (12 + m)) = true)) ∧ ∀ s, s < 12 → L s = 4 ∨ (L s < 4 ∧ ∃ m, m < 4 ∧ (h s).testBit m = true ∧ con h m (L s) = true)
theorem bInv_0 (c : Nat → Int32) : bInv (hnd c) (pL c 48) := by
  obtain ⟨h1, h2, h3⟩ := pL_inv c 48 (Nat.le_refl _)
  refine ⟨fun m hm => ?_, fun s hs => Or.inl (h1 s hs)⟩
  cases e : eg (hnd c) m m with
  | false =>
    rcases h2 m hm with q | q
    · exact Or.inl ⟨q, rfl⟩
    · rw [e] at q; exact absurd q.2 (by simp)
  | true =>
    obtain ⟨s, hs, hb, -⟩ := eg_iff.mp e
    rw [hnd_bit c s hm, decide_eq_true_eq] at hb
    have := h3 (4 * s + m) (by omega) hb
    rw [show (4 * s + m) % 4 = m by omega] at this
    rw [this]
    exact Or.inr ⟨Nat.le_refl _, con_eg e⟩
/-- a step: script and marker of a mark take the lesser label -/
theorem bInv_s {h L : Nat → Nat} (hi : bInv h L) {s m : Nat} (hs : s < 12) (hm : m < 4) (hb : (h s).testBit m = true) : L (12 + m) < 4 ∧ bInv h (va_up (va_up L s (min (L s) (L (12 + m)))) (12 + m) (min (L s) (L (12 + m)))) := by
  obtain ⟨h1, h2⟩ := hi
  have hL : L (12 + m) ≤ m ∧ con h m (L (12 + m)) = true := by
    rcases h1 m hm with q | q
    · have := eg_of hs hb hb
      rw [q.2] at this
      cases this
    · exact q
  have hv : min (L s) (L (12 + m)) ≤ m ∧ con h m (min (L s) (L (12 + m))) = true := by
    by_cases e : L s ≤ L (12 + m)
    · rw [Nat.min_eq_left e]
      refine ⟨by omega, ?_⟩
      rcases h2 s hs with q | ⟨q, m', hm', hb', hc⟩
      · omega
      · exact con_trans hm' (con_eg (eg_of hs hb hb')) hc
    · rw [Nat.min_eq_right (by omega)]
      exact hL
  refine ⟨by omega, fun m2 hm2 => ?_, fun s2 hs2 => ?_⟩
  · by_cases e : m2 = m
    · subst e
      rw [va_up_s]
      exact Or.inr hv
    · rw [va_up_n _ _ (by omega), va_up_n _ _ (by omega)]
      exact h1 m2 hm2
  · by_cases e : s2 = s
    · subst e
      rw [va_up_n _ _ (by omega), va_up_s]
      exact Or.inr ⟨by omega, m, hm, hb, hv.2⟩
    · rw [va_up_n _ _ (by omega), va_up_n _ _ e]
      exact h2 s2 hs2
/-- at rest the labels are the bundles' -/
theorem bInv_e {h L : Nat → Nat} (hh : ∀ s, s < 12 → h s < 16) (hi : bInv h L) (hst : ∀ s m, s < 12 → m < 4 → (h s).testBit m = true → L s = L (12 + m)) : ∀ k, k < 16 → L k = LB h k := by
  obtain ⟨h1, h2⟩ := hi
  have hbit : ∀ {s a : Nat}, s < 12 → (h s).testBit a = true → a < 4 := by
    intro s a hs q
    refine Classical.byContradiction (fun hn => ?_)
    have : (h s).testBit a = false := Nat.testBit_lt_two_pow (Nat.lt_of_lt_of_le (hh s hs) (show 2 ^ 4 ≤ 2 ^ a from Nat.pow_le_pow_right (by decide) (by omega)))
    rw [this] at q
    cases q
  have hE : ∀ a b, eg h a b = true → L (12 + a) = L (12 + b) := by
    intro a b e
    obtain ⟨s, hs, q1, q2⟩ := eg_iff.mp e
    rw [← hst s a hs (hbit hs q1) q1, ← hst s b hs (hbit hs q2) q2]
  have hM : ∀ m, m < 4 → L (12 + m) = lb h m := by
    intro m hm
    rcases h1 m hm with ⟨q1, q2⟩ | ⟨q1, q2⟩
    · rw [q1]
      have : ¬ lb h m < 4 := fun w => by
        have := con_l (lb_con w)
        rw [q2] at this
        cases this
      have := lb_le4 h m
      omega
    · have l1 := lb_le (show L (12 + m) < 4 by omega) q2
      have l4 : lb h m < 4 := by omega
      have e := con_L (L := fun a => L (12 + a)) hE (lb_con l4)
      have l2 : L (12 + lb h m) ≤ lb h m := by
        rcases h1 (lb h m) l4 with ⟨w1, w2⟩ | ⟨w1, w2⟩
        · have c2 : con h (lb h m) m = true := by rw [con_symm]; exact lb_con l4
          have := con_l c2
          rw [w2] at this
          cases this
        · exact w1
      have e' : L (12 + m) = L (12 + lb h m) := e
      omega
  intro k hk
  unfold LB
  split
  · rename_i hk2
    rcases h2 k hk2 with q | ⟨q, m, hm, hb, hc⟩
    · rw [q]
      refine Classical.byContradiction (fun hn => ?_)
      have h4 : h k ≠ 0 := fun w => hn ((slb_4 hk2 (hh k hk2)).mpr w).symm
      have z : ∀ x, x < 16 → (lbn x = 4 → x = 0) := by decide +kernel
      have h5 : lbn (h k) ≠ 4 := fun w => h4 (z _ (hh k hk2) w)
      have h6 := lbn_le (h k)
      have e := hst k _ hk2 (show lbn (h k) < 4 by omega) (lbn_bit h5)
      have e2 := hM _ (show lbn (h k) < 4 by omega)
      have e3 := (lb_self (show lbn (h k) < 4 by omega) (eg_of hk2 (lbn_bit h5) (lbn_bit h5))).2
      omega
    · rw [hst k m hk2 hm hb, hM m hm, slb_of hk2 hm hb]
  · rename_i hk2
    have := hM (k - 12) (by omega)
    rw [show 12 + (k - 12) = k by omega] at this
    exact this
/-- how far the labels can still fall -/
def sm16 (L : Nat → Nat) : Nat := L 0 + L 1 + L 2 + L 3 + L 4 + L 5 + L 6 + L 7 + L 8 + L 9 + L 10 + L 11 + L 12 + L 13 + L 14 + L 15
theorem sm16_up {L : Nat → Nat} {k v : Nat} (hk : k < 16) : sm16 (va_up L k v) + L k = sm16 L + v := by
  unfold sm16 va_up
  have : k = 0 ∨ k = 1 ∨ k = 2 ∨ k = 3 ∨ k = 4 ∨ k = 5 ∨ k = 6 ∨ k = 7 ∨ k = 8 ∨ k = 9 ∨ k = 10 ∨ k = 11 ∨ k = 12 ∨ k = 13 ∨ k = 14 ∨ k = 15 := by omega
  rcases this with e | e | e | e | e | e | e | e | e | e | e | e | e | e | e | e <;> subst e <;> simp <;> omega
theorem sm16_s {L : Nat → Nat} {s m : Nat} (hs : s < 12) (hm : m < 4) (hne : L s ≠ L (12 + m)) : sm16 (va_up (va_up L s (min (L s) (L (12 + m)))) (12 + m) (min (L s) (L (12 + m)))) < sm16 L := by
  have h1 := sm16_up (L := va_up L s (min (L s) (L (12 + m)))) (k := 12 + m) (v := min (L s) (L (12 + m))) (by omega)
  have h2 := sm16_up (L := L) (k := s) (v := min (L s) (L (12 + m))) (by omega)
  rw [va_up_n _ _ (show 12 + m ≠ s by omega)] at h1
  omega
theorem fll_enc {L : Nat → Nat} {f : Nat → Int32} {k v : Nat} (hk : k < 16) : va_up (fll (fun k => enc (L k)) f 16) k (enc v) = fll (fun j => enc (va_up L k v j)) f 16 := by
  rw [fll_upg hk]
  congr 1
  funext j
  unfold va_up
  split <;> rfl
section BNDR
variable {I : ab_I} {J : ab_J} {Q : Option Value → ab_I → ab_J → Prop} {x x1 x2 : Int32} {u : Int64}
set_option maxRecDepth 100000 in
theorem c139 {c : Nat → Int32} (hc : I 55 = c) : Cal 139 [.ref 49] I J Q ↔ Q none (va_up I 57 (fll (fun k => enc (LB (hnd c) k)) (I 57) 16)) J := by
  refine Cal_of (fun Q hQ => ?_)
  have hQ' : ∀ L, bInv (hnd c) L → (∀ s m, s < 12 → m < 4 → (hnd c s).testBit m = true → L s = L (12 + m)) → Q none (va_up I 57 (fll (fun k => enc (L k)) (I 57) 16)) J := by
    intro L h1 h2
    have e := bInv_e (fun s _ => hnd_lt c s) h1 h2
    have e2 : fll (fun k => enc (L k)) (I 57) 16 = fll (fun k => enc (LB (hnd c) k)) (I 57) 16 := by
      funext k
      unfold fll
      split
      · rename_i hk; show enc (L k) = enc (LB (hnd c) k); rw [e k hk]
      · rfl
    rw [e2]
    exact hQ
  -- the passes
  have pass : ∀ (d : Nat) (L : Nat → Nat) (a2 a3 a4 a5 : Option Value), sm16 L < d → bInv (hnd c) L → At 139 61 [some (.ref 49), some (.int (nI 1)), a2, a3, a4, a5] [] (va_up I 57 (fll (fun k => enc (L k)) (I 57) 16)) J Q := by
    intro d
    induction d with
    | zero => intro L a2 a3 a4 a5 h; omega
    | succ d ih =>
      intro L a2 a3 a4 a5 hd hi
      rw [k139_61]
      simp (disch := omega) only [k139_62, k139_65, k139_66, k139_67, k139_68, Option.toList_some, Option.toList_none, List.cons_append, List.nil_append, nl_i, nl_r, nl_l, nl_n, eq0, Nat.one_ne_zero, ↓reduceIte]
      have inner : ∀ z : (Nat → Nat) × Bool, (bInv (hnd c) z.1 ∧ (z.2 = false → z.1 = L ∧ ∀ k, k < 0 → c k ≠ -1 → L (k / 4) = L (12 + k % 4)) ∧ (z.2 = true → sm16 z.1 < sm16 L)) → ∀ a3 a4 a5 : Option Value, At 139 69 [some (.ref 49), some (.int (bI z.2)), some (.int (nI 0)), a3, a4, a5] [] (va_up I 57 (fll (fun k => enc (z.1 k)) (I 57) 16)) J Q := by
        refine loop_st (α := (Nat → Nat) × Bool) (N := 48) (P := fun i z => ∀ a3 a4 a5 : Option Value, At 139 69 [some (.ref 49), some (.int (bI z.2)), some (.int (nI i)), a3, a4, a5] [] (va_up I 57 (fll (fun k => enc (z.1 k)) (I 57) 16)) J Q) (G := fun i z => bInv (hnd c) z.1 ∧ (z.2 = false → z.1 = L ∧ ∀ k, k < i → c k ≠ -1 → L (k / 4) = L (12 + k % 4)) ∧ (z.2 = true → sm16 z.1 < sm16 L)) ?_ ?_
        · rintro ⟨L', mo⟩ ⟨h1, h2, h3⟩ a3 a4 a5
          dsimp only at h1 h2 h3 ⊢
          rw [k139_69]
          simp (disch := omega) only [k139_70, k139_72, k139_182, nI_leI, Nat.le_refl, ↓reduceIte]
          cases mo with
          | true => exact ih L' _ _ _ _ (by have := h3 rfl; omega) h1
          | false =>
            obtain ⟨e1, e2⟩ := h2 rfl
            subst e1
            rw [bI_f, k139_61]
            simp (disch := omega) only [k139_62, k139_185, eq0, ↓reduceIte]
            refine hQ' L' h1 (fun s m hs hm hb => ?_)
            rw [hnd_bit c s hm, decide_eq_true_eq] at hb
            have := e2 (4 * s + m) (by omega) hb
            rwa [show (4 * s + m) / 4 = s by omega, show (4 * s + m) % 4 = m by omega] at this
        · rintro i ⟨L', mo⟩ hi48 ⟨h1, h2, h3⟩ ih2 a3 a4 a5
          dsimp only at h1 h2 h3 ⊢
          have e0 : ¬ 48 ≤ i := by omega
          have hl4 : i / 4 < 16 := by omega
          have hl5 : 12 + i % 4 < 16 := by omega
          have LS : ∀ s, s < 12 → L' s ≤ 4 := fun s hs => by
            rcases h1.2 s hs with q | q
            · omega
            · have := q.1; omega
          have LM : ∀ m, m < 4 → L' (12 + m) ≤ 4 := fun m hm => by
            rcases h1.1 m hm with q | q
            · omega
            · have := q.1; omega
          rw [k139_69]
          simp (disch := omega) only [k139_70, k139_72, k139_75, k139_76, k139_77, k139_78, k139_79, k139_81, k139_82, k139_83, k139_84, k139_85, k139_87, k139_88, k139_91, k139_92, k139_93, k139_94, Option.toList_some, Option.toList_none, List.cons_append, List.nil_append, nl_i, nl_r, nl_l, nl_n, nI_leI, e0, ↓reduceIte, eq0, Nat.reduceEqDiff, not_false_eq_true, true_and, and_true, div4, rem4, rem4b, nI_add, nI_clamp, bnd, ly_55, Nat.reduceLT, up_ne, hc]
          by_cases hq : c i = -1
          · rw [if_pos hq]
            simp (disch := omega) only [k139_176, k139_179, Option.toList_some, Option.toList_none, List.cons_append, List.nil_append, nl_i, nl_r, nl_l, nl_n, nI_add]
            refine ih2 (L', mo) ⟨h1, fun e => ⟨(h2 e).1, fun k hk hck => ?_⟩, h3⟩ _ _ _
            by_cases ek : k = i
            · subst ek; exact absurd hq hck
            · exact (h2 e).2 k (by omega) hck
          · rw [if_neg hq]
            have hb : (hnd c (i / 4)).testBit (i % 4) = true := by rw [hnd_b1, decide_eq_true hq]
            obtain ⟨g1, g2⟩ := bInv_s h1 (show i / 4 < 12 by omega) (show i % 4 < 4 by omega) hb
            have lS := LS (i / 4) (by omega)
            have lM := LM (i % 4) (by omega)
            simp (disch := omega) only [k139_97, k139_98, k139_101, k139_102, k139_103, k139_104, k139_107, k139_109, k139_110, Option.toList_some, Option.toList_none, List.cons_append, List.nil_append, nl_i, nl_r, nl_l, nl_n, nI_clamp, bnd, ly_57, Nat.reduceLT, true_and, and_true, va_up_s, fll_lt, enc_eq]
            by_cases hq2 : L' (i / 4) = L' (12 + i % 4)
            · rw [if_pos hq2]
              simp (disch := omega) only [k139_176, k139_179, Option.toList_some, Option.toList_none, List.cons_append, List.nil_append, nl_i, nl_r, nl_l, nl_n, nI_add]
              refine ih2 (L', mo) ⟨h1, fun e => ⟨(h2 e).1, fun k hk hck => ?_⟩, h3⟩ _ _ _
              by_cases ek : k = i
              · subst ek; rw [← (h2 e).1]; exact hq2
              · exact (h2 e).2 k (by omega) hck
            · rw [if_neg hq2]
              have fin : ∀ a3 a4 : Option Value, At 139 157 [some (.ref 49), some (.int (bI mo)), some (.int (nI i)), some (.int (nI (i / 4))), some (.int (nI (12 + i % 4))), some (.int (enc (min (L' (i / 4)) (L' (12 + i % 4)))))] [] (va_up I 57 (fll (fun k => enc (L' k)) (I 57) 16)) J Q := by
                intro a3 a4
                simp (disch := omega) only [k139_157, k139_158, k139_161, k139_162, k139_164, k139_165, k139_166, k139_169, k139_171, k139_173, k139_174, k139_175, k139_176, k139_179, Option.toList_some, Option.toList_none, List.cons_append, List.nil_append, nl_i, nl_r, nl_l, nl_n, nI_clamp, bnd, ly_57, Nat.reduceLT, true_and, and_true, va_up_s, up_same, fll_enc, nI_add]
                refine ih2 (va_up (va_up L' (i / 4) (min (L' (i / 4)) (L' (12 + i % 4)))) (12 + i % 4) (min (L' (i / 4)) (L' (12 + i % 4))), true) ⟨g2, fun e => (by cases e), fun _ => ?_⟩ _ _ _
                have d1 := sm16_s (L := L') (show i / 4 < 12 by omega) (show i % 4 < 4 by omega) hq2
                cases mo with
                | true => have := h3 rfl; dsimp only at this ⊢; omega
                | false => have := (h2 rfl).1; rw [← this]; exact d1
              simp (disch := omega) only [k139_113, k139_114, k139_117, k139_118, k139_119, k139_120, Option.toList_some, Option.toList_none, List.cons_append, List.nil_append, nl_i, nl_r, nl_l, nl_n, nI_clamp, bnd, ly_57, Nat.reduceLT, true_and, and_true, va_up_s, fll_lt, enc_m1]
              by_cases hq3 : L' (i / 4) = 4
              · rw [if_pos hq3]
                simp (disch := omega) only [k139_139, k139_140, k139_143, k139_145, k139_146, k139_155, Option.toList_some, Option.toList_none, List.cons_append, List.nil_append, nl_i, nl_r, nl_l, nl_n, nI_clamp, bnd, ly_57, Nat.reduceLT, true_and, and_true, va_up_s, fll_lt]
                have := fin none none
                rwa [Nat.min_eq_right (by omega)] at this
              · rw [if_neg hq3]
                simp (disch := omega) only [k139_123, k139_124, k139_127, k139_129, k139_130, k139_131, k139_134, k139_135, k139_136, Option.toList_some, Option.toList_none, List.cons_append, List.nil_append, nl_i, nl_r, nl_l, nl_n, nI_clamp, bnd, ly_57, Nat.reduceLT, true_and, and_true, va_up_s, fll_lt, enc_le]
                by_cases hq4 : L' (i / 4) ≤ L' (12 + i % 4)
                · rw [if_pos hq4]
                  simp (disch := omega) only [k139_149, k139_150, k139_153, k139_154, k139_155, Option.toList_some, Option.toList_none, List.cons_append, List.nil_append, nl_i, nl_r, nl_l, nl_n, nI_clamp, bnd, ly_57, Nat.reduceLT, true_and, and_true, va_up_s, fll_lt]
                  have := fin none none
                  rwa [Nat.min_eq_left hq4] at this
                · rw [if_neg hq4]
                  simp (disch := omega) only [k139_139, k139_140, k139_143, k139_145, k139_146, k139_155, Option.toList_some, Option.toList_none, List.cons_append, List.nil_append, nl_i, nl_r, nl_l, nl_n, nI_clamp, bnd, ly_57, Nat.reduceLT, true_and, and_true, va_up_s, fll_lt]
                  have := fin none none
                  rwa [Nat.min_eq_right (by omega)] at this
      exact inner (L, false) ⟨hi, fun _ => ⟨rfl, fun k hk => by omega⟩, fun e => by cases e⟩ _ _ _
  rw [en139]
  simp only [k139_0, k139_1, Option.toList_some, Option.toList_none, List.cons_append, List.nil_append, nl_i, nl_r, nl_l, nl_n]
  have l1 : At 139 2 [some (.ref 49), some (.int (nI 0)), none, none, none, none] [] (va_up I 57 (fil (-1) (I 57) 0)) J Q := by
    refine loop_dn (N := 16) (P := fun i => At 139 2 [some (.ref 49), some (.int (nI i)), none, none, none, none] [] (va_up I 57 (fil (-1) (I 57) i)) J Q) ?_ ?_
    · rw [k139_2]
      simp (disch := omega) only [k139_3, k139_5, k139_21, k139_22, Option.toList_some, Option.toList_none, List.cons_append, List.nil_append, nl_i, nl_r, nl_l, nl_n, nI_leI, Nat.le_refl, ↓reduceIte]
      have e1 : fil (-1) (I 57) 16 = fll (fun k => enc (pL c 0 k)) (I 57) 16 := rfl
      rw [e1]
      refine loop_dn (N := 48) (P := fun i => At 139 23 [some (.ref 49), some (.int (nI i)), none, none, none, none] [] (va_up I 57 (fll (fun k => enc (pL c i k)) (I 57) 16)) J Q) ?_ ?_
      · rw [k139_23]
        simp (disch := omega) only [k139_24, k139_26, k139_59, k139_60, Option.toList_some, Option.toList_none, List.cons_append, List.nil_append, nl_i, nl_r, nl_l, nl_n, nI_leI, Nat.le_refl, ↓reduceIte]
        exact pass _ _ _ _ _ _ (Nat.lt_succ_self _) (bInv_0 c)
      · intro i hi ih
        have e0 : ¬ 48 ≤ i := by omega
        rw [pL] at ih
        rw [k139_23]
        simp (disch := omega) only [k139_24, k139_26, k139_29, k139_30, k139_33, k139_34, k139_35, k139_36, Option.toList_some, Option.toList_none, List.cons_append, List.nil_append, nl_i, nl_r, nl_l, nl_n, nI_leI, e0, ↓reduceIte, nI_clamp, bnd, ly_55, Nat.reduceLT, true_and, and_true, up_ne, hc]
        by_cases hq : c i = -1
        · rw [if_pos hq] at ih ⊢
          simp (disch := omega) only [k139_53, k139_56, Option.toList_some, Option.toList_none, List.cons_append, List.nil_append, nl_i, nl_r, nl_l, nl_n, nI_add]
          exact ih
        · rw [if_neg hq] at ih ⊢
          have e4 : enc (i % 4) = nI (i % 4) := enc_lt (by omega)
          rw [← fll_enc (by omega), e4] at ih
          simp (disch := omega) only [k139_39, k139_40, k139_43, k139_45, k139_46, k139_47, k139_48, k139_49, k139_50, k139_51, k139_52, k139_53, k139_56, Option.toList_some, Option.toList_none, List.cons_append, List.nil_append, nl_i, nl_r, nl_l, nl_n, eq0, Nat.reduceEqDiff, not_false_eq_true, true_and, and_true, rem4, nI_add, nI_clamp, bnd, ly_57, Nat.reduceLT, va_up_s, up_same]
          exact ih
    · intro i hi ih
      have e0 : ¬ 16 ≤ i := by omega
      rw [k139_2]
      simp (disch := omega) only [k139_3, k139_5, k139_8, k139_9, k139_12, k139_13, k139_14, k139_15, k139_18, Option.toList_some, Option.toList_none, List.cons_append, List.nil_append, nl_i, nl_r, nl_l, nl_n, nI_leI, e0, ↓reduceIte, nI_clamp, bnd, ly_57, Nat.reduceLT, true_and, and_true, va_up_s, up_same, fil_s, nI_add]
      exact ih
  rw [fil_0, up_id] at l1
  exact l1
set_option maxRecDepth 100000 in
theorem c138 {n : Nat} {tc : Nat → Nat} (h : I 49 0 = nI n) (hn : n ≤ 100) (hc : ∀ i, i < n → tc i < 48 ∧ I 50 i = nI (tc i / 4) ∧ I 51 i = nI (tc i % 4)) : Cal 138 [.ref 49] I J Q ↔ Q none (va_up (va_up (va_up I 55 (lyF (I 55) (I 56) tc (I 52) (I 53) (I 49 5) n).1) 56 (lyF (I 55) (I 56) tc (I 52) (I 53) (I 49 5) n).2) 57 (fll (fun k => enc (LB (hnd (lyF (I 55) (I 56) tc (I 52) (I 53) (I 49 5) n).1) k)) (I 57) 16)) J := by
  refine Cal_of (fun Q hQ => ?_)
  rw [en138]
  simp only [k138_0, k138_1, Option.toList_some, Option.toList_none, List.cons_append, List.nil_append, nl_i, nl_r, nl_l, nl_n]
  have key : At 138 2 [some (.ref 49), some (.int (nI 0))] [] (va_up (va_up I 55 (fil (-1) (I 55) 0)) 56 (fil (-1) (I 56) 0)) J Q := by
    refine loop_dn (N := 48) (P := fun i => At 138 2 [some (.ref 49), some (.int (nI i))] [] (va_up (va_up I 55 (fil (-1) (I 55) i)) 56 (fil (-1) (I 56) i)) J Q) ?_ ?_
    · rw [k138_2]
      simp (disch := omega) only [k138_3, k138_5, nI_leI, Nat.le_refl, ↓reduceIte, k138_28, k138_29, Option.toList_some, Option.toList_none, List.cons_append, List.nil_append, nl_i, nl_r, nl_l, nl_n]
      refine loop_dn (N := n) (P := fun i => At 138 30 [some (.ref 49), some (.int (nI i))] [] (va_up (va_up I 55 (lyF (I 55) (I 56) tc (I 52) (I 53) (I 49 5) i).1) 56 (lyF (I 55) (I 56) tc (I 52) (I 53) (I 49 5) i).2) J Q) ?_ ?_
      · rw [k138_30]
        simp (disch := omega) only [k138_31, k138_32, k138_35, k138_104, k138_105, Option.toList_some, Option.toList_none, List.cons_append, List.nil_append, nl_i, nl_r, nl_l, nl_n, up_ne, h, nI_leI, Nat.le_refl, ↓reduceIte]
        refine (c139 (c := (lyF (I 55) (I 56) tc (I 52) (I 53) (I 49 5) n).1) ?_).mpr ?_
        · simp (disch := omega) only [up_ne, va_up_s]
        · simp (disch := omega) only [Option.toList_some, Option.toList_none, List.cons_append, List.nil_append, nl_i, nl_r, nl_l, nl_n, k138_108, up_ne]
          exact hQ
      · intro i hi ih
        obtain ⟨h1, h2, h3⟩ := hc i hi
        have e0 : ¬ n ≤ i := by omega
        have e4 : 4 * (tc i / 4) + tc i % 4 = tc i := by omega
        rw [k138_30]
        simp (disch := omega) only [k138_0, k138_1, k138_3, k138_5, k138_8, k138_9, k138_12, k138_13, k138_14, k138_15, k138_16, k138_19, k138_20, k138_21, k138_22, k138_25, k138_28, k138_29, k138_31, k138_32, k138_35, k138_38, k138_39, k138_42, k138_43, k138_44, k138_45, k138_48, k138_51, k138_52, k138_55, k138_56, k138_57, k138_60, k138_61, k138_62, k138_63, k138_64, k138_67, k138_68, k138_69, k138_70, k138_71, k138_74, k138_75, k138_76, k138_77, k138_78, k138_81, k138_82, k138_83, k138_86, k138_87, k138_88, k138_89, k138_90, k138_93, k138_94, k138_95, k138_96, k138_97, k138_98, k138_101, Option.toList_some, Option.toList_none, List.cons_append, List.nil_append, nl_i, nl_r, nl_l, nl_n, up_ne, va_up_s, h, nI_leI, e0, ↓reduceIte, nI_clamp, bnd, true_and, and_true, ly_50, ly_51, ly_52, ly_53, ly_55, ly_56, Nat.reduceLT, h2, h3, pk_mul, e4, up_comm, up_same, nI_add]
        split
        · rename_i hq
          rw [lyF, if_pos hq] at ih
          exact ih
        · rename_i hq
          rw [lyF, if_neg hq] at ih
          exact ih
    · intro i hi ih
      have e0 : ¬ 48 ≤ i := by omega
      rw [k138_2]
      simp (disch := omega) only [k138_3, k138_5, k138_8, k138_9, k138_12, k138_13, k138_14, k138_15, k138_16, k138_19, k138_20, k138_21, k138_22, k138_25, Option.toList_some, Option.toList_none, List.cons_append, List.nil_append, nl_i, nl_r, nl_l, nl_n, nI_leI, e0, ↓reduceIte, nI_clamp, bnd, true_and, and_true, ly_55, ly_56, Nat.reduceLT, va_up_s, up_ne, up_comm, up_same, nI_add, fil_s]
      exact ih
  rw [fil_0, fil_0, up_id, up_id] at key
  exact key
end BNDR
