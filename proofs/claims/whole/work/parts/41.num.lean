/-! TOOLS for contracts; longs as whole numbers; lowest terms -/
section TOOLS
variable {y : Nat} {as : List Value} {I I' : ab_I} {J J' : ab_J} {Q : Option Value → ab_I → ab_J → Prop} {v : Option Value}
theorem Cal_of (h : ∀ Q : Option Value → ab_I → ab_J → Prop, Q v I' J' → Cal y as I J Q) : Cal y as I J Q ↔ Q v I' J' := Cal_iff (h _ ⟨rfl, rfl, rfl⟩)
theorem Cal_ex {P : Option Value → ab_I → ab_J → Prop} (h : ∀ Q : Option Value → ab_I → ab_J → Prop, (∀ v I' J', P v I' J' → Q v I' J') → Cal y as I J Q) : ∃ v I' J', P v I' J' ∧ ∀ Q : Option Value → ab_I → ab_J → Prop, Cal y as I J Q ↔ Q v I' J' := by
  obtain ⟨n, v1, I1, J1, h1, hP⟩ := h P (fun v I' J' q => q)
  exact ⟨v1, I1, J1, hP, fun Q => Cal_iff ⟨n, v1, I1, J1, h1, rfl, rfl, rfl⟩⟩
end TOOLS
theorem loop_st {α : Type} {P G : Nat → α → Prop} {N : Nat} (hN : ∀ s, G N s → P N s) (hs : ∀ i s, i < N → G i s → (∀ s', G (i + 1) s' → P (i + 1) s') → P i s) : ∀ s, G 0 s → P 0 s := by
  have key : ∀ d, d ≤ N → ∀ s, G (N - d) s → P (N - d) s := by
    intro d
    induction d with
    | zero => intro _; exact hN
    | succ d ih =>
      intro hd s hg
      refine hs _ s (by omega) hg ?_
      rw [show N - (d + 1) + 1 = N - d by omega]
      exact ih (by omega)
  have := key N (Nat.le_refl N)
  rwa [Nat.sub_self] at this
def zL (a : Int) : Int64 := Int64.ofInt a
theorem zL_add (a b : Int) : zL a + zL b = zL (a + b) := (Int64.ofInt_add a b).symm
theorem zL_sub (a b : Int) : zL a - zL b = zL (a - b) := (Int64.ofInt_sub a b).symm
theorem zL_mul (a b : Int) : zL a * zL b = zL (a * b) := (Int64.ofInt_mul a b).symm
theorem zL_neg (a : Int) : - zL a = zL (-a) := (Int64.ofInt_neg a).symm
theorem zL_0 : (0 : Int64) = zL 0 := by decide
theorem zL_1 : (1 : Int64) = zL 1 := by decide
theorem zL_12 : (12 : Int64) = zL 12 := by decide
theorem lN_zL (n : Nat) : lN n = zL n := Int64.ofInt_eq_ofNat.symm
theorem i2l_zL (x : Int32) : x.toInt64 = zL x.toInt := (Int64.ofInt_int32ToInt x).symm
/-- far from the ends of a long -/
def ok (a : Int) : Prop := -4611686018427387904 < a ∧ a < 4611686018427387904
theorem zL_toInt {a : Int} (h : ok a) : (zL a).toInt = a := Int64.toInt_ofInt_of_le (by unfold ok at h; omega) (by unfold ok at h; omega)
theorem zL_le {a b : Int} (ha : ok a) (hb : ok b) : (zL a ≤ zL b) = (a ≤ b) := by rw [Int64.le_iff_toInt_le, zL_toInt ha, zL_toInt hb]
theorem zL_lt {a b : Int} (ha : ok a) (hb : ok b) : (zL a < zL b) = (a < b) := by rw [Int64.lt_iff_toInt_lt, zL_toInt ha, zL_toInt hb]
theorem zL_eq {a b : Int} (ha : ok a) (hb : ok b) : (zL a = zL b) = (a = b) := by
  refine propext ⟨fun h => ?_, fun h => by rw [h]⟩
  have := congrArg Int64.toInt h
  rwa [zL_toInt ha, zL_toInt hb] at this
theorem ok_0 : ok 0 := by unfold ok; omega
theorem zL_div {a b : Int} (ha : ok a) (hb : ok b) : zL a / zL b = zL (a.tdiv b) := by
  rw [← Int64.ofInt_toInt (zL a / zL b), Int64.toInt_div_of_ne_left, zL_toInt ha, zL_toInt hb]
  · rfl
  · intro h
    have := congrArg Int64.toInt h
    rw [zL_toInt ha] at this
    unfold ok at ha
    have e : Int64.minValue.toInt = -9223372036854775808 := by decide
    omega
theorem zL_rem {a b : Int} (ha : ok a) (hb : ok b) : zL a - zL a / zL b * zL b = zL (a.tmod b) := by
  rw [zL_div ha hb, zL_mul, zL_sub, Int.tmod_def, Int.mul_comm]
theorem abL_z {a : Int} (ha : ok a) : abL (zL a) = zL a.natAbs := by
  unfold abL
  have e : (0 < zL a) = (0 < a) := by rw [zL_0]; exact zL_lt ok_0 ha
  by_cases h : 0 < a
  · rw [if_pos (e.mpr h)]; congr 1; omega
  · rw [if_neg (fun q => h (e.mp q)), zL_neg]; congr 1; omega
/-- Euclid's way with n steps -/
def eu : Nat → Nat → Nat → Nat
  | 0, a, _ => a
  | n + 1, a, b => if b = 0 then a else eu n b (a % b)
theorem eu_0 : ∀ n a, eu n a 0 = a
  | 0, _ => rfl
  | n + 1, a => by unfold eu; rw [if_pos rfl]
theorem eu_gcd : ∀ (k n a b : Nat), b < 2 ^ k → 2 * k < n → eu n a b = Nat.gcd a b
  | 0, n, a, b, hb, hn => by
    have : b = 0 := by omega
    rw [this, eu_0, Nat.gcd_zero_right]
  | k + 1, n, a, b, hb, hn => by
    obtain ⟨m, rfl⟩ : ∃ m, n = m + 2 := ⟨n - 2, by omega⟩
    rw [eu]
    split
    · rename_i h0; rw [h0, Nat.gcd_zero_right]
    · rename_i h0
      rw [eu]
      split
      · rename_i h1
        rw [Nat.gcd_comm, Nat.gcd_rec, h1, Nat.gcd_zero_left]
      · rename_i h1
        have hr : a % b < b := Nat.mod_lt _ (by omega)
        have h2 : 2 * (b % (a % b)) < b := by
          have hlt : b % (a % b) < a % b := Nat.mod_lt _ (by omega)
          by_cases hc : 2 * (a % b) ≤ b
          · omega
          · have : b % (a % b) = b - a % b := by
              rw [Nat.mod_eq_sub_mod (by omega), Nat.mod_eq_of_lt (by omega)]
            omega
        rw [eu_gcd k m _ _ (by rw [Nat.pow_succ] at hb; omega) (by omega)]
        rw [Nat.gcd_comm, ← Nat.gcd_rec (a % b) b, ← Nat.gcd_rec, Nat.gcd_comm]
theorem okN {n : Nat} (h : n < 4611686018427387904) : ok (n : Int) := by unfold ok; omega
theorem cdF_eu : ∀ (n a b : Nat), a < 4611686018427387904 → b < 4611686018427387904 → cdF n (zL a) (zL b) = zL (eu n a b)
  | 0, _, _, _, _ => rfl
  | n + 1, a, b, ha, hb => by
    have e : (zL (b : Int) = 0) = (b = 0) := by
      rw [zL_0, zL_eq (okN hb) ok_0]
      exact propext ⟨fun h => by omega, fun h => by omega⟩
    unfold cdF eu
    by_cases h0 : b = 0
    · rw [if_pos (e.mpr h0), if_pos h0]
    · rw [if_neg (fun q => h0 (e.mp q)), if_neg h0, zL_rem (okN ha) (okN hb), ← Int.ofNat_tmod]
      exact cdF_eu n b (a % b) hb (Nat.lt_trans (Nat.mod_lt _ (by omega)) hb)
theorem eu_big {a b : Nat} (hb : b < 562949953421312) : eu 100 a b = Nat.gcd a b := eu_gcd 49 100 a b hb (by decide)
/-- lowest terms: above (w = 0), below -/
def low (a b : Int) (w : Int32) : Int := if w = 0 then a.tdiv (Int.gcd a b) else b.tdiv (Int.gcd a b)
theorem sdF_low {a b : Int} {w : Int32} (ha : ok a) (h0 : 0 < b) (hb : b < 562949953421312) : sdF (zL a) (zL b) w = zL (low a b w) := by
  obtain ⟨n, rfl⟩ := Int.eq_ofNat_of_zero_le (Int.le_of_lt h0)
  have hn : n < 562949953421312 := by omega
  have ha' : a.natAbs < 4611686018427387904 := by unfold ok at ha; omega
  have hg : cdF 100 (abL (zL a)) (zL (n : Int)) = zL ((Int.gcd a n : Nat) : Int) := by
    rw [abL_z ha, cdF_eu 100 a.natAbs n ha' (by omega), eu_big hn]
    rfl
  have hgle : Int.gcd a n ≤ n := Nat.le_of_dvd (by omega) (Nat.gcd_dvd_right _ _)
  have hgp : 0 < Int.gcd a n := Nat.gcd_pos_of_pos_right _ (by show 0 < (n : Int).natAbs; omega)
  unfold sdF low
  have e : (0 < zL ((Int.gcd a n : Nat) : Int)) := by rw [zL_0, zL_lt ok_0 (okN (by omega))]; omega
  rw [hg, if_pos e]
  by_cases hw : w = 0
  · rw [if_neg (fun q => q hw), if_pos hw, zL_div ha (okN (by omega))]
  · rw [if_pos hw, if_neg hw, zL_div (okN (by omega)) (okN (by omega))]
theorem low_mul {K a b : Int} {w : Int32} (hK : 0 < K) (hb : 0 < b) : low (K * a) (K * b) w = low a b w := by
  have hgp : 0 < Int.gcd a b := Int.gcd_pos_of_ne_zero_right a (by omega)
  unfold low
  rw [Int.gcd_mul_left, Int.natCast_mul, Int.natAbs_of_nonneg (Int.le_of_lt hK), Int.mul_tdiv_mul_of_pos _ _ hK, Int.mul_tdiv_mul_of_pos _ _ hK]
/-- what lowest terms are -/
theorem low_spec {a b : Int} (hb : 0 < b) : ∃ (g : Nat) (p q : Int), 0 < g ∧ 0 < q ∧ a = g * p ∧ b = g * q ∧ Nat.gcd p.natAbs q.natAbs = 1 ∧ ∀ w, low a b w = if w = 0 then p else q := by
  have hgp : 0 < Int.gcd a b := Int.gcd_pos_of_ne_zero_right a (by omega)
  obtain ⟨p, hp⟩ := Int.gcd_dvd_left a b
  obtain ⟨q, hq⟩ := Int.gcd_dvd_right a b
  have hne : ((Int.gcd a b : Nat) : Int) ≠ 0 := by omega
  refine ⟨Int.gcd a b, p, q, hgp, ?_, hp, hq, ?_, ?_⟩
  · rw [hq] at hb
    exact Int.pos_of_mul_pos_right hb (by omega)
  · have e : Int.gcd a b = Int.gcd a b * Nat.gcd p.natAbs q.natAbs := by
      have := Int.gcd_mul_left (Int.gcd a b) p q
      rw [← hp, ← hq] at this
      exact this
    exact Nat.eq_of_mul_eq_mul_left hgp (by rw [Nat.mul_one]; exact e.symm)
  · intro w
    unfold low
    have e1 : a.tdiv (Int.gcd a b) = p := by
      have := Int.mul_tdiv_cancel_left p hne
      rw [← hp] at this
      exact this
    have e2 : b.tdiv (Int.gcd a b) = q := by
      have := Int.mul_tdiv_cancel_left q hne
      rw [← hq] at this
      exact this
    rw [e1, e2]
theorem low_eq {a b a' b' : Int} {w : Int32} (hb : 0 < b) (hb' : 0 < b') (h : a * b' = a' * b) : low a b w = low a' b' w := by
  obtain ⟨g, p, q, hg, hq, ha1, hb1, hc, hl⟩ := low_spec (a := a) hb
  obtain ⟨g', p', q', hg', hq', ha1', hb1', hc', hl'⟩ := low_spec (a := a') hb'
  have hx : p * q' = p' * q := by
    rw [ha1, hb1, ha1', hb1'] at h
    have h2 : ((g : Int) * g') * (p * q') = ((g : Int) * g') * (p' * q) := by
      have e1 : (g : Int) * p * (g' * q') = ((g : Int) * g') * (p * q') := by ac_rfl
      have e2 : (g' : Int) * p' * (g * q) = ((g : Int) * g') * (p' * q) := by ac_rfl
      rw [← e1, ← e2]; exact h
    exact Int.eq_of_mul_eq_mul_left (Int.ne_of_gt (Int.mul_pos (by omega) (by omega))) h2
  have hn : p.natAbs * q'.natAbs = p'.natAbs * q.natAbs := by rw [← Int.natAbs_mul, ← Int.natAbs_mul, hx]
  have d1 : q.natAbs ∣ q'.natAbs := Nat.Coprime.dvd_of_dvd_mul_left (m := p.natAbs) (by show Nat.gcd _ _ = 1; rw [Nat.gcd_comm]; exact hc) ⟨p'.natAbs, by rw [hn, Nat.mul_comm]⟩
  have d2 : q'.natAbs ∣ q.natAbs := Nat.Coprime.dvd_of_dvd_mul_left (m := p'.natAbs) (by show Nat.gcd _ _ = 1; rw [Nat.gcd_comm]; exact hc') ⟨p.natAbs, by rw [← hn, Nat.mul_comm]⟩
  have e1 := Nat.dvd_antisymm d1 d2
  have e2 : q = q' := by omega
  subst e2
  have e3 : p = p' := Int.eq_of_mul_eq_mul_right (by omega) hx
  rw [hl, hl', e3]
theorem low_b {a b : Int} (hb : 0 < b) : 0 < low a b 1 ∧ low a b 1 ≤ b ∧ a * low a b 1 = low a b 0 * b ∧ (low a b 0).natAbs ≤ a.natAbs := by
  obtain ⟨g, p, q, hg, hq, ha1, hb1, hc, hl⟩ := low_spec (a := a) hb
  rw [hl, hl, if_neg (by decide), if_pos rfl]
  refine ⟨hq, ?_, ?_, ?_⟩
  · rw [hb1]
    have : 1 * q ≤ (g : Int) * q := Int.mul_le_mul_of_nonneg_right (by omega) (by omega)
    omega
  · rw [ha1, hb1]; ac_rfl
  · rw [ha1, Int.natAbs_mul]
    exact Nat.le_mul_of_pos_left _ (by omega)
section REFN
variable {I : ab_I} {J : ab_J} {Q : Option Value → ab_I → ab_J → Prop} {x x1 x2 : Int32} {u : Int64}
theorem am_abL {u : Int64} : (if u < 0 then -u else u) = abL u := by
  unfold abL
  have e1 : (u < 0) ↔ (u.toInt < 0) := by rw [Int64.lt_iff_toInt_lt]; exact Iff.rfl
  have e2 : (0 < u) ↔ (0 < u.toInt) := by rw [Int64.lt_iff_toInt_lt]; exact Iff.rfl
  by_cases h : u < 0
  · rw [if_pos h, if_neg (by rw [e1] at h; rw [e2]; omega)]
  · by_cases h2 : 0 < u
    · rw [if_neg h, if_pos h2]
    · rw [if_neg h, if_neg h2]
      have : u.toInt = (0 : Int64).toInt := by rw [e1] at h; rw [e2] at h2; show u.toInt = 0; omega
      rw [Int64.toInt_inj.mp this]
      rfl
set_option maxRecDepth 100000 in
theorem c129 {a b : Int} (ha : ok a) (hb : ok b) : Cal 129 [.long (zL a), .long (zL b)] I J Q ↔ Q (some (.long (zL (Int.gcd a b)))) I J := by
  refine Cal_of (fun Q hQ => ?_)
  rw [en129]
  simp only [k129_0, k129_1, k129_4, k129_6, k129_7, k129_10, Option.toList_some, Option.toList_none, List.cons_append, List.nil_append, nl_i, nl_r, nl_l, nl_n, c128, am_abL, abL_z ha, abL_z hb]
  have key : ∀ (n x y : Nat) (a8 a9 : Option Value), y < n → x < 4611686018427387904 → y < 4611686018427387904 → Nat.gcd x y = Int.gcd a b → At 129 12 [some (.long (zL a)), none, some (.long (zL b)), none, some (.long (zL x)), none, some (.long (zL y)), none, a8, a9] [] I J Q := by
    intro n
    induction n with
    | zero => intro x y a8 a9 h; omega
    | succ n ih =>
      intro x y a8 a9 h hx hy hg
      have e : (zL (y : Int) = 0) = (y = 0) := by
        rw [zL_0, zL_eq (okN hy) ok_0]
        exact propext ⟨fun h => by omega, fun h => by omega⟩
      rw [k129_12]
      by_cases h0 : y = 0
      · subst h0
        rw [Nat.gcd_zero_right] at hg
        rw [← hg] at hQ
        simp (disch := omega) only [k129_0, k129_1, k129_4, k129_6, k129_7, k129_10, k129_14, k129_15, k129_16, k129_19, k129_21, k129_23, k129_24, k129_26, k129_28, k129_30, k129_32, k129_34, k129_37, k129_39, Option.toList_some, Option.toList_none, List.cons_append, List.nil_append, nl_i, nl_r, nl_l, nl_n, lg_cmp_eq, e, ↓reduceIte]
        exact hQ
      · simp (disch := omega) only [k129_0, k129_1, k129_4, k129_6, k129_7, k129_10, k129_14, k129_15, k129_16, k129_19, k129_21, k129_23, k129_24, k129_26, k129_28, k129_30, k129_32, k129_34, k129_37, k129_39, Option.toList_some, Option.toList_none, List.cons_append, List.nil_append, nl_i, nl_r, nl_l, nl_n, lg_cmp_eq, e, h0, ↓reduceIte, not_false_eq_true, true_and, zL_rem (okN hx) (okN hy), ← Int.ofNat_tmod]
        refine ih y (x % y) _ _ ?_ hy ?_ ?_
        · have := Nat.mod_lt x (show 0 < y by omega); omega
        · have := Nat.mod_lt x (show 0 < y by omega); omega
        · rw [← hg, Nat.gcd_comm x y, Nat.gcd_rec y x, Nat.gcd_comm]
  refine key (b.natAbs + 1) a.natAbs b.natAbs none none (by omega) ?_ ?_ rfl
  · unfold ok at ha; omega
  · unfold ok at hb; omega
theorem c130 {a b : Int} (ha : ok a) (hb : ok b) (h0 : 0 < b) : Cal 130 [.long (zL a), .long (zL b), .int x] I J Q ↔ Q (some (.long (zL (low a b x)))) I J := by
  have hgp : 0 < Int.gcd a b := Int.gcd_pos_of_ne_zero_right a (by omega)
  have hgle : Int.gcd a b ≤ b.natAbs := Nat.le_of_dvd (by omega) (Nat.gcd_dvd_right _ _)
  have hgo : ok ((Int.gcd a b : Nat) : Int) := okN (by unfold ok at hb; omega)
  have e : ¬ zL ((Int.gcd a b : Nat) : Int) = 0 := by rw [zL_0, zL_eq hgo ok_0]; omega
  rw [en130]
  unfold low
  by_cases hx : x = 0
  · rw [if_pos hx]
    simp (disch := omega) only [k130_0, k130_1, k130_2, k130_5, k130_7, k130_9, k130_12, k130_13, k130_15, k130_16, k130_19, k130_20, k130_22, k130_23, Option.toList_some, Option.toList_none, List.cons_append, List.nil_append, nl_i, nl_r, nl_l, nl_n, c129 ha hb, hx, not_true_eq_false, ↓reduceIte, e, not_false_eq_true, true_and, zL_div ha hgo]
  · rw [if_neg hx]
    simp (disch := omega) only [k130_0, k130_1, k130_2, k130_5, k130_7, k130_9, k130_12, k130_13, k130_15, k130_16, k130_19, k130_20, k130_22, k130_23, Option.toList_some, Option.toList_none, List.cons_append, List.nil_append, nl_i, nl_r, nl_l, nl_n, c129 ha hb, hx, not_false_eq_true, ↓reduceIte, e, true_and, zL_div hb hgo]
end REFN
