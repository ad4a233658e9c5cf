/-! WHAT THE REFERENCE WORKS OUT, by the class's numbers: all of a bundle by one factor K -/
theorem wo_K {c : Nat → Int32} {s b : Nat} (hs : s < 12) (hsb : slb (hnd c) s = b) {K ov : Int} {lev : Nat → Int} (hS : Solved (hnd c) b (fun m => fdZ c m 12) K ov lev) : wrC c s = K * woZ c ov lev s := by
  obtain ⟨-, -, h3, h4, -, -⟩ := hS
  have hwh : whC c = K * ov := h3
  have e : ∀ m, m < 4 → (mvN (c (4 * s + m)) : Int) * whC c + (if (hnd c s).testBit m = false then 0 else hrC c m) = K * (if c (4 * s + m) = -1 then 0 else (mvN (c (4 * s + m)) : Int) * ov + lev m) := by
    intro m hm
    by_cases q : c (4 * s + m) = -1
    · have hb1 : (hnd c s).testBit m = false := by rw [hnd_bit c s hm]; exact decide_eq_false (fun w => w q)
      rw [if_pos hb1, if_pos q, q, mvN_m1]
      simp
    · have hb1 : (hnd c s).testBit m = true := by rw [hnd_bit c s hm]; exact decide_eq_true q
      have hl : lb (hnd c) m = b := by rw [← slb_of hs hm hb1]; exact hsb
      have h5 : hrC c m = K * lev m := h4 m hm hl
      rw [if_neg (by rw [hb1]; simp), if_neg q, h5, hwh, Int.mul_add]
      congr 1
      ac_rfl
  have e0 := e 0 (by decide)
  have e1 := e 1 (by decide)
  have e2 := e 2 (by decide)
  have e3 := e 3 (by decide)
  unfold wrC woZ
  rw [smC_up, smC_up, smC_up, smC_up]
  show (shr (hnd c s) : Int) * ((smN c s : Int) * whC c + _ + _ + _ + _) = K * ((0 + _ + _ + _ + _) * (shr (hnd c s) : Int))
  have esm : (smN c s : Int) * whC c = (mvN (c (4 * s + 0)) : Int) * whC c + (mvN (c (4 * s + 1)) : Int) * whC c + (mvN (c (4 * s + 2)) : Int) * whC c + (mvN (c (4 * s + 3)) : Int) * whC c := by
    unfold smN
    rw [Int.natCast_add, Int.natCast_add, Int.natCast_add, Int.add_mul, Int.add_mul, Int.add_mul]
  rw [esm]
  generalize (if (hnd c s).testBit 0 = false then 0 else hrC c 0) = a0 at *
  generalize (if (hnd c s).testBit 1 = false then 0 else hrC c 1) = a1 at *
  generalize (if (hnd c s).testBit 2 = false then 0 else hrC c 2) = a2 at *
  generalize (if (hnd c s).testBit 3 = false then 0 else hrC c 3) = a3 at *
  generalize (if c (4 * s + 0) = -1 then 0 else (mvN (c (4 * s + 0)) : Int) * ov + lev 0) = w0 at *
  generalize (if c (4 * s + 1) = -1 then 0 else (mvN (c (4 * s + 1)) : Int) * ov + lev 1) = w1 at *
  generalize (if c (4 * s + 2) = -1 then 0 else (mvN (c (4 * s + 2)) : Int) * ov + lev 2) = w2 at *
  generalize (if c (4 * s + 3) = -1 then 0 else (mvN (c (4 * s + 3)) : Int) * ov + lev 3) = w3 at *
  generalize (mvN (c (4 * s + 0)) : Int) * whC c = v0 at *
  generalize (mvN (c (4 * s + 1)) : Int) * whC c = v1 at *
  generalize (mvN (c (4 * s + 2)) : Int) * whC c = v2 at *
  generalize (mvN (c (4 * s + 3)) : Int) * whC c = v3 at *
  have e9 : v0 + v1 + v2 + v3 + a0 + a1 + a2 + a3 = K * (0 + w0 + w1 + w2 + w3) := by
    rw [Int.mul_add, Int.mul_add, Int.mul_add, Int.mul_add]
    omega
  rw [e9]
  ac_rfl
def WkOK (c : Nat → Int32) (b : Nat) (K ov : Int) (hz wz : Nat → Int) (J' : ab_J) : Prop := 0 < K ∧ 0 < ov ∧ whC c = K * ov ∧ J' 49 17 = zL (12 * ov) ∧ (∀ m, m < 4 → J' 62 m = zL (hz m)) ∧ (∀ m, m < 4 → lb (hnd c) m = b → 12 * hrC c m = K * hz m) ∧ ∀ s, s < 12 → slb (hnd c) s = b → J' 63 s = zL (wz s) ∧ wrC c s = K * wz s
/-- a fit in the reference -/
def fzR (c : Nat → Int32) (ov : Int) (hz wz : Nat → Int) (k : Nat) : Int := (mvN (c k) : Int) * (12 * ov) - wz (k / 4) + hz (k % 4)
theorem fz_K {c : Nat → Int32} {b k : Nat} {K ov : Int} {hz wz : Nat → Int} {J' : ab_J} (h : WkOK c b K ov hz wz J') (hk : k < 48) (hck : c k ≠ -1) (hb : slb (hnd c) (k / 4) = b) : ftC c k = K * fzR c ov hz wz k := by
  obtain ⟨-, -, h3, -, -, h6, h7⟩ := h
  have hb1 : (hnd c (k / 4)).testBit (k % 4) = true := by rw [hnd_b1]; exact decide_eq_true hck
  have hl : lb (hnd c) (k % 4) = b := by rw [← slb_of (by omega) (by omega) hb1]; exact hb
  have e6 := h6 (k % 4) (by omega) hl
  have e7 := (h7 (k / 4) (by omega) hb).2
  unfold ftC fzR
  rw [e7, h3, Int.mul_add 12, e6, Int.mul_add, Int.mul_sub]
  have : 12 * ((mvN (c k) : Int) * (K * ov)) = K * ((mvN (c k) : Int) * (12 * ov)) := by
    rw [← Int.mul_assoc, ← Int.mul_assoc, ← Int.mul_assoc, ← Int.mul_assoc, Int.mul_comm 12, Int.mul_right_comm _ 12 K, Int.mul_comm (mvN (c k) : Int) K]
  omega
theorem wk_pos {c : Nat → Int32} {b : Nat} {K ov : Int} {hz wz : Nat → Int} {J' : ab_J} (h : WkOK c b K ov hz wz J') : 0 < 12 * ov ∧ ok (12 * ov) ∧ bd (12 * ov) 15116544 := by
  have h2 := h.2.1
  have b1 := bd_K (wh_bd c) h.2.2.1 h.1
  have b2 : bd (12 * ov) (12 * 1259712) := bd_mul (A := 12) (by unfold bd; omega) b1
  exact ⟨by omega, bd_ok b2 (by decide), b2⟩
theorem K_low {K ov a x : Int} {wh : Int} {w : Int32} (hK : 0 < K) (hov : 0 < ov) (hwh : wh = K * ov) (hx : a = K * x) : low x (12 * ov) w = low a (12 * wh) w := by
  rw [hx, hwh, show 12 * (K * ov) = K * (12 * ov) by rw [Int.mul_left_comm]]
  exact (low_mul hK (by omega)).symm
theorem K_low2 {K ov a x : Int} {wh : Int} {w : Int32} (hK : 0 < K) (hov : 0 < ov) (hwh : wh = K * ov) (hx : 12 * a = K * x) : low x (12 * ov) w = low a wh w := by
  have hw : 0 < wh := by rw [hwh]; exact Int.mul_pos hK hov
  rw [K_low hK hov hwh hx]
  exact low_mul (by decide) hw
section WK
variable {I : ab_I} {J : ab_J} {Q : Option Value → ab_I → ab_J → Prop} {σ : PS} {x x1 x2 : Int32}
theorem wk146 {c o : Nat → Int32} {b : Nat} (hL : Laid c o I) (hM : MK c) (hb : b < 4) (hbb : lb (hnd c) b = b) : ∃ (a' : Nat → Int32) (J' : ab_J) (K ov : Int) (hz wz : Nat → Int), (WkOK c b K ov hz wz J' ∧ ∀ k, k < 49 → J' k = J k) ∧ ∀ Q : Option Value → ab_I → ab_J → Prop, Cal 146 [.ref 49, .int (nI b)] I J Q ↔ Q none (va_up I 58 a') J' := by
  obtain ⟨a', J', K, ov, lev, hS, ⟨j1, j2, j3, j4, j5⟩, hcal⟩ := c146 (J := J) hL.1 hM hb hL.2.2 hbb
  refine ⟨a', J', K, ov, fun m => 12 * lev m, woZ c ov lev, ⟨⟨hS.1, hS.2.1, hS.2.2.1, j3, j4, fun m hm hl => ?_, fun s hs hl => ⟨j5 s hs hl, wo_K hs hl hS⟩⟩, j1⟩, hcal⟩
  have : hrC c m = K * lev m := hS.2.2.2.1 m hm hl
  rw [this, Int.mul_left_comm]
theorem RL_58 {a' : Nat → Int32} {J' : ab_J} (h : RLd σ I) (hj : ∀ k, k < 49 → J' k = J k) : RLd σ (va_up I 58 a') ∧ QF I J (va_up I 58 a') J' := by
  have f : QF I J (va_up I 58 a') J' := ⟨fun k hk => up_ne _ _ (by omega), fun j _ => by rw [up_ne _ _ (by omega)], hj⟩
  refine ⟨⟨RRb_qf h.1 f, ?_, ?_, fun k hk => ?_⟩, f⟩
  · rw [up_ne _ _ (by omega)]; exact h.2.1
  · rw [up_ne _ _ (by omega)]; exact h.2.2.1
  · rw [up_ne _ _ (by omega)]; exact h.2.2.2 k hk
theorem lb_fix {h : Nat → Nat} {m : Nat} (hm : m < 4) (q : lb h m ≠ 4) : lb h m < 4 ∧ lb h (lb h m) = lb h m := by
  have := lb_le4 h m
  exact ⟨by omega, lb_lb hm (by omega)⟩
theorem slb_fix {c : Nat → Int32} {s : Nat} (hs : s < 12) (q : slb (hnd c) s ≠ 4) : slb (hnd c) s < 4 ∧ lb (hnd c) (slb (hnd c) s) = slb (hnd c) s := by
  have h4 := slb_le4 (hnd c) s
  have z : ∀ x, x < 16 → (lbn x = 4 ↔ x = 0) := by decide +kernel
  have h5 : lbn (hnd c s) ≠ 4 := fun w => q ((slb_4 hs (hnd_lt c s)).mpr ((z _ (hnd_lt c s)).mp w))
  have h6 := lbn_le (hnd c s)
  have e := slb_of hs (show lbn (hnd c s) < 4 by omega) (lbn_bit h5)
  rw [e]
  exact lb_fix (by omega) (by rw [← e]; exact q)
/-- a refusal as a long -/
def nO (x : Int32) : Int64 := -9223372036854775808 - x.toInt64
def tN (x : Int32) : Nat := x.toInt.toNat
theorem tN_nI {n : Nat} (h : n < 2 ^ 31) : tN (nI n) = n := by unfold tN; rw [nI_toInt h]; omega
def aHardT (c : Nat → Int32) (m : Nat) (w : Int32) : Int64 := if lb (hnd c) m = 4 then nO (-3) else zL (low (hrC c m) (whC c) w)
def aWorthT (c : Nat → Int32) (s : Nat) (w : Int32) : Int64 := if slb (hnd c) s = 4 then nO (-3) else zL (low (wrC c s) (12 * whC c) w)
theorem LB_m {h : Nat → Nat} {m : Nat} : LB h (12 + m) = lb h m := by unfold LB; rw [if_neg (by omega), show 12 + m - 12 = m by omega]
theorem LB_s {h : Nat → Nat} {s : Nat} (hs : s < 12) : LB h s = slb h s := by unfold LB; rw [if_pos hs]
set_option maxRecDepth 100000 in
theorem r149 {m : Nat} (h : RLd σ I) (hm : m < 4) : ∃ I' J', (RLd σ I' ∧ QF I J I' J') ∧ ∀ Q : Option Value → ab_I → ab_J → Prop, Cal 149 [.ref 49, .int (nI m), .int x1] I J Q ↔ Q (some (.long (aHardT (cc σ.1) m x1))) I' J' := by
  have hL := h.2
  have h57 := hL.2.2 (12 + m) (by omega)
  rw [LB_m] at h57
  have h4 := lb_le4 (hnd (cc σ.1)) m
  by_cases q : lb (hnd (cc σ.1)) m = 4
  · refine ⟨I, J, ⟨h, QF_refl⟩, fun Q => ?_⟩
    rw [en149]
    simp (disch := omega) only [k149_0, k149_1, k149_4, k149_6, k149_7, k149_8, k149_9, k149_10, k149_11, k149_12, k149_15, k149_17, k149_20, k149_21, k149_22, k149_23, k149_26, k149_27, k149_30, k149_31, k149_32, k149_33, k149_36, k149_37, k149_40, Option.toList_some, Option.toList_none, List.cons_append, List.nil_append, nl_i, nl_r, nl_l, nl_n, nI_add, nI_clamp, bnd, ly_57, Nat.reduceLT, true_and, and_true, h57, q, enc_4, not_true_eq_false, ↓reduceIte, c127]
    rw [show aHardT (cc σ.1) m x1 = nO (-3) from if_pos q]
    rfl
  · obtain ⟨f1, f2⟩ := lb_fix hm q
    obtain ⟨a', J', K, ov, hz, wz, ⟨hW, hj⟩, hcal⟩ := wk146 (J := J) hL (cc_MK h.1.1) f1 f2
    obtain ⟨p1, p2, p3⟩ := wk_pos hW
    have e6 := hW.2.2.2.2.2.1 m hm rfl
    have e5 := hW.2.2.2.2.1 m hm
    have e4 := hW.2.2.2.1
    have o1 : ok (hz m) := bd_ok (bd_K (bd_mul (A := 12) (by unfold bd; omega) (hr_bd (cc_MK h.1.1) hm)) e6 hW.1) (by decide)
    refine ⟨_, J', RL_58 (a' := a') h hj, fun Q => ?_⟩
    rw [en149]
    have em : ¬ nI (lb (hnd (cc σ.1)) m) = -1 := nI_m1 (by omega)
    simp (disch := omega) only [k149_0, k149_1, k149_4, k149_6, k149_7, k149_8, k149_9, k149_10, k149_11, k149_12, k149_15, k149_17, k149_20, k149_21, k149_22, k149_23, k149_26, k149_27, k149_30, k149_31, k149_32, k149_33, k149_36, k149_37, k149_40, Option.toList_some, Option.toList_none, List.cons_append, List.nil_append, nl_i, nl_r, nl_l, nl_n, nI_add, nI_clamp, bnd, ly_57, ly_62, Nat.reduceLT, true_and, and_true, h57, enc_lt f1, em, not_false_eq_true, ↓reduceIte, hcal, e4, e5, c130 o1 p2 p1]
    rw [show aHardT (cc σ.1) m x1 = _ from if_neg q, K_low2 hW.1 hW.2.1 hW.2.2.1 e6]
set_option maxRecDepth 100000 in
theorem r151 {s : Nat} (h : RLd σ I) (hs : s < 12) : ∃ I' J', (RLd σ I' ∧ QF I J I' J') ∧ ∀ Q : Option Value → ab_I → ab_J → Prop, Cal 151 [.ref 49, .int (nI s), .int x1] I J Q ↔ Q (some (.long (aWorthT (cc σ.1) s x1))) I' J' := by
  have hL := h.2
  have h57 := hL.2.2 s (by omega)
  rw [LB_s hs] at h57
  by_cases q : slb (hnd (cc σ.1)) s = 4
  · refine ⟨I, J, ⟨h, QF_refl⟩, fun Q => ?_⟩
    rw [en151]
    simp (disch := omega) only [k151_0, k151_1, k151_4, k151_5, k151_6, k151_7, k151_8, k151_9, k151_12, k151_14, k151_17, k151_18, k151_19, k151_20, k151_23, k151_24, k151_27, k151_28, k151_29, k151_30, k151_33, k151_34, k151_37, Option.toList_some, Option.toList_none, List.cons_append, List.nil_append, nl_i, nl_r, nl_l, nl_n, nI_add, nI_clamp, bnd, ly_57, Nat.reduceLT, true_and, and_true, h57, q, enc_4, not_true_eq_false, ↓reduceIte, c127]
    rw [show aWorthT (cc σ.1) s x1 = nO (-3) from if_pos q]
    rfl
  · obtain ⟨f1, f2⟩ := slb_fix hs q
    obtain ⟨a', J', K, ov, hz, wz, ⟨hW, hj⟩, hcal⟩ := wk146 (J := J) hL (cc_MK h.1.1) f1 f2
    obtain ⟨p1, p2, p3⟩ := wk_pos hW
    obtain ⟨e5, e6⟩ := hW.2.2.2.2.2.2 s hs rfl
    have e4 := hW.2.2.2.1
    have o1 : ok (wz s) := bd_ok (bd_K (wr_bd (cc_MK h.1.1) hs) e6 hW.1) (by decide)
    refine ⟨_, J', RL_58 (a' := a') h hj, fun Q => ?_⟩
    rw [en151]
    have em : ¬ nI (slb (hnd (cc σ.1)) s) = -1 := nI_m1 (by omega)
    simp (disch := omega) only [k151_0, k151_1, k151_4, k151_5, k151_6, k151_7, k151_8, k151_9, k151_12, k151_14, k151_17, k151_18, k151_19, k151_20, k151_23, k151_24, k151_27, k151_28, k151_29, k151_30, k151_33, k151_34, k151_37, Option.toList_some, Option.toList_none, List.cons_append, List.nil_append, nl_i, nl_r, nl_l, nl_n, nI_add, nI_clamp, bnd, ly_57, ly_63, Nat.reduceLT, true_and, and_true, h57, enc_lt f1, em, not_false_eq_true, ↓reduceIte, hcal, e4, e5, c130 o1 p2 p1]
    rw [show aWorthT (cc σ.1) s x1 = _ from if_neg q, K_low hW.1 hW.2.1 hW.2.2.1 e6]
end WK
