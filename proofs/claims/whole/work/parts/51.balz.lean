/-! THE CLASS'S BALANCE as whole numbers -/
def whC (c : Nat → Int32) : Int := whZ (Mz (hnd c) 12)
def adC (c : Nat → Int32) (k : Nat) : Int := cofZ (Mz (hnd c) 12) (k / 3) (k % 3)
def pC (c : Nat → Int32) (j : Nat) : Int := if fre (hnd c) (j + 1) then fdZ c (j + 1) 12 else 0
def hrC (c : Nat → Int32) (m : Nat) : Int := solZ (Mz (hnd c) 12) (pC c) m
def smC (a : Nat) (H : Nat → Int) (u : Int) : Nat → Int
  | 0 => u
  | m + 1 => smC a H u m + (if a.testBit m = false then 0 else H m)
def wrC (c : Nat → Int32) (s : Nat) : Int := (shr (hnd c s) : Int) * smC (hnd c s) (hrC c) ((smN c s : Int) * whC c) 4
theorem cof_z {R : Nat → Int64} {M : Nat → Int} (hR : ∀ k, k < 9 → R k = zL (M k)) {i j : Nat} (_hi : i < 3) (_hj : j < 3) : cof R i j = zL (cofZ M i j) := by
  unfold cof cofZ
  rw [hR _ (by omega), hR _ (by omega), hR _ (by omega), hR _ (by omega), zL_mul, zL_mul, zL_sub]
theorem whR_z {R : Nat → Int64} {M : Nat → Int} (hR : ∀ k, k < 9 → R k = zL (M k)) : whR R = zL (whZ M) := by
  unfold whR whZ
  rw [cof_z hR (by decide) (by decide), cof_z hR (by decide) (by decide), cof_z hR (by decide) (by decide), hR 0 (by decide), hR 1 (by decide), hR 2 (by decide), zL_mul, zL_mul, zL_mul, zL_add, zL_add]
theorem pl_z {c : Nat → Int32} (hM : MK c) {S : Nat → Int64} (hS : ∀ s, s < 12 → S s = zL (shr (hnd c s) : Nat)) {i : Nat} (hi : i < 3) : ∀ n, n ≤ 12 → pl c (hnd c) (fC c) S i n = zL (if fre (hnd c) (i + 1) then fdZ c (i + 1) n else 0)
  | 0, _ => by show (0 : Int64) = _; rw [zL_0]; unfold fdZ; split <;> rfl
  | n + 1, hn => by
    have ih := pl_z hM hS hi n (by omega)
    have hk : 4 * n + (i + 1) < 48 := by omega
    unfold pl
    rw [ih, inF_e, fC_bit c (by omega), hnd_bit c n (by omega), hS n (by omega), sumL_z hM (by omega)]
    cases hf : fre (hnd c) (i + 1) with
    | false => simp
    | true =>
      by_cases q : c (4 * n + (i + 1)) = -1
      · simp [q, fdZ]
      · have q' : c (4 * n + i + 1) ≠ -1 := q
        have e := (MK_v hM hk).2 q
        have l := (MK_v hM hk).1
        have e2 : (nI 12 * c (4 * n + i + 1)).toInt64 = zL (12 * (mvN (c (4 * n + (i + 1))) : Int)) := by
          rw [show 4 * n + i + 1 = 4 * n + (i + 1) from rfl]
          conv => lhs; rw [e]
          rw [pk_mul, nI_l (by omega), lN_zL]
          congr 1
        rw [e2]
        simp only [fdZ, q, ne_eq, not_false_eq_true, decide_true, Bool.and_self, Bool.true_eq_false, ↓reduceIte, zL_mul, zL_sub, zL_add]
theorem smW_z {a : Nat} {H : Nat → Int64} {Hz : Nat → Int} {u : Int64} {uz : Int} (hu : u = zL uz) (hH : ∀ m, m < 4 → H m = zL (Hz m)) : ∀ m, m ≤ 4 → smW a H u m = zL (smC a Hz uz m)
  | 0, _ => hu
  | m + 1, hm => by
    unfold smW smC
    rw [smW_z hu hH m (by omega)]
    split
    · rw [zL_0, zL_add]
    · rw [hH m (by omega), zL_add]
/-- what is there behind tie: B is the balance's cell -/
def TieOK (B : Nat) (c : Nat → Int32) (I : ab_I) (J : ab_J) : Prop := I (B + 1) = c ∧ (∀ s, s < 12 → I (B + 2) s = nI (hnd c s)) ∧ (∀ s, s < 12 → J (B + 3) s = zL (shr (hnd c s) : Nat)) ∧ (∀ m, m < 4 → I (B + 4) m = nI (wC c m)) ∧ (∀ m, m < 4 → I (B + 5) m = enc (lb (hnd c) m)) ∧ (∀ s, s < 12 → I (B + 6) s = enc (slb (hnd c) s)) ∧ I B 12 = nI (fC c) ∧ (∀ k, k < 9 → J (B + 8) k = zL (adC c k)) ∧ J B 11 = zL (whC c)
/-- .. behind weigh -/
def WeiOK (B : Nat) (c : Nat → Int32) (J : ab_J) : Prop := (∀ m, m < 4 → J (B + 10) m = zL (hrC c m)) ∧ ∀ s, s < 12 → J (B + 11) s = zL (wrC c s)
theorem shC_z {c : Nat → Int32} {g : Nat → Int64} : ∀ s, s < 12 → shC c g s = zL (shr (hnd c s) : Nat) := by
  intro s hs
  unfold shC
  rw [fll_lt hs]
  exact lN_zL _
theorem rwC_z {c : Nat → Int32} {g g2 : Nat → Int64} : ∀ k, k < 9 → rwC c g g2 k = zL (Mz (hnd c) 12 k) := by
  intro k hk
  unfold rwC
  rw [fll_lt hk]
  exact rS_z shC_z 12 (Nat.le_refl _) k hk
theorem tie_ok {B : Nat} {c : Nat → Int32} {I : ab_I} {J : ab_J} (hc : I (B + 1) = c) : TieOK B c (tiI B c I) (tiJ B c J) := by
  refine ⟨?_, fun s hs => ?_, fun s hs => ?_, fun m hm => ?_, fun m hm => ?_, fun s hs => ?_, ?_, fun k hk => ?_, ?_⟩
  · unfold tiI
    simp (disch := omega) only [up_ne]
    exact hc
  · unfold tiI
    simp (disch := omega) only [up_ne, va_up_s, fll_lt]
  · unfold tiJ
    simp (disch := omega) only [up_ne, va_up_s]
    exact shC_z s hs
  · unfold tiI
    simp (disch := omega) only [up_ne, va_up_s, fll_lt]
  · unfold tiI
    simp (disch := omega) only [up_ne, va_up_s, fll_lt]
    rw [lbit_enc, lbn_wC c hm]
  · unfold tiI
    simp (disch := omega) only [up_ne, va_up_s, fll_lt]
    exact sbF_enc c s
  · unfold tiI
    simp (disch := omega) only [up_ne, va_up_s]
  · unfold tiJ
    simp (disch := omega) only [va_up_s, fll_lt]
    exact cof_z rwC_z (by omega) (by omega)
  · unfold tiJ
    simp (disch := omega) only [up_ne, va_up_s]
    exact whR_z rwC_z
theorem wei_ok {B : Nat} {c : Nat → Int32} {I : ab_I} {J : ab_J} (hM : MK c) (hT : TieOK B c I J) : TieOK B c I (weJ B c J) ∧ WeiOK B c (weJ B c J) := by
  obtain ⟨t1, t2, t3, t4, t5, t6, t7, t8, t9⟩ := hT
  have hp : ∀ i, i < 3 → pulC c (J (B + 3)) i = zL (pC c i) := fun i hi => pl_z hM t3 hi 12 (Nat.le_refl _)
  have hh : ∀ m, m < 4 → hrd (J (B + 8)) (pulC c (J (B + 3))) m = zL (hrC c m) := by
    intro m hm
    unfold hrd hrC solZ
    by_cases e : m = 0
    · rw [if_pos e, if_pos e]; exact zL_0
    · rw [if_neg e, if_neg e, hp 0 (by decide), hp 1 (by decide), hp 2 (by decide), t8 _ (by omega), t8 _ (by omega), t8 _ (by omega), zL_0, zL_mul, zL_mul, zL_mul, zL_add, zL_add, zL_add]
      congr 1
      unfold adC
      rw [show (3 * (m - 1) + 0) / 3 = m - 1 by omega, show (3 * (m - 1) + 1) / 3 = m - 1 by omega, show (3 * (m - 1) + 2) / 3 = m - 1 by omega, show (3 * (m - 1) + 0) % 3 = 0 by omega, show (3 * (m - 1) + 1) % 3 = 1 by omega, show (3 * (m - 1) + 2) % 3 = 2 by omega]
      omega
  refine ⟨⟨t1, t2, fun s hs => ?_, t4, t5, t6, t7, fun k hk => ?_, ?_⟩, fun m hm => ?_, fun s hs => ?_⟩
  · unfold weJ
    simp (disch := omega) only [up_ne]
    exact t3 s hs
  · unfold weJ
    simp (disch := omega) only [up_ne]
    exact t8 k hk
  · unfold weJ
    simp (disch := omega) only [up_ne]
    exact t9
  · unfold weJ
    simp (disch := omega) only [up_ne, va_up_s, fll_lt]
    exact hh m hm
  · unfold weJ
    simp (disch := omega) only [va_up_s, fll_lt]
    unfold wrt wrC
    rw [t3 s hs, smW_z (uz := (smN c s : Int) * whC c) (Hz := hrC c) (by rw [sumL_z hM hs, t9, zL_mul]) hh 4 (Nat.le_refl _), zL_mul]
/-! how large the numbers can be -/
theorem PD_bd {R : Nat → Int} (h : PD R) : (∀ k, k < 9 → bd (cofZ R (k / 3) (k % 3)) 23328) ∧ 0 < whZ R ∧ whZ R ≤ 1259712 := by
  obtain ⟨⟨s3, s6, s7⟩, ⟨d0, d4, d8⟩, ⟨m1, m2, m3⟩, hw, ⟨l0, l4, l8⟩, l1, l1', l2, l2', l5, l5'⟩ := h
  have bb : ∀ k, k < 9 → bd (R k) 108 := by
    intro k hk
    have : k = 0 ∨ k = 1 ∨ k = 2 ∨ k = 3 ∨ k = 4 ∨ k = 5 ∨ k = 6 ∨ k = 7 ∨ k = 8 := by omega
    unfold bd
    rcases this with e | e | e | e | e | e | e | e | e <;> subst e <;> omega
  refine ⟨fun k hk => ?_, hw, ?_⟩
  · have : k = 0 ∨ k = 1 ∨ k = 2 ∨ k = 3 ∨ k = 4 ∨ k = 5 ∨ k = 6 ∨ k = 7 ∨ k = 8 := by omega
    unfold cofZ
    rcases this with e | e | e | e | e | e | e | e | e <;> subst e <;> simp only [Nat.reduceDiv, Nat.reduceAdd, Nat.reduceMul, Nat.reduceMod] <;> exact bd_le (bd_sub (bd_mul (bb _ (by decide)) (bb _ (by decide))) (bd_mul (bb _ (by decide)) (bb _ (by decide)))) (by decide)
  · have e : R 0 * R 4 * R 8 - whZ R = R 5 * R 5 * R 0 + R 2 * R 2 * R 4 + R 1 * R 1 * R 8 - 2 * (R 1 * (R 2 * R 5)) := by
      simp only [whZ, cofZ, Nat.reduceAdd, Nat.reduceMul, Nat.reduceMod, s3, s6, s7]
      grind
    have sq : ∀ a : Int, 0 ≤ a * a := fun a => by
      rcases Int.le_total 0 a with q | q
      · exact Int.mul_nonneg q q
      · have := Int.mul_nonneg (show 0 ≤ -a by omega) (show 0 ≤ -a by omega)
        rwa [Int.neg_mul_neg] at this
    have p1 := Int.mul_nonneg (sq (R 5)) (Int.le_of_lt d0)
    have p2 := Int.mul_nonneg (sq (R 2)) (Int.le_of_lt d4)
    have p3 := Int.mul_nonneg (sq (R 1)) (Int.le_of_lt d8)
    have p4 : R 1 * (R 2 * R 5) ≤ 0 := by
      have := Int.mul_nonneg (show 0 ≤ -R 2 by omega) (show 0 ≤ -R 5 by omega)
      rw [Int.neg_mul_neg] at this
      have := Int.mul_nonneg (show 0 ≤ -R 1 by omega) this
      rw [Int.neg_mul] at this
      omega
    have q1 : R 0 * R 4 ≤ 108 * 108 := Int.mul_le_mul l0 l4 (Int.le_of_lt d4) (by decide)
    have q2 : R 0 * R 4 * R 8 ≤ (108 * 108) * 108 := Int.mul_le_mul q1 l8 (Int.le_of_lt d8) (by decide)
    omega
theorem C_PD (c : Nat → Int32) : PD (Mz (hnd c) 12) := Mz_PD (fun s _ => hnd_lt c s)
theorem wh_pos (c : Nat → Int32) : 0 < whC c := (PD_bd (C_PD c)).2.1
theorem wh_le (c : Nat → Int32) : whC c ≤ 1259712 := (PD_bd (C_PD c)).2.2
theorem wh_bd (c : Nat → Int32) : bd (whC c) 1259712 := by have := wh_pos c; have := wh_le c; unfold bd; omega
theorem ad_bd (c : Nat → Int32) {k : Nat} (hk : k < 9) : bd (adC c k) 23328 := (PD_bd (C_PD c)).1 k hk
theorem sol_bd {R p : Nat → Int} {A : Nat} (h : PD R) (hp : ∀ j, j < 3 → bd (p j) A) {m : Nat} (hm : m < 4) : bd (solZ R p m) (3 * (23328 * A)) := by
  have h1 := (PD_bd h).1
  unfold solZ
  split
  · exact Nat.zero_le _
  · have e : ∀ j, j < 3 → bd (cofZ R (m - 1) j) 23328 := fun j hj => by
      have := h1 (3 * (m - 1) + j) (by omega)
      rwa [show (3 * (m - 1) + j) / 3 = m - 1 by omega, show (3 * (m - 1) + j) % 3 = j by omega] at this
    exact bd_le (bd_add (bd_add (bd_mul (e 0 (by decide)) (hp 0 (by decide))) (bd_mul (e 1 (by decide)) (hp 1 (by decide)))) (bd_mul (e 2 (by decide)) (hp 2 (by decide)))) (by omega)
theorem pC_bd {c : Nat → Int32} (hM : MK c) {j : Nat} (hj : j < 3) : bd (pC c j) 14400 := by
  unfold pC
  split
  · exact bd_le (fdZ_bd hM (by omega) 12 (Nat.le_refl _)) (by decide)
  · exact Nat.zero_le _
theorem hr_bd {c : Nat → Int32} (hM : MK c) {m : Nat} (hm : m < 4) : bd (hrC c m) 1007769600 := bd_le (sol_bd (C_PD c) (fun j hj => pC_bd hM hj) hm) (by decide)
theorem smC_bd {a : Nat} {H : Nat → Int} {u : Int} {A U : Nat} (hu : bd u U) (hH : ∀ m, m < 4 → bd (H m) A) : ∀ m, m ≤ 4 → bd (smC a H u m) (U + m * A)
  | 0, _ => bd_le hu (by omega)
  | m + 1, hm => by
    have ih := smC_bd (a := a) hu hH m (by omega)
    unfold smC
    have e : U + (m + 1) * A = U + m * A + A := by rw [Nat.succ_mul]; omega
    rw [e]
    refine bd_add ih ?_
    split
    · exact Nat.zero_le _
    · exact hH m (by omega)
theorem shr_le (x : Nat) (h : x < 16) : shr x ≤ 12 := by
  have : ∀ x, x < 16 → shr x ≤ 12 := by decide +kernel
  exact this x h
theorem shr_bd (c : Nat → Int32) (s : Nat) : bd (shr (hnd c s) : Int) 12 := by have := shr_le _ (hnd_lt c s); unfold bd; omega
theorem sm_bd {c : Nat → Int32} (hM : MK c) {s : Nat} (hs : s < 12) : bd (smN c s : Int) 400 := by have := smN_le hM hs; unfold bd; omega
theorem wr_bd {c : Nat → Int32} (hM : MK c) {s : Nat} (hs : s < 12) : bd (wrC c s) 54419558400 := bd_le (bd_mul (shr_bd c s) (smC_bd (bd_mul (sm_bd hM hs) (wh_bd c)) (fun m hm => hr_bd hM hm) 4 (Nat.le_refl _))) (by decide)
/-- a mark's fit, over 12 times the whole -/
def ftC (c : Nat → Int32) (k : Nat) : Int := 12 * ((mvN (c k) : Int) * whC c + hrC c (k % 4)) - wrC c (k / 4)
theorem ft_bd {c : Nat → Int32} (hM : MK c) {k : Nat} (hk : k < 48) : bd (ftC c k) 68024448000 := by
  have h1 : bd (mvN (c k) : Int) 100 := by have := (MK_v hM hk).1; unfold bd; omega
  exact bd_le (bd_sub (bd_mul (A := 12) (by unfold bd; omega) (bd_add (bd_mul h1 (wh_bd c)) (hr_bd hM (show k % 4 < 4 by omega)))) (wr_bd hM (show k / 4 < 12 by omega))) (by decide)
