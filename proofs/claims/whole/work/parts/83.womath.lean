/-! WITHOUT A MARK: a bundle's own equations against all equations -/
theorem wk_res {k : Nat} {w w2 : Nat → Nat → Bool} {P : Nat → Bool} (h : ∀ a d, w2 a d = (w a d && P a)) (hP : ∀ a d, w a d = true → P a = P d) : (∀ a d, wk k w2 a d = (wk k w a d && P a)) ∧ ∀ a d, wk k w a d = true → P a = P d := by
  constructor
  · intro a d
    unfold wk
    rw [h a d, h a k, h k d]
    have h1 := hP a k
    cases w a d <;> cases q : w a k <;> cases w k d <;> cases q2 : P a <;> cases q3 : P k <;> simp_all
  · intro a d q
    unfold wk at q
    rw [Bool.or_eq_true, Bool.and_eq_true] at q
    rcases q with q | q
    · exact hP a d q
    · exact (hP a k q.1).trans (hP k d q.2)
theorem con_res {h h2 : Nat → Nat} {P : Nat → Bool} (H : ∀ a d, eg h2 a d = (eg h a d && P a)) (hP : ∀ a d, eg h a d = true → P a = P d) (a d : Nat) : con h2 a d = (con h a d && P a) := by
  obtain ⟨a1, a2⟩ := wk_res (k := 0) H hP
  obtain ⟨b1, b2⟩ := wk_res (k := 1) a1 a2
  obtain ⟨c1, c2⟩ := wk_res (k := 2) b1 b2
  obtain ⟨d1, -⟩ := wk_res (k := 3) c1 c2
  exact d1 a d
theorem lb_res {h h2 : Nat → Nat} {P : Nat → Bool} (H : ∀ a d, eg h2 a d = (eg h a d && P a)) (hP : ∀ a d, eg h a d = true → P a = P d) (a : Nat) : lb h2 a = if P a then lb h a else 4 := by
  unfold lb
  rw [con_res H hP, con_res H hP, con_res H hP, con_res H hP]
  cases P a <;> simp
/-- what is left of a bundle's marks -/
def cB (c : Nat → Int32) (b : Nat) (k : Nat) : Int32 := if k < 48 ∧ slb (hnd c) (k / 4) ≠ b then -1 else c k
def cW (c : Nat → Int32) (b k0 : Nat) : Nat → Int32 := va_up (cB c b) k0 (-1)
section WOM
variable {c : Nat → Int32} {b k0 : Nat}
theorem cW_v (hk0 : k0 < 48) {k : Nat} (hk : k < 48) : cW c b k0 k = if slb (hnd c) (k / 4) = b then va_up c k0 (-1) k else -1 := by
  unfold cW cB
  by_cases e : k = k0
  · subst e; rw [va_up_s, va_up_s]; split <;> rfl
  · rw [va_up_n _ _ e, va_up_n _ _ e]
    by_cases q : slb (hnd c) (k / 4) = b
    · rw [if_neg (fun w => w.2 q), if_pos q]
    · rw [if_pos ⟨hk, q⟩, if_neg q]
theorem hW_bit (hk0 : k0 < 48) {t x : Nat} (ht : t < 12) (hx : x < 4) : (hnd (cW c b k0) t).testBit x = ((hnd (va_up c k0 (-1)) t).testBit x && decide (slb (hnd c) t = b)) := by
  rw [hnd_bit _ t hx, hnd_bit _ t hx, cW_v hk0 (by omega), show (4 * t + x) / 4 = t by omega]
  by_cases q : slb (hnd c) t = b
  · rw [if_pos q, decide_eq_true q, Bool.and_true]
  · rw [if_neg q, decide_eq_false q, Bool.and_false]
    exact decide_eq_false (fun w => w rfl)
theorem hW_eq (hk0 : k0 < 48) {t : Nat} (ht : t < 12) (q : slb (hnd c) t = b) : hnd (cW c b k0) t = hnd (va_up c k0 (-1)) t := by
  apply Nat.eq_of_testBit_eq
  intro x
  by_cases hx : x < 4
  · rw [hW_bit hk0 ht hx, decide_eq_true q, Bool.and_true]
  · rw [hnd_hi (by omega), hnd_hi (by omega)]
theorem h1_sub {t x : Nat} (q : (hnd (va_up c k0 (-1)) t).testBit x = true) : (hnd c t).testBit x = true := by
  by_cases hx : x < 4
  · rw [hnd_up hx] at q
    by_cases e : 4 * t + x = k0
    · rw [if_pos e] at q; exact absurd q (by decide)
    · rw [if_neg e] at q; exact q
  · rw [hnd_hi (by omega)] at q; cases q
/-- a marker of the bundle -/
def pB (c : Nat → Int32) (b a : Nat) : Bool := decide (a < 4 ∧ lb (hnd c) a = b)
theorem eg_P {a d : Nat} (q : eg (hnd (va_up c k0 (-1))) a d = true) : pB c b a = pB c b d := by
  obtain ⟨t, ht, h1, h2⟩ := eg_iff.mp q
  have lt : ∀ {x}, (hnd (va_up c k0 (-1)) t).testBit x = true → x < 4 := fun {x} w => Classical.byContradiction (fun v => by rw [hnd_hi (by omega)] at w; cases w)
  have a4 := lt h1
  have d4 := lt h2
  have e := lb_eq a4 d4 (con_eg (eg_of ht (h1_sub h1) (h1_sub h2)))
  unfold pB
  rw [decide_eq_decide, e]
  exact ⟨fun w => ⟨d4, w.2⟩, fun w => ⟨a4, w.2⟩⟩
theorem eg_W (hk0 : k0 < 48) (a d : Nat) : eg (hnd (cW c b k0)) a d = (eg (hnd (va_up c k0 (-1))) a d && pB c b a) := by
  have lt : ∀ {c' : Nat → Int32} {t x : Nat}, (hnd c' t).testBit x = true → x < 4 := fun {c' t x} w => Classical.byContradiction (fun v => by rw [hnd_hi (by omega)] at w; cases w)
  cases q : eg (hnd (cW c b k0)) a d with
  | true =>
    obtain ⟨t, ht, h1, h2⟩ := eg_iff.mp q
    have a4 := lt h1
    have d4 := lt h2
    rw [hW_bit hk0 ht a4, Bool.and_eq_true] at h1
    rw [hW_bit hk0 ht d4, Bool.and_eq_true] at h2
    have e1 : lb (hnd c) a = b := by rw [← slb_of ht a4 (h1_sub h1.1)]; exact of_decide_eq_true h1.2
    rw [eg_of ht h1.1 h2.1, Bool.true_and]
    exact (decide_eq_true ⟨a4, e1⟩).symm
  | false =>
    cases q1 : eg (hnd (va_up c k0 (-1))) a d with
    | false => rfl
    | true =>
      cases q2 : pB c b a with
      | false => rfl
      | true =>
        obtain ⟨t, ht, h1, h2⟩ := eg_iff.mp q1
        have a4 := lt h1
        have d4 := lt h2
        have e1 := (of_decide_eq_true q2).2
        have e2 : slb (hnd c) t = b := by rw [slb_of ht a4 (h1_sub h1)]; exact e1
        rw [eg_of (h := hnd (cW c b k0)) (a := a) (b := d) ht (by rw [hW_bit hk0 ht a4, h1, decide_eq_true e2]; rfl) (by rw [hW_bit hk0 ht d4, h2, decide_eq_true e2]; rfl)] at q
        cases q
theorem lb_W (hk0 : k0 < 48) (a : Nat) : lb (hnd (cW c b k0)) a = if pB c b a then lb (hnd (va_up c k0 (-1))) a else 4 := lb_res (eg_W hk0) (fun _ _ q => eg_P q) a
theorem fre_W (hk0 : k0 < 48) (a : Nat) : fre (hnd (cW c b k0)) a = (fre (hnd (va_up c k0 (-1))) a && pB c b a) := by
  unfold fre
  rw [lb_W hk0]
  cases pB c b a <;> simp
theorem bit_P {t a : Nat} (ht : t < 12) (ha : a < 4) (hP : pB c b a = true) (q : (hnd (va_up c k0 (-1)) t).testBit a = true) : slb (hnd c) t = b := by
  rw [slb_of ht ha (h1_sub q)]
  exact (of_decide_eq_true hP).2
theorem dN_W (hk0 : k0 < 48) {a : Nat} (ha : a < 4) (hP : pB c b a = true) : ∀ n, n ≤ 12 → dN (hnd (cW c b k0)) a n = dN (hnd (va_up c k0 (-1))) a n
  | 0, _ => rfl
  | n + 1, hn => by
    rw [dN_s, dN_s, dN_W hk0 ha hP n (by omega)]
    congr 1
    cases q : (hnd (va_up c k0 (-1)) n).testBit a with
    | false => rw [hW_bit hk0 (by omega) ha, q]; simp
    | true =>
      have e := bit_P (by omega) ha hP q
      rw [hW_eq hk0 (by omega) e, q]
theorem wN_W (hk0 : k0 < 48) {a d : Nat} (ha : a < 4) (hP : pB c b a = true) : ∀ n, n ≤ 12 → wN (hnd (cW c b k0)) a d n = wN (hnd (va_up c k0 (-1))) a d n
  | 0, _ => rfl
  | n + 1, hn => by
    rw [wN_s, wN_s, wN_W hk0 ha hP n (by omega)]
    congr 1
    cases q : (hnd (va_up c k0 (-1)) n).testBit a with
    | false => rw [hW_bit hk0 (by omega) ha, q]; simp
    | true =>
      have e := bit_P (by omega) ha hP q
      rw [hW_eq hk0 (by omega) e, q]
theorem wN_PN {a d : Nat} (ha : a < 4) (hd : d < 4) (hP : pB c b a = true) (hd2 : pB c b d = false) : wN (hnd (va_up c k0 (-1))) a d 12 = 0 := by
  rw [wN_eg (fun s _ => hnd_lt _ s) ha]
  cases q : eg (hnd (va_up c k0 (-1))) a d with
  | false => rfl
  | true => rw [eg_P q, hd2] at hP; cases hP
theorem row_W (hk0 : k0 < 48) (hk : k0 / 4 < 12) {s : Nat} (hs : s < 12) (q : slb (hnd c) s = b) {x : Nat} (hx : x < 4) : cW c b k0 (4 * s + x) = va_up c k0 (-1) (4 * s + x) := by
  rw [cW_v hk0 (by omega), show (4 * s + x) / 4 = s by omega, if_pos q]
theorem smN_W (hk0 : k0 < 48) {s : Nat} (hs : s < 12) (q : slb (hnd c) s = b) : smN (cW c b k0) s = smN (va_up c k0 (-1)) s := by
  unfold smN
  rw [row_W hk0 (by omega) hs q (by decide), row_W hk0 (by omega) hs q (by decide), row_W hk0 (by omega) hs q (by decide), row_W hk0 (by omega) hs q (by decide)]
theorem fdZ_W (hk0 : k0 < 48) {a : Nat} (ha : a < 4) (hP : pB c b a = true) : ∀ n, n ≤ 12 → fdZ (cW c b k0) a n = fdZ (va_up c k0 (-1)) a n
  | 0, _ => rfl
  | n + 1, hn => by
    unfold fdZ
    rw [fdZ_W hk0 ha hP n (by omega)]
    congr 1
    by_cases q : slb (hnd c) n = b
    · rw [row_W hk0 (by omega) (by omega) q ha, hW_eq hk0 (by omega) q, smN_W hk0 (by omega) q]
    · have e1 : cW c b k0 (4 * n + a) = -1 := by rw [cW_v hk0 (by omega), show (4 * n + a) / 4 = n by omega, if_neg q]
      have e2 : va_up c k0 (-1) (4 * n + a) = -1 := by
        refine Classical.byContradiction (fun w => q ?_)
        exact bit_P (k0 := k0) (by omega) ha hP (by rw [hnd_bit _ n ha]; exact decide_eq_true w)
      rw [if_pos e1, if_pos e2]
end WOM
/-- Cramer's rule, both ways -/
theorem cr1 {R p : Nat → Int} (h : PD R) (i : Nat) (hi : i < 3) : R (3 * i) * solZ R p 1 + R (3 * i + 1) * solZ R p 2 + R (3 * i + 2) * solZ R p 3 = whZ R * p i := by
  obtain ⟨⟨s3, s6, s7⟩, -⟩ := h
  have : i = 0 ∨ i = 1 ∨ i = 2 := by omega
  rcases this with r | r | r <;> subst r <;> simp only [solZ, whZ, cofZ, ↓reduceIte, Nat.reduceEqDiff, Nat.one_ne_zero, Nat.reduceSub, Nat.reduceAdd, Nat.reduceMul, Nat.reduceMod, Nat.mul_zero, Nat.mul_one, Nat.zero_add, s3, s6, s7] <;> grind
theorem cr2 {R z q : Nat → Int} (h : PD R) (hq : ∀ i, i < 3 → R (3 * i) * z 0 + R (3 * i + 1) * z 1 + R (3 * i + 2) * z 2 = q i) (i : Nat) (hi : i < 3) : whZ R * z i = solZ R q (i + 1) := by
  obtain ⟨⟨s3, s6, s7⟩, -⟩ := h
  have h0 := hq 0 (by omega)
  have h1 := hq 1 (by omega)
  have h2 := hq 2 (by omega)
  simp only [Nat.mul_zero, Nat.mul_one, Nat.zero_add, Nat.reduceMul, Nat.reduceAdd, s3, s6, s7] at h0 h1 h2
  have : i = 0 ∨ i = 1 ∨ i = 2 := by omega
  rcases this with r | r | r <;> subst r <;> simp only [solZ, whZ, cofZ, ↓reduceIte, Nat.reduceEqDiff, Nat.one_ne_zero, Nat.reduceSub, Nat.reduceAdd, Nat.reduceMul, Nat.reduceMod, s3, s6, s7] <;> rw [← h0, ← h1, ← h2] <;> grind
theorem sol_lin {R p : Nat → Int} {k : Int} {m : Nat} : solZ R (fun i => k * p i) m = k * solZ R p m := by
  unfold solZ
  split
  · rw [Int.mul_zero]
  · grind
section WOM2
variable {c : Nat → Int32} {b k0 : Nat}
theorem Mz_PP (hk0 : k0 < 48) {i j : Nat} (hi : i < 3) (hj : j < 3) (hP : pB c b (i + 1) = true) (hf : fre (hnd (va_up c k0 (-1))) (i + 1) = true) : Mz (hnd (cW c b k0)) 12 (3 * i + j) = if pB c b (j + 1) then Mz (hnd (va_up c k0 (-1))) 12 (3 * i + j) else 0 := by
  unfold Mz
  rw [show (3 * i + j) / 3 = i by omega, show (3 * i + j) % 3 = j by omega, fre_W hk0, fre_W hk0, hP, hf, Bool.true_and, Bool.true_and]
  cases q : pB c b (j + 1) with
  | true =>
    rw [Bool.and_true, if_pos rfl, dN_W hk0 (by omega) hP 12 (Nat.le_refl _), wN_W hk0 (by omega) hP 12 (Nat.le_refl _), Bool.true_and]
  | false =>
    have e : ¬ i = j := fun w => by subst w; rw [hP] at q; cases q
    simp [e]
theorem Mz_PN {i j : Nat} (hi : i < 3) (hj : j < 3) (hP : pB c b (i + 1) = true) (hN : pB c b (j + 1) = false) : Mz (hnd (va_up c k0 (-1))) 12 (3 * i + j) = 0 := by
  have e : ¬ i = j := fun w => by subst w; rw [hP] at hN; cases hN
  unfold Mz
  rw [show (3 * i + j) / 3 = i by omega, show (3 * i + j) % 3 = j by omega, if_neg e, if_neg e, wN_PN (by omega) (by omega) hP hN]
  split <;> simp
theorem Mz_id {h : Nat → Nat} {i j : Nat} (hi : i < 3) (hj : j < 3) (hf : fre h (i + 1) = false) : Mz h 12 (3 * i + j) = if i = j then 1 else 0 := by
  unfold Mz
  rw [show (3 * i + j) / 3 = i by omega, show (3 * i + j) % 3 = j by omega, hf, Bool.false_and, if_neg (by simp)]
/-- hardness in the bundle alone, against all -/
theorem hr_W (hk0 : k0 < 48) {a : Nat} (ha : a < 4) (hP : pB c b a = true) : hrC (va_up c k0 (-1)) a * whC (cW c b k0) = hrC (cW c b k0) a * whC (va_up c k0 (-1)) := by
  by_cases a0 : a = 0
  · subst a0; unfold hrC solZ; simp
  obtain ⟨i, rfl⟩ : ∃ i, a = i + 1 := ⟨a - 1, by omega⟩
  have PD1 := C_PD (va_up c k0 (-1))
  have PD2 := C_PD (cW c b k0)
  have key := cr2 (R := Mz (hnd (cW c b k0)) 12) (z := fun j => if pB c b (j + 1) then hrC (va_up c k0 (-1)) (j + 1) else 0) (q := fun j => whC (va_up c k0 (-1)) * pC (cW c b k0) j) PD2 ?_ i (by omega)
  · rw [sol_lin, if_pos hP] at key
    show hrC (va_up c k0 (-1)) (i + 1) * whZ (Mz (hnd (cW c b k0)) 12) = solZ (Mz (hnd (cW c b k0)) 12) (pC (cW c b k0)) (i + 1) * whC (va_up c k0 (-1))
    rw [Int.mul_comm, key, Int.mul_comm]
  · intro r hr
    have c1 := cr1 (p := pC (va_up c k0 (-1))) PD1 r hr
    cases qP : pB c b (r + 1) with
    | false =>
      have f2 : fre (hnd (cW c b k0)) (r + 1) = false := by rw [fre_W hk0, qP, Bool.and_false]
      have p2 : pC (cW c b k0) r = 0 := by unfold pC; rw [f2]; rfl
      rw [p2, Int.mul_zero]
      have m0 := Mz_id (h := hnd (cW c b k0)) (j := 0) hr (by omega) f2
      have m1 := Mz_id (h := hnd (cW c b k0)) (j := 1) hr (by omega) f2
      have m2 := Mz_id (h := hnd (cW c b k0)) (j := 2) hr (by omega) f2
      rw [Nat.add_zero] at m0
      rw [m0, m1, m2]
      have : r = 0 ∨ r = 1 ∨ r = 2 := by omega
      rcases this with w | w | w <;> subst w <;> simp only [Nat.zero_add, Nat.reduceAdd] at qP <;> simp [qP]
    | true =>
      cases qf : fre (hnd (va_up c k0 (-1))) (r + 1) with
      | false =>
        have f2 : fre (hnd (cW c b k0)) (r + 1) = false := by rw [fre_W hk0, qf, Bool.false_and]
        have p2 : pC (cW c b k0) r = 0 := by unfold pC; rw [f2]; rfl
        have p1 : pC (va_up c k0 (-1)) r = 0 := by unfold pC; rw [qf]; rfl
        rw [p2, Int.mul_zero]
        rw [p1, Int.mul_zero] at c1
        have m0 := Mz_id (h := hnd (cW c b k0)) (j := 0) hr (by omega) f2
        have m1 := Mz_id (h := hnd (cW c b k0)) (j := 1) hr (by omega) f2
        have m2 := Mz_id (h := hnd (cW c b k0)) (j := 2) hr (by omega) f2
        have k0' := Mz_id (h := hnd (va_up c k0 (-1))) (j := 0) hr (by omega) qf
        have k1' := Mz_id (h := hnd (va_up c k0 (-1))) (j := 1) hr (by omega) qf
        have k2' := Mz_id (h := hnd (va_up c k0 (-1))) (j := 2) hr (by omega) qf
        rw [Nat.add_zero] at m0 k0'
        rw [k0', k1', k2'] at c1
        rw [m0, m1, m2]
        show _ = (0 : Int)
        have : r = 0 ∨ r = 1 ∨ r = 2 := by omega
        rcases this with w | w | w <;> subst w <;> simp only [Nat.zero_add, Nat.reduceAdd] at qP <;> simp [qP] at c1 ⊢ <;> exact c1
      | true =>
        have f2 : fre (hnd (cW c b k0)) (r + 1) = true := by rw [fre_W hk0, qf, qP]; rfl
        have p2 : pC (cW c b k0) r = pC (va_up c k0 (-1)) r := by unfold pC; rw [f2, qf, if_pos rfl, if_pos rfl]; exact fdZ_W hk0 (by omega) qP 12 (Nat.le_refl _)
        have m0 := Mz_PP (j := 0) hk0 hr (by omega) qP qf
        have m1 := Mz_PP (j := 1) hk0 hr (by omega) qP qf
        have m2 := Mz_PP (j := 2) hk0 hr (by omega) qP qf
        have n0 := Mz_PN (k0 := k0) (j := 0) hr (by omega) qP
        have n1 := Mz_PN (k0 := k0) (j := 1) hr (by omega) qP
        have n2 := Mz_PN (k0 := k0) (j := 2) hr (by omega) qP
        rw [Nat.add_zero] at m0
        rw [p2, m0, m1, m2]
        refine Eq.trans ?_ c1
        show _ = Mz (hnd (va_up c k0 (-1))) 12 (3 * r) * hrC (va_up c k0 (-1)) 1 + Mz (hnd (va_up c k0 (-1))) 12 (3 * r + 1) * hrC (va_up c k0 (-1)) 2 + Mz (hnd (va_up c k0 (-1))) 12 (3 * r + 2) * hrC (va_up c k0 (-1)) 3
        simp only [Nat.zero_add, Nat.reduceAdd, Nat.add_zero] at n0 n1 n2 ⊢
        congr 1
        · congr 1
          · cases q : pB c b 1 with
            | true => simp
            | false => rw [n0 q]; simp
          · cases q : pB c b 2 with
            | true => simp
            | false => rw [n1 q]; simp
        · cases q : pB c b 3 with
          | true => simp
          | false => rw [n2 q]; simp
theorem wr_W (hk0 : k0 < 48) {s : Nat} (hs : s < 12) (q : slb (hnd c) s = b) : wrC (va_up c k0 (-1)) s * whC (cW c b k0) = wrC (cW c b k0) s * whC (va_up c k0 (-1)) := by
  have hm : ∀ m, m < 4 → (if (hnd (va_up c k0 (-1)) s).testBit m = false then 0 else hrC (va_up c k0 (-1)) m) * whC (cW c b k0) = (if (hnd (va_up c k0 (-1)) s).testBit m = false then 0 else hrC (cW c b k0) m) * whC (va_up c k0 (-1)) := by
    intro m hm
    cases w : (hnd (va_up c k0 (-1)) s).testBit m with
    | false => simp
    | true =>
      rw [if_neg (by simp), if_neg (by simp)]
      refine hr_W hk0 hm (decide_eq_true ⟨hm, ?_⟩)
      rw [← slb_of hs hm (h1_sub w)]
      exact q
  unfold wrC
  rw [hW_eq hk0 hs q, smN_W hk0 hs q, smC_up, smC_up, smC_up, smC_up, smC_up, smC_up, smC_up, smC_up]
  show _ * ((smN (va_up c k0 (-1)) s : Int) * whC (va_up c k0 (-1)) + _ + _ + _ + _) * _ = _ * ((smN (va_up c k0 (-1)) s : Int) * whC (cW c b k0) + _ + _ + _ + _) * _
  have h0 := hm 0 (by decide)
  have h1 := hm 1 (by decide)
  have h2 := hm 2 (by decide)
  have h3 := hm 3 (by decide)
  rw [Int.mul_assoc, Int.mul_assoc]
  congr 1
  rw [Int.add_mul, Int.add_mul, Int.add_mul, Int.add_mul, Int.add_mul, Int.add_mul, Int.add_mul, Int.add_mul, h0, h1, h2, h3, Int.mul_right_comm]
theorem ft_W (hk0 : k0 < 48) {k : Nat} (hk : k < 48) (q : slb (hnd c) (k / 4) = b) (hck : va_up c k0 (-1) k ≠ -1) : ftC (va_up c k0 (-1)) k * whC (cW c b k0) = ftC (cW c b k0) k * whC (va_up c k0 (-1)) := by
  have e1 : cW c b k0 k = va_up c k0 (-1) k := by rw [cW_v hk0 hk, if_pos q]
  have hb1 : (hnd (va_up c k0 (-1)) (k / 4)).testBit (k % 4) = true := by rw [hnd_b1]; exact decide_eq_true hck
  have hr := hr_W (c := c) (b := b) hk0 (show k % 4 < 4 by omega) (decide_eq_true ⟨by omega, by rw [← slb_of (by omega) (by omega) (h1_sub hb1)]; exact q⟩)
  have wr := wr_W (c := c) (b := b) hk0 (show k / 4 < 12 by omega) q
  unfold ftC
  rw [e1, Int.sub_mul, Int.sub_mul, wr]
  congr 1
  rw [Int.mul_assoc, Int.mul_assoc, Int.add_mul, Int.add_mul, hr, Int.mul_right_comm]
end WOM2
