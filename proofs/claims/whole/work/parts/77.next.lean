/-! SCRIPTS OF LIKE HANDS: one more mark does the same -/
def swp (a b s : Nat) : Nat := if s = a then b else if s = b then a else s
theorem swp_lt {a b s : Nat} (ha : a < 12) (hb : b < 12) (hs : s < 12) : swp a b s < 12 := by unfold swp; split <;> (try split) <;> omega
theorem swp_swp {a b s : Nat} : swp a b (swp a b s) = s := by
  unfold swp
  by_cases q1 : s = a
  · rw [if_pos q1]
    by_cases q2 : b = a
    · rw [if_pos q2]; omega
    · rw [if_neg q2, if_pos rfl]; exact q1.symm
  · rw [if_neg q1]
    by_cases q2 : s = b
    · rw [if_pos q2, if_pos rfl]; exact q2.symm
    · rw [if_neg q2, if_neg q1, if_neg q2]
def sN (f : Nat → Nat) : Nat → Nat
  | 0 => 0
  | n + 1 => sN f n + f n
theorem sN_out {f : Nat → Nat} {k v : Nat} : ∀ n, n ≤ k → sN (va_up f k v) n = sN f n
  | 0, _ => rfl
  | n + 1, h => by unfold sN; rw [sN_out n (by omega), va_up_n _ _ (by omega)]
theorem sN_up {f : Nat → Nat} {k v : Nat} : ∀ n, k < n → sN (va_up f k v) n + f k = sN f n + v
  | 0, h => by omega
  | n + 1, h => by
    unfold sN
    by_cases e : k = n
    · subst e; rw [sN_out k (Nat.le_refl _), va_up_s]; omega
    · have := sN_up (f := f) (k := k) (v := v) n (by omega)
      rw [va_up_n _ _ (fun w => e w.symm)]
      omega
theorem sN_swp {f : Nat → Nat} {a b n : Nat} (ha : a < n) (hb : b < n) (hab : a ≠ b) : sN (fun s => f (swp a b s)) n = sN f n := by
  have e : (fun s => f (swp a b s)) = va_up (va_up f a (f b)) b (f a) := by
    funext s
    unfold swp
    by_cases q2 : s = b
    · subst q2; rw [if_neg (fun w => hab w.symm), if_pos rfl, va_up_s]
    · rw [va_up_n _ _ q2]
      by_cases q1 : s = a
      · subst q1; rw [if_pos rfl, va_up_s]
      · rw [if_neg q1, if_neg q2, va_up_n _ _ q1]
  rw [e]
  have h1 := sN_up (f := va_up f a (f b)) (v := f a) n hb
  have h2 := sN_up (f := f) (v := f b) n ha
  rw [va_up_n _ _ (fun w => hab w.symm)] at h1
  omega
theorem wN_sN {h : Nat → Nat} {a b : Nat} : ∀ n, wN h a b n = sN (fun s => if (h s).testBit a && (h s).testBit b then shr (h s) else 0) n
  | 0 => rfl
  | n + 1 => by unfold wN sN; rw [wN_sN n]
theorem dN_sN {h : Nat → Nat} {a : Nat} : ∀ n, dN h a n = sN (fun s => if (h s).testBit a then 12 - shr (h s) else 0) n
  | 0 => rfl
  | n + 1 => by unfold dN sN; rw [dN_sN n]
theorem eg_swp {h : Nat → Nat} {p q : Nat} (hp : p < 12) (hq : q < 12) : eg (fun s => h (swp p q s)) = eg h := by
  funext a b
  cases e : eg h a b with
  | true =>
    obtain ⟨s, hs, h1, h2⟩ := eg_iff.mp e
    exact eg_iff.mpr ⟨swp p q s, swp_lt hp hq hs, by rw [swp_swp]; exact h1, by rw [swp_swp]; exact h2⟩
  | false =>
    cases e2 : eg (fun s => h (swp p q s)) a b with
    | false => rfl
    | true =>
      obtain ⟨s, hs, h1, h2⟩ := eg_iff.mp e2
      rw [eg_iff.mpr ⟨swp p q s, swp_lt hp hq hs, h1, h2⟩] at e
      cases e
theorem lb_swp {h : Nat → Nat} {p q : Nat} (hp : p < 12) (hq : q < 12) (m : Nat) : lb (fun s => h (swp p q s)) m = lb h m := by
  unfold lb con
  rw [eg_swp hp hq]
theorem fre_swp {h : Nat → Nat} {p q : Nat} (hp : p < 12) (hq : q < 12) (m : Nat) : fre (fun s => h (swp p q s)) m = fre h m := by
  unfold fre
  rw [lb_swp hp hq]
theorem Mz_swp {h : Nat → Nat} {p q : Nat} (hp : p < 12) (hq : q < 12) (hpq : p ≠ q) : Mz (fun s => h (swp p q s)) 12 = Mz h 12 := by
  funext k
  unfold Mz
  rw [fre_swp hp hq, fre_swp hp hq, wN_sN, dN_sN, wN_sN, dN_sN]
  rw [sN_swp (f := fun s => if (h s).testBit (k / 3 + 1) then 12 - shr (h s) else 0) hp hq hpq]
  rw [sN_swp (f := fun s => if (h s).testBit (k / 3 + 1) && (h s).testBit (k % 3 + 1) then shr (h s) else 0) hp hq hpq]
theorem slb_swp {h : Nat → Nat} {p q : Nat} (hp : p < 12) (hq : q < 12) (s : Nat) : slb (fun s => h (swp p q s)) s = slb h (swp p q s) := by
  unfold slb
  rw [lb_swp hp hq]
theorem db_swp {h : Nat → Nat} {p q : Nat} (hp : p < 12) (hq : q < 12) (hpq : p ≠ q) (a b : Nat) : dbC (fun s => h (swp p q s)) a b = dbC h (swp p q a) (swp p q b) := by
  have e : flC (fun s => h (swp p q s)) a b = flC h (swp p q a) (swp p q b) := by
    funext j
    unfold flC ps
    rw [fre_swp hp hq]
  unfold dbC
  rw [Mz_swp hp hq hpq, e]
theorem dz_neg {A d : Nat → Int} {u : Int} : dzI A (fun j => - d j) u 3 = dzI A d u 3 := by
  unfold dzI dzI dzI dzI
  simp only [Int.neg_mul, Int.mul_neg, Int.neg_neg]
theorem db_symm (h : Nat → Nat) (a b : Nat) : dbC h a b = dbC h b a := by
  have e : flC h a b = fun j => - flC h b a j := by
    funext j
    unfold flC
    split <;> omega
  unfold dbC
  rw [e, dz_neg, Int.add_comm]
theorem dzD_symm (h : Nat → Nat) (a b : Nat) : dzD h a b = dzD h b a := by
  unfold dzD
  by_cases q : ¬ slb h a = 4 ∧ slb h a = slb h b
  · rw [if_pos q, if_pos ⟨fun w => q.1 (q.2.trans w), q.2.symm⟩]; exact db_symm h a b
  · rw [if_neg q, if_neg (fun w => q ⟨fun v => w.1 (w.2.trans v), w.2.symm⟩)]
theorem ws_swp1 {h : Nat → Nat} {p q : Nat} (hp : p < 12) (hq : q < 12) (hpq : p ≠ q) : (wsC (fun s => h (swp p q s))).1 ≤ (wsC h).1 := by
  rcases ws_I (fun s => h (swp p q s)) with ⟨w, -⟩ | ⟨-, a, b, hab, hb, e, -⟩
  · rw [w]; exact ws_nn h
  · rw [← e]
    have e2 : dzD (fun s => h (swp p q s)) a b = dzD h (swp p q a) (swp p q b) := by
      unfold dzD
      rw [slb_swp hp hq, slb_swp hp hq, db_swp hp hq hpq]
    rw [e2]
    have ne : swp p q a ≠ swp p q b := fun w => by
      have := congrArg (swp p q) w
      rw [swp_swp, swp_swp] at this
      omega
    have la := swp_lt hp hq (show a < 12 by omega)
    have lb' := swp_lt hp hq hb
    by_cases w : swp p q a < swp p q b
    · exact ws_ge w lb'
    · rw [dzD_symm]; exact ws_ge (by omega) la
theorem ws_swp {h : Nat → Nat} {p q : Nat} (hp : p < 12) (hq : q < 12) (hpq : p ≠ q) : (wsC (fun s => h (swp p q s))).1 = (wsC h).1 := by
  have h1 := ws_swp1 (h := h) hp hq hpq
  have h2 := ws_swp1 (h := fun s => h (swp p q s)) hp hq hpq
  simp only [swp_swp] at h2
  change (wsC h).1 ≤ _ at h2
  omega
theorem hnd_swp {c : Nat → Int32} {p q m : Nat} (hm : m < 4) (hpq : p ≠ q) (e : hnd c p = hnd c q) : hnd (va_up c (4 * q + m) 0) = fun s => hnd (va_up c (4 * p + m) 0) (swp p q s) := by
  funext s
  apply Nat.eq_of_testBit_eq
  intro x
  by_cases hx : x < 4
  · rw [hnd_up hx, hnd_up hx]
    unfold swp
    by_cases q1 : s = p
    · subst q1
      rw [if_pos rfl, if_neg (by omega), if_neg (by omega), e]
    · rw [if_neg q1]
      by_cases q2 : s = q
      · subst q2
        rw [if_pos rfl]
        by_cases q3 : x = m
        · rw [if_pos (by omega), if_pos (by omega)]
        · rw [if_neg (by omega), if_neg (by omega), e]
      · rw [if_neg q2, if_neg (by omega), if_neg (by omega)]
  · rw [hnd_hi (by omega), hnd_hi (by omega)]
theorem like {c : Nat → Int32} {p q m : Nat} (hm : m < 4) (hp : p < 12) (hq : q < 12) (hpq : p ≠ q) (e : hnd c p = hnd c q) : Wk c (4 * p + m) = Wk c (4 * q + m) ∧ Bk c (4 * p + m) = Bk c (4 * q + m) := by
  unfold Wk Bk whC
  rw [hnd_swp hm hpq e, ws_swp hp hq hpq, Mz_swp hp hq hpq]
  exact ⟨rfl, rfl⟩
theorem bst_le {op : Nat → Bool} {W B : Nat → Int} : ∀ n, n ≤ 48 → bst op W B n ≤ 48 ∧ (bst op W B n = 48 ∨ (bst op W B n < n ∧ op (bst op W B n) = true))
  | 0, _ => ⟨Nat.le_refl _, Or.inl rfl⟩
  | n + 1, hn => by
    obtain ⟨h1, h2⟩ := bst_le (op := op) (W := W) (B := B) n (by omega)
    unfold bst
    split
    · rename_i q; exact ⟨by omega, Or.inr ⟨by omega, q.1⟩⟩
    · refine ⟨h1, ?_⟩
      rcases h2 with w | w
      · exact Or.inl w
      · exact Or.inr ⟨by omega, w.2⟩
theorem bst_min {op : Nat → Bool} {W B : Nat → Int} (hB : ∀ i, 0 < B i) : ∀ n, n ≤ 48 → ∀ j, j < n → op j = true → bst op W B n ≠ 48 ∧ W (bst op W B n) * B j ≤ W j * B (bst op W B n)
  | 0, _, j, hj, _ => by omega
  | n + 1, hn, j, hj, ho => by
    have ih := bst_min (op := op) (W := W) hB n (by omega)
    unfold bst
    by_cases q : op n = true ∧ (bst op W B n = 48 ∨ W n * B (bst op W B n) < W (bst op W B n) * B n)
    · rw [if_pos q]
      refine ⟨by omega, ?_⟩
      by_cases e : j = n
      · subst e; exact Int.le_refl _
      · obtain ⟨i1, i2⟩ := ih j (by omega) ho
        rcases q.2 with w | w
        · exact absurd w i1
        · have a1 := Int.mul_le_mul_of_nonneg_right i2 (Int.le_of_lt (hB n))
          have a2 := Int.mul_le_mul_of_nonneg_right (Int.le_of_lt w) (Int.le_of_lt (hB j))
          refine Int.le_of_mul_le_mul_left (a := B (bst op W B n)) ?_ (hB _)
          have e1 : B (bst op W B n) * (W n * B j) = W n * B (bst op W B n) * B j := by ac_rfl
          have e2 : W (bst op W B n) * B n * B j = W (bst op W B n) * B j * B n := by ac_rfl
          have e3 : W j * B (bst op W B n) * B n = B (bst op W B n) * (W j * B n) := by ac_rfl
          omega
    · rw [if_neg q]
      by_cases e : j = n
      · subst e
        have q' : ¬ (bst op W B j = 48 ∨ W j * B (bst op W B j) < W (bst op W B j) * B j) := fun w => q ⟨ho, w⟩
        exact ⟨fun w => q' (Or.inl w), Int.not_lt.mp (fun w => q' (Or.inr w))⟩
      · exact ih j (by omega) ho
theorem bst_eq {op op' : Nat → Bool} {W B : Nat → Int} (hB : ∀ i, 0 < B i) (h1 : ∀ i, i < 48 → op i = true → op' i = true) (h2 : ∀ i, i < 48 → op' i = true → op i = false → ∃ j, j < i ∧ op j = true ∧ W j = W i ∧ B j = B i) : ∀ n, n ≤ 48 → bst op W B n = bst op' W B n
  | 0, _ => rfl
  | n + 1, hn => by
    have ih := bst_eq (W := W) hB h1 h2 n (by omega)
    unfold bst
    rw [← ih]
    cases q : op n with
    | true => rw [h1 n (by omega) q]
    | false =>
      cases q' : op' n with
      | false => rfl
      | true =>
        obtain ⟨j, hj, oj, wj, bj⟩ := h2 n (by omega) q' q
        obtain ⟨i1, i2⟩ := bst_min (op := op) (W := W) hB n (by omega) j hj oj
        rw [wj, bj] at i2
        rw [if_neg (fun w => by cases w.1), if_neg]
        rintro ⟨-, w | w⟩
        · exact i1 w
        · omega
theorem Bk_pos (c : Nat → Int32) (k : Nat) : 0 < Bk c k := by unfold Bk; have := wh_pos (va_up c k 0); omega
theorem opR_t {c : Nat → Int32} {k : Nat} : opR c k = true ↔ c k = -1 ∧ slb (hnd c) (k / 4) ≠ 4 ∧ slb (hnd c) (k / 4) = lb (hnd c) (k % 4) := by unfold opR; exact decide_eq_true_iff
theorem nx_eq (c : Nat → Int32) : nxC c = bst (opR c) (Wk c) (Bk c) 48 := by
  refine bst_eq (Bk_pos c) (fun i _ q => ?_) (fun i hi q1 q2 => ?_) 48 (Nat.le_refl _)
  · unfold opC at q; rw [Bool.and_eq_true] at q; exact q.1
  · unfold opC at q2
    rw [q1, Bool.true_and] at q2
    have q3 := of_decide_eq_false q2
    have : ∃ s, s < i / 4 ∧ hnd c s = hnd c (i / 4) := by
      refine Classical.byContradiction (fun w => q3 (fun s hs e => w ⟨s, hs, e⟩))
    obtain ⟨s, ⟨s1, s2⟩, s3⟩ := pk_least (fun s => s < i / 4 ∧ hnd c s = hnd c (i / 4)) this
    obtain ⟨o1, o2, o3⟩ := opR_t.mp q1
    have ei : 4 * (i / 4) + i % 4 = i := by omega
    have ls := like (c := c) (p := s) (q := i / 4) (m := i % 4) (by omega) (by omega) (by omega) (by omega) s2
    rw [ei] at ls
    have es : slb (hnd c) s = slb (hnd c) (i / 4) := by unfold slb; rw [s2]
    refine ⟨4 * s + i % 4, by omega, ?_, ls.1, ls.2⟩
    have d1 : (4 * s + i % 4) / 4 = s := by omega
    have d2 : (4 * s + i % 4) % 4 = i % 4 := by omega
    unfold opC
    rw [Bool.and_eq_true]
    refine ⟨opR_t.mpr ⟨?_, ?_, ?_⟩, decide_eq_true ?_⟩
    · have b1 : (hnd c (i / 4)).testBit (i % 4) = false := by rw [hnd_b1, decide_eq_false (fun w => w o1)]
      rw [← s2, hnd_bit c s (by omega)] at b1
      exact Classical.byContradiction (fun w => of_decide_eq_false b1 w)
    · rw [d1, es]; exact o2
    · rw [d1, d2, es]; exact o3
    · rw [d1]
      intro t ht w
      exact s3 t ht ⟨by omega, w.trans s2⟩
theorem opR_ws {c : Nat → Int32} {k : Nat} (hk : k < 48) (ho : opR c k = true) : 0 < Wk c k ∧ (wsC (hnd (va_up c k 0))).2.1 ≠ -1 ∧ ∀ j, j < 16 → LB (hnd (va_up c k 0)) j = LB (hnd c) j := by
  obtain ⟨o1, o2, o3⟩ := opR_t.mp ho
  have ek : 4 * (k / 4) + k % 4 = k := by omega
  have H := hadd_c (c := c) (s := k / 4) (m := k % 4) (by omega)
  rw [ek] at H
  have hs : k / 4 < 12 := by omega
  have hm : k % 4 < 4 := by omega
  have hY : lb (hnd c) (k % 4) ≠ 4 := by rw [← o3]; exact o2
  have eLB : ∀ j, j < 16 → LB (hnd (va_up c k 0)) j = LB (hnd c) j := by
    intro j hj
    rw [add_LB H hs hm o2 hY hj, ← o3, mrg_same]
  have esl : ∀ t, t < 12 → slb (hnd (va_up c k 0)) t = slb (hnd c) t := fun t ht => by
    have := eLB t (by omega)
    rw [LB_s ht, LB_s ht] at this
    exact this
  -- another script of this marker's
  obtain ⟨t, ht, t1, -⟩ := eg_iff.mp (lb4_eg hm (show lb (hnd c) (k % 4) < 4 by have := lb_le4 (hnd c) (k % 4); omega)).1
  have ne : t ≠ k / 4 := by
    intro w
    rw [w, hnd_b1, decide_eq_false (fun w => w o1)] at t1
    cases t1
  have et : slb (hnd c) t = slb (hnd c) (k / 4) := by rw [slb_of ht hm t1, o3]
  have hh : ∀ s, s < 12 → hnd (va_up c k 0) s < 16 := fun s _ => hnd_lt _ s
  have r : 0 < (wsC (hnd (va_up c k 0))).1 ∧ (wsC (hnd (va_up c k 0))).2.1 ≠ -1 := by
    by_cases w : t < k / 4
    · exact ws_some hh w hs (by rw [esl t ht, et]; exact o2) (by rw [esl t ht, esl _ hs, et])
    · exact ws_some hh (show k / 4 < t by omega) ht (by rw [esl _ hs]; exact o2) (by rw [esl t ht, esl _ hs, et])
  exact ⟨r.1, r.2, eLB⟩
theorem low_lt2 {a b w1 w2 : Int} (h1 : 0 < w1) (h2 : 0 < w2) : (low a w1 0 * low b w2 1 < low b w2 0 * low a w1 1) ↔ a * w2 < b * w1 := by
  obtain ⟨p1, -, e1, -⟩ := low_b (a := a) h1
  obtain ⟨p2, -, e2, -⟩ := low_b (a := b) h2
  have pp : 0 < low a w1 1 * low b w2 1 := Int.mul_pos p1 p2
  have ww : 0 < w1 * w2 := Int.mul_pos h1 h2
  have f1 : (w1 * w2) * (low a w1 0 * low b w2 1) = (low a w1 1 * low b w2 1) * (a * w2) := by
    have : (w1 * w2) * (low a w1 0 * low b w2 1) = (low a w1 0 * w1) * (w2 * low b w2 1) := by ac_rfl
    rw [this, ← e1]; ac_rfl
  have f2 : (w1 * w2) * (low b w2 0 * low a w1 1) = (low a w1 1 * low b w2 1) * (b * w1) := by
    have : (w1 * w2) * (low b w2 0 * low a w1 1) = (low b w2 0 * w2) * (w1 * low a w1 1) := by ac_rfl
    rw [this, ← e2]; ac_rfl
  constructor
  · intro h
    have := Int.mul_lt_mul_of_pos_left h ww
    rw [f1, f2] at this
    exact Int.lt_of_mul_lt_mul_left this (Int.le_of_lt pp)
  · intro h
    have := Int.mul_lt_mul_of_pos_left h pp
    rw [← f1, ← f2] at this
    exact Int.lt_of_mul_lt_mul_left this (Int.le_of_lt ww)
theorem Wk_bd (c : Nat → Int32) (k : Nat) : bd (Wk c k) 151165440 := ws_bd (va_up c k 0)
theorem Bk_bd (c : Nat → Int32) (k : Nat) : bd (Bk c k) 15116544 := by unfold Bk bd; have := wh_pos (va_up c k 0); have := wh_le (va_up c k 0); omega
def aNext (c : Nat → Int32) (x : Int32) : Int64 := if inr x 4 = true then (if nxC c = 48 then nO (-3) else if x = nI 0 then (nI (nxC c / 4)).toInt64 else if x = nI 1 then (nI (nxC c % 4)).toInt64 else if x = nI 2 then zL (low (Wk c (nxC c)) (Bk c (nxC c)) 0) else zL (low (Wk c (nxC c)) (Bk c (nxC c)) 1)) else nO (-2)
