/-! ONE MARK MORE: bundles with it -/
theorem wk_mono {k : Nat} {w w' : Nat → Nat → Bool} (h : ∀ a b, w a b = true → w' a b = true) (a b : Nat) (q : wk k w a b = true) : wk k w' a b = true := by
  unfold wk at *
  rw [Bool.or_eq_true, Bool.and_eq_true] at *
  rcases q with q | q
  · exact Or.inl (h a b q)
  · exact Or.inr ⟨h a k q.1, h k b q.2⟩
theorem con_mono {h h' : Nat → Nat} (H : ∀ a b, eg h a b = true → eg h' a b = true) {a b : Nat} (q : con h a b = true) : con h' a b = true := wk_mono (wk_mono (wk_mono (wk_mono H))) a b q
/-- h' is h with marker m put to script s -/
def hadd (h h' : Nat → Nat) (s m : Nat) : Prop := (∀ t, h t < 16) ∧ (∀ t, h' t < 16) ∧ (∀ t x, t ≠ s → (h' t).testBit x = (h t).testBit x) ∧ ∀ x, (h' s).testBit x = ((h s).testBit x || decide (x = m))
theorem hadd_c {c : Nat → Int32} {s m : Nat} (hm : m < 4) : hadd (hnd c) (hnd (va_up c (4 * s + m) 0)) s m := by
  refine ⟨hnd_lt c, hnd_lt _, fun t x ht => ?_, fun x => ?_⟩
  · by_cases hx : x < 4
    · rw [hnd_up hx, if_neg (by omega)]
    · rw [hnd_hi (by omega), hnd_hi (by omega)]
  · by_cases hx : x < 4
    · rw [hnd_up hx]
      by_cases e : x = m
      · subst e; rw [if_pos rfl]; simp
      · rw [if_neg (by omega)]; simp [e]
    · rw [hnd_hi (by omega), hnd_hi (by omega)]
      have : x ≠ m := by omega
      simp [this]
theorem lb4_eg {h : Nat → Nat} {a : Nat} (ha : a < 4) (q : lb h a < 4) : eg h a a = true ∧ lb h a ≤ a := by
  have h1 := con_l (lb_con q)
  exact ⟨h1, (lb_self ha h1).1⟩
def mrg (X Y v : Nat) : Nat := if v = X ∨ v = Y then min X Y else v
theorem add_lb {h h' : Nat → Nat} {s m : Nat} (H : hadd h h' s m) (hs : s < 12) (hm : m < 4) (hX : slb h s ≠ 4) (hY : lb h m ≠ 4) {a : Nat} (ha : a < 4) : lb h' a = mrg (slb h s) (lb h m) (lb h a) := by
  obtain ⟨hl, hl', bt, bs⟩ := H
  have lt4 : ∀ {t x : Nat}, (h t).testBit x = true → x < 4 := fun {t x} q => Classical.byContradiction (fun w => by rw [bit_hi (hl t) (by omega)] at q; cases q)
  have X4 : slb h s < 4 := by have := slb_le4 h s; omega
  have Y4 : lb h m < 4 := by have := lb_le4 h m; omega
  have mono : ∀ a b, eg h a b = true → eg h' a b = true := by
    intro a b e
    obtain ⟨t, ht, e1, e2⟩ := eg_iff.mp e
    by_cases ts : t = s
    · subst ts
      exact eg_of ht (by rw [bs, e1]; rfl) (by rw [bs, e2]; rfl)
    · exact eg_of ht (by rw [bt t a ts]; exact e1) (by rw [bt t b ts]; exact e2)
  have z : ∀ x, x < 16 → (lbn x = 4 ↔ x = 0) := by decide +kernel
  have h5 : lbn (h s) ≠ 4 := fun w => hX ((slb_4 hs (hl s)).mpr ((z _ (hl s)).mp w))
  have h6 := lbn_le (h s)
  have h7 := lbn_bit h5
  have y4 : lbn (h s) < 4 := by omega
  have eX : slb h s = lb h (lbn (h s)) := slb_of hs y4 h7
  -- the classes X and Y hang together in h'
  have cXY : con h' (slb h s) (lb h m) = true := by
    have c1 : con h' (lbn (h s)) (slb h s) = true := con_mono mono (by rw [eX]; exact lb_con (by rw [← eX]; exact X4))
    have c2 : con h' (lbn (h s)) m = true := con_eg (eg_of hs (by rw [bs, h7]; rfl) (by rw [bs]; simp))
    have c3 : con h' m (lb h m) = true := con_mono mono (lb_con Y4)
    exact con_trans y4 (by rw [con_symm]; exact c1) (con_trans hm c2 c3)
  -- labels
  have lab : ∀ a b, eg h' a b = true → mrg (slb h s) (lb h m) (lb h a) = mrg (slb h s) (lb h m) (lb h b) := by
    intro a b e
    obtain ⟨t, ht, e1, e2⟩ := eg_iff.mp e
    by_cases ts : t = s
    · subst ts
      have one : ∀ x, (h' t).testBit x = true → lb h x = slb h t ∨ lb h x = lb h m := by
        intro x q
        rw [bs, Bool.or_eq_true] at q
        rcases q with q | q
        · exact Or.inl (slb_of ht (lt4 q) q).symm
        · have := of_decide_eq_true q
          subst this
          exact Or.inr rfl
      unfold mrg
      rw [if_pos (one a e1), if_pos (one b e2)]
    · rw [bt t a ts] at e1
      rw [bt t b ts] at e2
      rw [lb_eq (lt4 e1) (lt4 e2) (con_eg (eg_of ht e1 e2))]
  by_cases q4 : lb h a = 4
  · have e1 : mrg (slb h s) (lb h m) (lb h a) = 4 := by unfold mrg; rw [if_neg (by omega)]; exact q4
    rw [e1]
    refine Classical.byContradiction (fun w => ?_)
    have w4 : lb h' a < 4 := by have := lb_le4 h' a; omega
    obtain ⟨t, ht, e2, -⟩ := eg_iff.mp (lb4_eg ha w4).1
    by_cases ts : t = s
    · subst ts
      rw [bs, Bool.or_eq_true] at e2
      rcases e2 with q | q
      · have := slb_of ht ha q; omega
      · have := of_decide_eq_true q; subst this; omega
    · rw [bt t a ts] at e2
      have := (lb_self ha (eg_of ht e2 e2)).2
      omega
  · have a4 : lb h a < 4 := by have := lb_le4 h a; omega
    have ca : con h' a (lb h a) = true := con_mono mono (lb_con a4)
    have m4 : mrg (slb h s) (lb h m) (lb h a) < 4 := by unfold mrg; split <;> omega
    have cL : con h' a (mrg (slb h s) (lb h m) (lb h a)) = true := by
      unfold mrg
      by_cases q : lb h a = slb h s ∨ lb h a = lb h m
      · rw [if_pos q]
        have cs : con h' a (slb h s) = true ∧ con h' a (lb h m) = true := by
          rcases q with q | q
          · rw [q] at ca; exact ⟨ca, con_trans X4 ca cXY⟩
          · rw [q] at ca; exact ⟨con_trans Y4 ca (by rw [con_symm]; exact cXY), ca⟩
        by_cases w : slb h s ≤ lb h m
        · rw [Nat.min_eq_left w]; exact cs.1
        · rw [Nat.min_eq_right (by omega)]; exact cs.2
      · rw [if_neg q]; exact ca
    have le1 := lb_le m4 cL
    have j4 : lb h' a < 4 := by omega
    have eL := con_L lab (lb_con j4)
    have hj : lb h (lb h' a) < 4 := by
      refine Classical.byContradiction (fun w => ?_)
      have w2 : lb h (lb h' a) = 4 := by have := lb_le4 h (lb h' a); omega
      have : mrg (slb h s) (lb h m) (lb h (lb h' a)) = 4 := by rw [w2]; unfold mrg; rw [if_neg (by omega)]
      omega
    have hjj := (lb4_eg j4 hj).2
    have le2 : mrg (slb h s) (lb h m) (lb h (lb h' a)) ≤ lb h (lb h' a) := by unfold mrg; split <;> omega
    omega
theorem add_slb {h h' : Nat → Nat} {s m : Nat} (H : hadd h h' s m) (hs : s < 12) (hm : m < 4) (hX : slb h s ≠ 4) (hY : lb h m ≠ 4) {t : Nat} (ht : t < 12) : slb h' t = mrg (slb h s) (lb h m) (slb h t) := by
  have z : ∀ x, x < 16 → (lbn x = 4 ↔ x = 0) := by decide +kernel
  by_cases q : slb h t = 4
  · have ts : t ≠ s := fun w => hX (by rw [← w]; exact q)
    have h0 := (slb_4 ht (H.1 t)).mp q
    have h1 : h' t = 0 := by
      apply Nat.eq_of_testBit_eq
      intro i
      rw [H.2.2.1 t i ts, h0]
    rw [(slb_4 ht (H.2.1 t)).mpr h1, q]
    unfold mrg
    rw [if_neg (by omega)]
  · have h5 : lbn (h t) ≠ 4 := fun w => q ((slb_4 ht (H.1 t)).mpr ((z _ (H.1 t)).mp w))
    have h6 := lbn_le (h t)
    have h7 := lbn_bit h5
    have y4 : lbn (h t) < 4 := by omega
    have h8 : (h' t).testBit (lbn (h t)) = true := by
      by_cases ts : t = s
      · subst ts; rw [H.2.2.2, h7]; rfl
      · rw [H.2.2.1 t _ ts]; exact h7
    rw [slb_of ht y4 h8, slb_of ht y4 h7]
    exact add_lb H hs hm hX hY y4
theorem mrg_same {X v : Nat} : mrg X X v = v := by
  unfold mrg
  by_cases q : v = X ∨ v = X
  · rw [if_pos q, Nat.min_self]; rcases q with q | q <;> exact q.symm
  · rw [if_neg q]
theorem add_LB {h h' : Nat → Nat} {s m : Nat} (H : hadd h h' s m) (hs : s < 12) (hm : m < 4) (hX : slb h s ≠ 4) (hY : lb h m ≠ 4) {k : Nat} (hk : k < 16) : LB h' k = mrg (slb h s) (lb h m) (LB h k) := by
  unfold LB
  by_cases q : k < 12
  · rw [if_pos q, if_pos q]; exact add_slb H hs hm hX hY q
  · rw [if_neg q, if_neg q]; exact add_lb H hs hm hX hY (by omega)
/-! doubts are above 0 -/
theorem sq_nn (a : Int) : 0 ≤ a * a := by
  rcases Int.le_total 0 a with h | h
  · exact Int.mul_nonneg h h
  · exact Int.mul_nonneg_of_nonpos_of_nonpos h h
theorem quad_nn {a b c e f g x y z : Int} (hg : 0 < g) (hA : 0 < e * g - f * f) (hD : 0 < a * (e * g - f * f) + b * (f * c - b * g) + c * (b * f - e * c)) :
    0 ≤ x * (e * g - f * f) * x + x * (f * c - b * g) * y + x * (b * f - e * c) * z + (y * (f * c - b * g) * x + y * (a * g - c * c) * y + y * (b * c - a * f) * z) + (z * (b * f - e * c) * x + z * (b * c - a * f) * y + z * (a * e - b * b) * z) := by
  have i1 : g * (g * (y * y) - 2 * (f * (y * z)) + e * (z * z)) = (g * y - f * z) * (g * y - f * z) + (e * g - f * f) * (z * z) := by grind
  have n1 : 0 ≤ g * (y * y) - 2 * (f * (y * z)) + e * (z * z) := by
    have : 0 ≤ g * (g * (y * y) - 2 * (f * (y * z)) + e * (z * z)) := by
      rw [i1]
      exact Int.add_nonneg (sq_nn _) (Int.mul_nonneg (Int.le_of_lt hA) (sq_nn _))
    exact Int.le_of_mul_le_mul_left (by rw [Int.mul_zero]; exact this) hg
  have i2 : (e * g - f * f) * (x * (e * g - f * f) * x + x * (f * c - b * g) * y + x * (b * f - e * c) * z + (y * (f * c - b * g) * x + y * (a * g - c * c) * y + y * (b * c - a * f) * z) + (z * (b * f - e * c) * x + z * (b * c - a * f) * y + z * (a * e - b * b) * z)) = ((e * g - f * f) * x + (f * c - b * g) * y + (b * f - e * c) * z) * ((e * g - f * f) * x + (f * c - b * g) * y + (b * f - e * c) * z) + (a * (e * g - f * f) + b * (f * c - b * g) + c * (b * f - e * c)) * (g * (y * y) - 2 * (f * (y * z)) + e * (z * z)) := by grind
  refine Int.le_of_mul_le_mul_left (a := e * g - f * f) ?_ hA
  rw [Int.mul_zero, i2]
  exact Int.add_nonneg (sq_nn _) (Int.mul_nonneg (Int.le_of_lt hD) n1)
theorem db_pos {h : Nat → Nat} (hh : ∀ s, s < 12 → h s < 16) {a b : Nat} (hs : 0 < shr (h a)) : 0 < dbC h a b := by
  obtain ⟨⟨s3, s6, s7⟩, ⟨d0, d4, d8⟩, ⟨m1, m2, m3⟩, hw, -, -⟩ := Mz_PD hh
  have hu : 0 < whZ (Mz h 12) * ((shr (h a) : Int) + shr (h b)) := Int.mul_pos hw (by omega)
  unfold dbC
  generalize flC h a b = d
  generalize whZ (Mz h 12) * ((shr (h a) : Int) + shr (h b)) = u at hu
  generalize Mz h 12 = R at *
  have hw' := hw
  unfold whZ cofZ at hw'
  simp only [Nat.reduceAdd, Nat.reduceMul, Nat.reduceMod, s3, s6, s7] at hw'
  have q := quad_nn (a := R 0) (b := R 1) (c := R 2) (e := R 4) (f := R 5) (g := R 8) (x := d 0) (y := d 1) (z := d 2) d8 m3 hw'
  have e : dzI (fun k => cofZ R (k / 3) (k % 3)) d u 3 = u + (d 0 * (R 4 * R 8 - R 5 * R 5) * d 0 + d 0 * (R 5 * R 2 - R 1 * R 8) * d 1 + d 0 * (R 1 * R 5 - R 4 * R 2) * d 2 + (d 1 * (R 5 * R 2 - R 1 * R 8) * d 0 + d 1 * (R 0 * R 8 - R 2 * R 2) * d 1 + d 1 * (R 1 * R 2 - R 0 * R 5) * d 2) + (d 2 * (R 1 * R 5 - R 4 * R 2) * d 0 + d 2 * (R 1 * R 2 - R 0 * R 5) * d 1 + d 2 * (R 0 * R 4 - R 1 * R 1) * d 2)) := by
    unfold dzI dzI dzI dzI cofZ
    simp only [Nat.reduceAdd, Nat.reduceMul, Nat.reduceMod, Nat.reduceDiv, s3, s6, s7]
    grind
  rw [e]
  omega
/-! the worst is the greatest -/
theorem wzB_ge {D : Nat → Nat → Int} {a : Nat} {z : Int × Int32 × Int32} : ∀ k, z.1 ≤ (wzB D a z k).1 ∧ ∀ j, j < k → D a (a + 1 + j) ≤ (wzB D a z k).1
  | 0 => ⟨Int.le_refl _, fun j hj => by omega⟩
  | k + 1 => by
    obtain ⟨h1, h2⟩ := wzB_ge (D := D) (a := a) (z := z) k
    unfold wzB
    by_cases q : D a (a + 1 + k) ≤ (wzB D a z k).1
    · rw [if_pos q]
      refine ⟨h1, fun j hj => ?_⟩
      by_cases e : j = k
      · subst e; exact q
      · exact h2 j (by omega)
    · rw [if_neg q]
      refine ⟨by dsimp only; omega, fun j hj => ?_⟩
      dsimp only
      by_cases e : j = k
      · subst e; exact Int.le_refl _
      · have := h2 j (by omega); omega
theorem wzA_ge {D : Nat → Nat → Int} : ∀ n, n ≤ 12 → ∀ a b, a < n → a < b → b < 12 → D a b ≤ (wzA D n).1
  | 0, _, a, b, ha, _, _ => by omega
  | n + 1, hn, a, b, ha, hab, hb => by
    obtain ⟨h1, h2⟩ := wzB_ge (D := D) (a := n) (z := wzA D n) (11 - n)
    show D a b ≤ (wzB D n (wzA D n) (11 - n)).1
    by_cases e : a = n
    · subst e
      have := h2 (b - a - 1) (by omega)
      rw [show a + 1 + (b - a - 1) = b by omega] at this
      exact this
    · have := wzA_ge (D := D) n (by omega) a b (by omega) hab hb
      omega
def wzI (D : Nat → Nat → Int) (z : Int × Int32 × Int32) : Prop := (z.1 = 0 ∧ z.2.1 = -1) ∨ (0 < z.1 ∧ ∃ a b, a < b ∧ b < 12 ∧ D a b = z.1 ∧ z.2 = (nI a, nI b))
theorem wzB_I {D : Nat → Nat → Int} {a : Nat} {z : Int × Int32 × Int32} (hz : wzI D z) : ∀ k, a + k < 12 → wzI D (wzB D a z k)
  | 0, _ => hz
  | k + 1, hk => by
    have ih := wzB_I (a := a) hz k (by omega)
    unfold wzB
    by_cases q : D a (a + 1 + k) ≤ (wzB D a z k).1
    · rw [if_pos q]; exact ih
    · rw [if_neg q]
      have nn : 0 ≤ (wzB D a z k).1 := by rcases ih with w | w <;> omega
      exact Or.inr ⟨by dsimp only; omega, a, a + 1 + k, by omega, by omega, rfl, rfl⟩
theorem wzA_I {D : Nat → Nat → Int} : ∀ n, n ≤ 12 → wzI D (wzA D n)
  | 0, _ => Or.inl ⟨rfl, rfl⟩
  | n + 1, hn => wzB_I (wzA_I n (by omega)) _ (by omega)
theorem ws_I (h : Nat → Nat) : wzI (dzD h) (wsC h) := wzA_I 12 (Nat.le_refl _)
theorem ws_ge {h : Nat → Nat} {a b : Nat} (hab : a < b) (hb : b < 12) : dzD h a b ≤ (wsC h).1 := wzA_ge 12 (Nat.le_refl _) a b (by omega) hab hb
theorem ws_nn (h : Nat → Nat) : 0 ≤ (wsC h).1 := wzA_nn 12
/-- where two scripts hang together there is a worst doubt -/
theorem ws_some {h : Nat → Nat} (hh : ∀ s, s < 12 → h s < 16) {a b : Nat} (hab : a < b) (hb : b < 12) (h4 : slb h a ≠ 4) (he : slb h a = slb h b) : 0 < (wsC h).1 ∧ (wsC h).2.1 ≠ -1 := by
  have hsh : 0 < shr (h a) := by
    have z : ∀ x, x < 16 → x ≠ 0 → 0 < shr x := by decide +kernel
    exact z _ (hh a (by omega)) (fun w => h4 ((slb_4 (by omega) (hh a (by omega))).mpr w))
  have h1 := db_pos hh (b := b) hsh
  have h2 := ws_ge (h := h) hab hb
  have e : dzD h a b = dbC h a b := by unfold dzD; rw [if_pos ⟨h4, he⟩]
  rw [e] at h2
  have h3 := ws_I h
  refine ⟨by omega, ?_⟩
  rcases h3 with w | ⟨w, a', b', q1, q2, -, q4⟩
  · omega
  · rw [q4]; exact nI_m1 (by omega)
