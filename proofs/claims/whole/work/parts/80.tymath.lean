/-! TIED: picks of the cheapest mark that joins two bundles -/
def chf (ok : Nat → Bool) (pr : Nat → Int32) : Nat → Nat
  | 0 => 48
  | k + 1 => if ok k = true ∧ (chf ok pr k = 48 ∨ pr (k % 4) < pr (chf ok pr k % 4)) then k else chf ok pr k
theorem chf_le {ok : Nat → Bool} {pr : Nat → Int32} : ∀ n, n ≤ 48 → chf ok pr n ≤ 48 ∧ (chf ok pr n = 48 ∨ (chf ok pr n < n ∧ ok (chf ok pr n) = true))
  | 0, _ => ⟨Nat.le_refl _, Or.inl rfl⟩
  | n + 1, hn => by
    obtain ⟨h1, h2⟩ := chf_le (ok := ok) (pr := pr) n (by omega)
    unfold chf
    split
    · rename_i q; exact ⟨by omega, Or.inr ⟨by omega, q.1⟩⟩
    · refine ⟨h1, ?_⟩
      rcases h2 with w | w
      · exact Or.inl w
      · exact Or.inr ⟨by omega, w.2⟩
theorem chf_cg {ok ok' : Nat → Bool} {pr : Nat → Int32} : ∀ n, (∀ k, k < n → ok k = ok' k) → chf ok pr n = chf ok' pr n
  | 0, _ => rfl
  | n + 1, h => by unfold chf; rw [chf_cg n (fun k hk => h k (by omega)), h n (by omega)]
def okT (c : Nat → Int32) (k : Nat) : Bool := decide (slb (hnd c) (k / 4) ≠ 4 ∧ lb (hnd c) (k % 4) ≠ 4 ∧ slb (hnd c) (k / 4) ≠ lb (hnd c) (k % 4))
def tpk (pr : Nat → Int32) (c : Nat → Int32) : Nat := chf (okT c) pr 48
def tD (pr : Nat → Int32) (c : Nat → Int32) : Nat → Nat → Int32
  | 0 => c
  | i + 1 => va_up (tD pr c i) (tpk pr (tD pr c i)) 0
def tC (pr : Nat → Int32) (c : Nat → Int32) : Nat → Int32
  | 0 => nI 0
  | i + 1 => tC pr c i + pr (tpk pr (tD pr c i) % 4)
theorem tpk_ok {pr c : Nat → Int32} (h : tpk pr c ≠ 48) : tpk pr c < 48 ∧ slb (hnd c) (tpk pr c / 4) ≠ 4 ∧ lb (hnd c) (tpk pr c % 4) ≠ 4 ∧ slb (hnd c) (tpk pr c / 4) ≠ lb (hnd c) (tpk pr c % 4) := by
  obtain ⟨-, h2⟩ := chf_le (ok := okT c) (pr := pr) 48 (Nat.le_refl _)
  rcases h2 with w | ⟨w1, w2⟩
  · exact absurd w h
  · exact ⟨w1, of_decide_eq_true w2⟩
/-- the groups g over the bundles of h0 stand for the bundles of h -/
def tInv (h0 h g : Nat → Nat) : Prop := (∀ a, a < 4 → g a ≤ 4 ∧ (g a = 4 ↔ lb h a = 4)) ∧ (∀ a b, a < 4 → b < 4 → lb h a ≠ 4 → lb h b ≠ 4 → (g a = g b ↔ lb h a = lb h b)) ∧ ∀ s, s < 12 → (slb h0 s = 4 ↔ slb h s = 4) ∧ (slb h0 s ≠ 4 → slb h s = lb h (slb h0 s))
theorem tInv_0 (c : Nat → Int32) : tInv (hnd c) (hnd c) (lb (hnd c)) :=
  ⟨fun a _ => ⟨lb_le4 _ _, Iff.rfl⟩, fun _ _ _ _ _ _ => Iff.rfl, fun s hs => ⟨Iff.rfl, fun q => (slb_fix hs q).2.symm⟩⟩
theorem mrg_4 {X Y v : Nat} (hX : X < 4) (hY : Y < 4) : mrg X Y v = 4 ↔ v = 4 := by unfold mrg; split <;> omega
theorem tInv_s {h0 h h' g : Nat → Nat} {s m : Nat} (hI : tInv h0 h g) (hs : s < 12) (hm : m < 4) (h40 : ∀ s, slb h0 s ≤ 4) (H : hadd h h' s m) (hX : slb h s ≠ 4) (hY : lb h m ≠ 4) (hXY : slb h s ≠ lb h m) : tInv h0 h' (fun a => if g a = g m then g (slb h0 s) else g a) := by
  obtain ⟨i1, i2, i3⟩ := hI
  have X4 : slb h s < 4 := by have := slb_le4 h s; omega
  have Y4 : lb h m < 4 := by have := lb_le4 h m; omega
  have l' : ∀ a, a < 4 → lb h' a = mrg (slb h s) (lb h m) (lb h a) := fun a ha => add_lb H hs hm hX hY ha
  obtain ⟨j1, j2⟩ := i3 s hs
  have k0 : slb h0 s ≠ 4 := fun w => hX (j1.mp w)
  have k4 : slb h0 s < 4 := by have := h40 s; omega
  have eX := j2 k0
  have lX : lb h (slb h0 s) ≠ 4 := by rw [← eX]; exact hX
  have gX : g (slb h0 s) ≠ 4 := fun w => lX ((i1 _ k4).2.mp w)
  have gm : g m ≠ 4 := fun w => hY ((i1 m hm).2.mp w)
  refine ⟨fun a ha => ⟨?_, ?_⟩, fun a b ha hb qa qb => ?_, fun t ht => ⟨?_, fun q => ?_⟩⟩
  · dsimp only; split
    · exact (i1 _ k4).1
    · exact (i1 a ha).1
  · rw [l' a ha, mrg_4 X4 Y4, ← (i1 a ha).2]
    dsimp only
    by_cases q : g a = g m
    · rw [if_pos q, q]; exact ⟨fun w => absurd w gX, fun w => absurd w gm⟩
    · rw [if_neg q]
  · have qa' : lb h a ≠ 4 := fun w => qa (by rw [l' a ha]; exact (mrg_4 X4 Y4).mpr w)
    have qb' : lb h b ≠ 4 := fun w => qb (by rw [l' b hb]; exact (mrg_4 X4 Y4).mpr w)
    have am := i2 a m ha hm qa' hY
    have bm := i2 b m hb hm qb' hY
    have aX := i2 a _ ha k4 qa' lX
    have bX := i2 b _ hb k4 qb' lX
    have ab := i2 a b ha hb qa' qb'
    rw [← eX] at aX bX
    rw [l' a ha, l' b hb]
    unfold mrg
    dsimp only
    by_cases a1 : g a = g m
    · have a1' := am.mp a1
      rw [if_pos a1, if_pos (Or.inr a1')]
      by_cases b1 : g b = g m
      · have b1' := bm.mp b1
        rw [if_pos b1, if_pos (Or.inr b1')]
        exact ⟨fun _ => rfl, fun _ => rfl⟩
      · have b1' : lb h b ≠ lb h m := fun w => b1 (bm.mpr w)
        rw [if_neg b1]
        by_cases b2 : g b = g (slb h0 s)
        · rw [if_pos (Or.inl (bX.mp b2))]; exact ⟨fun _ => rfl, fun _ => b2.symm⟩
        · have b2' : lb h b ≠ slb h s := fun w => b2 (bX.mpr w)
          rw [if_neg (by omega)]
          exact ⟨fun w => absurd w.symm b2, fun w => by omega⟩
    · have a1' : lb h a ≠ lb h m := fun w => a1 (am.mpr w)
      rw [if_neg a1]
      by_cases a2 : g a = g (slb h0 s)
      · have a2' := aX.mp a2
        rw [if_pos (Or.inl a2')]
        by_cases b1 : g b = g m
        · rw [if_pos b1, if_pos (Or.inr (bm.mp b1))]; exact ⟨fun _ => rfl, fun _ => a2⟩
        · have b1' : lb h b ≠ lb h m := fun w => b1 (bm.mpr w)
          rw [if_neg b1]
          by_cases b2 : g b = g (slb h0 s)
          · rw [if_pos (Or.inl (bX.mp b2))]; exact ⟨fun _ => rfl, fun _ => a2.trans b2.symm⟩
          · have b2' : lb h b ≠ slb h s := fun w => b2 (bX.mpr w)
            rw [if_neg (by omega)]
            exact ⟨fun w => absurd (w.symm.trans a2) b2, fun w => by omega⟩
      · have a2' : lb h a ≠ slb h s := fun w => a2 (aX.mpr w)
        rw [if_neg (show ¬ (lb h a = slb h s ∨ lb h a = lb h m) by omega)]
        by_cases b1 : g b = g m
        · rw [if_pos b1, if_pos (Or.inr (bm.mp b1))]
          exact ⟨fun w => absurd w a2, fun w => by omega⟩
        · have b1' : lb h b ≠ lb h m := fun w => b1 (bm.mpr w)
          rw [if_neg b1]
          by_cases b2 : g b = g (slb h0 s)
          · rw [if_pos (Or.inl (bX.mp b2))]
            exact ⟨fun w => absurd (w.trans b2) a2, fun w => by omega⟩
          · have b2' : lb h b ≠ slb h s := fun w => b2 (bX.mpr w)
            rw [if_neg (show ¬ (lb h b = slb h s ∨ lb h b = lb h m) by omega)]
            exact ab
  · rw [add_slb H hs hm hX hY ht, mrg_4 X4 Y4]; exact (i3 t ht).1
  · have t4 : slb h0 t < 4 := by have := h40 t; omega
    rw [add_slb H hs hm hX hY ht, (i3 t ht).2 q, l' _ t4]
def rtI (g : Nat → Nat) (a : Nat) : Nat := if lb g a = a then 1 else 0
/-- every pick takes a bundle away -/
theorem bm_s {h h' : Nat → Nat} {s m : Nat} (H : hadd h h' s m) (hs : s < 12) (hm : m < 4) (hX : slb h s ≠ 4) (hY : lb h m ≠ 4) (hXY : slb h s ≠ lb h m) (hfX : lb h (slb h s) = slb h s) : 2 ≤ bmN h 4 ∧ bmN h' 4 + 1 = bmN h 4 := by
  have X4 : slb h s < 4 := by have := slb_le4 h s; omega
  have Y4 : lb h m < 4 := by have := lb_le4 h m; omega
  have hfY : lb h (lb h m) = lb h m := lb_lb hm Y4
  have l' : ∀ a, a < 4 → lb h' a = mrg (slb h s) (lb h m) (lb h a) := fun a ha => add_lb H hs hm hX hY ha
  have e : ∀ g : Nat → Nat, bmN g 4 = rtI g 0 + rtI g 1 + rtI g 2 + rtI g 3 := by
    intro g
    unfold bmN bmN bmN bmN bmN rtI
    by_cases q0 : lb g 0 = 0 <;> by_cases q1 : lb g 1 = 1 <;> by_cases q2 : lb g 2 = 2 <;> by_cases q3 : lb g 3 = 3 <;> simp [q0, q1, q2, q3]
  have hr : ∀ a, a < 4 → a ≠ max (slb h s) (lb h m) → rtI h' a = rtI h a := by
    intro a ha hne
    unfold rtI
    rw [l' a ha]
    unfold mrg
    by_cases q : lb h a = slb h s ∨ lb h a = lb h m
    · rw [if_pos q]
      by_cases q2 : lb h a = a
      · rw [if_pos q2, if_pos (by rw [Nat.min_def]; rw [Nat.max_def] at hne; split <;> (split at hne <;> omega))]
      · rw [if_neg q2]
        refine if_neg (fun w => q2 ?_)
        rw [Nat.min_def] at w
        split at w
        · rw [← w]; exact hfX
        · rw [← w]; exact hfY
    · rw [if_neg q]
  have hM : max (slb h s) (lb h m) < 4 := by rw [Nat.max_def]; split <;> omega
  have hN : min (slb h s) (lb h m) < 4 := by rw [Nat.min_def]; split <;> omega
  have m0 : rtI h' (max (slb h s) (lb h m)) = 0 := by
    unfold rtI
    rw [l' _ hM]
    refine if_neg (fun w => ?_)
    have : lb h (max (slb h s) (lb h m)) = max (slb h s) (lb h m) := by rw [Nat.max_def]; split; exact hfY; exact hfX
    rw [this] at w
    unfold mrg at w
    rw [if_pos (by rw [Nat.max_def]; split <;> simp), Nat.min_def, Nat.max_def] at w
    split at w <;> omega
  have m1 : rtI h (max (slb h s) (lb h m)) = 1 := by
    unfold rtI
    rw [if_pos]
    rw [Nat.max_def]; split; exact hfY; exact hfX
  have m2 : rtI h (min (slb h s) (lb h m)) = 1 := by
    unfold rtI
    rw [if_pos]
    rw [Nat.min_def]; split; exact hfX; exact hfY
  have mn : min (slb h s) (lb h m) < max (slb h s) (lb h m) := by rw [Nat.min_def, Nat.max_def]; split <;> omega
  rw [e h, e h']
  generalize max (slb h s) (lb h m) = M at *
  generalize min (slb h s) (lb h m) = N at *
  have x : (M = 1 ∧ N = 0) ∨ (M = 2 ∧ N = 0) ∨ (M = 2 ∧ N = 1) ∨ (M = 3 ∧ N = 0) ∨ (M = 3 ∧ N = 1) ∨ (M = 3 ∧ N = 2) := by omega
  rcases x with ⟨x, y⟩ | ⟨x, y⟩ | ⟨x, y⟩ | ⟨x, y⟩ | ⟨x, y⟩ | ⟨x, y⟩ <;> subst x <;> subst y
  · have := hr 0 (by omega) (by omega); have := hr 2 (by omega) (by omega); have := hr 3 (by omega) (by omega); omega
  · have := hr 0 (by omega) (by omega); have := hr 1 (by omega) (by omega); have := hr 3 (by omega) (by omega); omega
  · have := hr 0 (by omega) (by omega); have := hr 1 (by omega) (by omega); have := hr 3 (by omega) (by omega); omega
  · have := hr 0 (by omega) (by omega); have := hr 1 (by omega) (by omega); have := hr 2 (by omega) (by omega); omega
  · have := hr 0 (by omega) (by omega); have := hr 1 (by omega) (by omega); have := hr 2 (by omega) (by omega); omega
  · have := hr 0 (by omega) (by omega); have := hr 1 (by omega) (by omega); have := hr 2 (by omega) (by omega); omega
def aTied (σ : PS) (x : Int32) : Int32 := if x < -1 then -2 else if tpk σ.2.1 (tD σ.2.1 (cc σ.1) 0) = 48 then (if x = -1 then tC σ.2.1 (cc σ.1) 0 else -1) else if x = nI 0 then nI (tpk σ.2.1 (tD σ.2.1 (cc σ.1) 0)) else if tpk σ.2.1 (tD σ.2.1 (cc σ.1) 1) = 48 then (if x = -1 then tC σ.2.1 (cc σ.1) 1 else -1) else if x = nI 1 then nI (tpk σ.2.1 (tD σ.2.1 (cc σ.1) 1)) else if tpk σ.2.1 (tD σ.2.1 (cc σ.1) 2) = 48 then (if x = -1 then tC σ.2.1 (cc σ.1) 2 else -1) else if x = nI 2 then nI (tpk σ.2.1 (tD σ.2.1 (cc σ.1) 2)) else (if x = -1 then tC σ.2.1 (cc σ.1) 3 else -1)
theorem t_add {pr c : Nat → Int32} (h : tpk pr c ≠ 48) : hadd (hnd c) (hnd (va_up c (tpk pr c) 0)) (tpk pr c / 4) (tpk pr c % 4) := by
  have := hadd_c (c := c) (s := tpk pr c / 4) (m := tpk pr c % 4) (by omega)
  rw [show 4 * (tpk pr c / 4) + tpk pr c % 4 = tpk pr c by omega] at this
  exact this
theorem t_bm {pr c : Nat → Int32} (h : tpk pr c ≠ 48) : 2 ≤ bmN (hnd c) 4 ∧ bmN (hnd (va_up c (tpk pr c) 0)) 4 + 1 = bmN (hnd c) 4 := by
  obtain ⟨h1, h2, h3, h4⟩ := tpk_ok h
  exact bm_s (t_add h) (by omega) (by omega) h2 h3 h4 (slb_fix (by omega) h2).2
/-- after three picks all is tied -/
theorem t_end {pr c : Nat → Int32} (h0 : tpk pr (tD pr c 0) ≠ 48) (h1 : tpk pr (tD pr c 1) ≠ 48) (h2 : tpk pr (tD pr c 2) ≠ 48) : tpk pr (tD pr c 3) = 48 := by
  refine Classical.byContradiction (fun h3 => ?_)
  have a0 := (t_bm h0).2
  have a1 := (t_bm h1).2
  have a2 := (t_bm h2).2
  have a3 := (t_bm h3).1
  have b0 := bmN_le (hnd (tD pr c 0)) 4
  change bmN (hnd (tD pr c 1)) 4 + 1 = _ at a0
  change bmN (hnd (tD pr c 2)) 4 + 1 = _ at a1
  change bmN (hnd (tD pr c 3)) 4 + 1 = _ at a2
  omega
