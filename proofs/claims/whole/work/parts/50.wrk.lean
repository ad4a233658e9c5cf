/-! marks as plain numbers; CONTRACTS: works -/
/-- marks are none or 0 .. 100 -/
def MK (c : Nat → Int32) : Prop := ∀ k, k < 48 → c k = -1 ∨ ∃ v, v ≤ 100 ∧ c k = nI v
def mvN (x : Int32) : Nat := if x = -1 then 0 else x.toInt.toNat
theorem mvN_m1 : mvN (-1) = 0 := rfl
theorem mvN_nI {v : Nat} (h : v < 2 ^ 31) : mvN (nI v) = v := by
  unfold mvN
  rw [if_neg (nI_m1 h), nI_toInt h]
  omega
theorem MK_v {c : Nat → Int32} (hM : MK c) {k : Nat} (hk : k < 48) : mvN (c k) ≤ 100 ∧ (c k ≠ -1 → c k = nI (mvN (c k))) := by
  rcases hM k hk with q | ⟨v, hv, q⟩
  · rw [q]; exact ⟨by decide, fun w => absurd rfl w⟩
  · rw [q, mvN_nI (by omega)]; exact ⟨hv, fun _ => rfl⟩
def smN (c : Nat → Int32) (s : Nat) : Nat := mvN (c (4 * s + 0)) + mvN (c (4 * s + 1)) + mvN (c (4 * s + 2)) + mvN (c (4 * s + 3))
theorem smN_le {c : Nat → Int32} (hM : MK c) {s : Nat} (hs : s < 12) : smN c s ≤ 400 := by
  have h0 := (MK_v hM (k := 4 * s + 0) (by omega)).1
  have h1 := (MK_v hM (k := 4 * s + 1) (by omega)).1
  have h2 := (MK_v hM (k := 4 * s + 2) (by omega)).1
  have h3 := (MK_v hM (k := 4 * s + 3) (by omega)).1
  unfold smN
  omega
theorem mv_if {c : Nat → Int32} (hM : MK c) {k : Nat} (hk : k < 48) : (if c k = -1 then nI 0 else c k) = nI (mvN (c k)) := by
  split
  · rename_i q; rw [q]; rfl
  · rename_i q; exact (MK_v hM hk).2 q
theorem mv_mx {c : Nat → Int32} (hM : MK c) {k : Nat} (hk : k < 48) : mx0 (c k) = nI (mvN (c k)) := by
  unfold mx0
  rcases hM k hk with q | ⟨v, hv, q⟩
  · rw [q]; decide
  · rw [q, mvN_nI (by omega)]
    split
    · rfl
    · rename_i w
      rw [nI_ltI (by omega) (by omega)] at w
      have : v = 0 := by omega
      rw [this]
theorem suF_z {c : Nat → Int32} (hM : MK c) {s : Nat} (hs : s < 12) : suF c s 4 = nI (smN c s) := by
  simp only [suF, mv_if hM (show 4 * s + 0 < 48 by omega), mv_if hM (show 4 * s + 1 < 48 by omega), mv_if hM (show 4 * s + 2 < 48 by omega), mv_if hM (show 4 * s + 3 < 48 by omega), nI_add, Nat.zero_add]
  rfl
theorem sumL_z {c : Nat → Int32} (hM : MK c) {s : Nat} (hs : s < 12) : sumL c s = zL (smN c s) := by
  have h0 := (MK_v hM (k := 4 * s + 0) (by omega)).1
  have h1 := (MK_v hM (k := 4 * s + 1) (by omega)).1
  have h2 := (MK_v hM (k := 4 * s + 2) (by omega)).1
  have h3 := (MK_v hM (k := 4 * s + 3) (by omega)).1
  unfold sumL
  rw [mv_mx hM (by omega), mv_mx hM (by omega), mv_mx hM (by omega), mv_mx hM (by omega), nI_l (by omega), nI_l (by omega), nI_l (by omega), nI_l (by omega), lN_zL, lN_zL, lN_zL, lN_zL, zL_0, zL_add, zL_add, zL_add, zL_add]
  congr 1
  unfold smN
  omega
/-- what feeds the equation of marker m, the first n scripts looked at -/
def fdZ (c : Nat → Int32) (m : Nat) : Nat → Int
  | 0 => 0
  | s + 1 => fdZ c m s + (if c (4 * s + m) = -1 then 0 else (shr (hnd c s) : Int) * smN c s - 12 * mvN (c (4 * s + m)))
theorem shr_sm {c : Nat → Int32} (hM : MK c) {s : Nat} (hs : s < 12) : shr (hnd c s) * smN c s ≤ 1200 := by
  have key : ∀ x, x < 16 → shr x * pop x ≤ 12 := by decide +kernel
  have k2 : smN c s ≤ 100 * pop (hnd c s) := by
    rw [← msF_pop]
    have h0 := (MK_v hM (k := 4 * s + 0) (by omega)).1
    have h1 := (MK_v hM (k := 4 * s + 1) (by omega)).1
    have h2 := (MK_v hM (k := 4 * s + 2) (by omega)).1
    have h3 := (MK_v hM (k := 4 * s + 3) (by omega)).1
    have z : ∀ x : Int32, x = -1 → mvN x = 0 := fun x e => by rw [e]; rfl
    unfold smN
    simp only [msF]
    by_cases q0 : c (4 * s + 0) = -1 <;> by_cases q1 : c (4 * s + 1) = -1 <;> by_cases q2 : c (4 * s + 2) = -1 <;> by_cases q3 : c (4 * s + 3) = -1 <;> simp only [q0, q1, q2, q3, ↓reduceIte, mvN_m1] at * <;> omega
  have := key _ (hnd_lt c s)
  calc shr (hnd c s) * smN c s ≤ shr (hnd c s) * (100 * pop (hnd c s)) := Nat.mul_le_mul_left _ k2
    _ = 100 * (shr (hnd c s) * pop (hnd c s)) := by rw [Nat.mul_left_comm]
    _ ≤ 1200 := by omega
theorem fdZ_bd {c : Nat → Int32} (hM : MK c) {m : Nat} (hm : m < 4) : ∀ n, n ≤ 12 → bd (fdZ c m n) (1200 * n)
  | 0, _ => Nat.le_refl _
  | n + 1, hn => by
    have ih := fdZ_bd hM hm n (by omega)
    have h1 := (MK_v hM (k := 4 * n + m) (by omega)).1
    have h2 := shr_sm hM (s := n) (by omega)
    unfold bd at *
    unfold fdZ
    split
    · omega
    · have e : (shr (hnd c n) : Int) * smN c n = ((shr (hnd c n) * smN c n : Nat) : Int) := by rw [Int.natCast_mul]
      rw [e]
      omega
theorem fd_bd {c : Nat → Int32} (hM : MK c) {m : Nat} (hm : m < 4) : bd (fdZ c m 12) 100000 := bd_le (fdZ_bd hM hm 12 (Nat.le_refl _)) (by decide)
/-- a script's worth in the reference -/
def woF (c : Nat → Int32) (ov : Int) (lev : Nat → Int) (s : Nat) : Nat → Int
  | 0 => 0
  | m + 1 => woF c ov lev s m + (if c (4 * s + m) = -1 then 0 else (mvN (c (4 * s + m)) : Int) * ov + lev m)
def woZ (c : Nat → Int32) (ov : Int) (lev : Nat → Int) (s : Nat) : Int := woF c ov lev s 4 * shr (hnd c s)
theorem i2lM {c : Nat → Int32} (hM : MK c) {k : Nat} (hk : k < 48) (h : c k ≠ -1) : (c k).toInt64 = zL (mvN (c k)) := by
  obtain ⟨h1, h2⟩ := MK_v hM hk
  have e := h2 h
  rw [← lN_zL, ← nI_l (by omega), ← e]
theorem div12 {p : Nat} (h : 0 < p) (hp : p ≤ 12) : (12 : Int64) / lN p = zL (12 / p : Nat) := by
  have h : ∀ p, p < 13 → 0 < p → (12 : Int64) / lN p = zL (12 / p : Nat) := by decide +kernel
  exact h p (by omega) (by assumption)
section WRK
variable {I : ab_I} {J : ab_J} {Q : Option Value → ab_I → ab_J → Prop} {x x1 x2 : Int32} {u : Int64}
set_option maxRecDepth 100000 in
theorem s146_100 {c : Nat → Int32} {b : Nat} {ov : Int} {lev : Nat → Int} {a2 a3 a4 a5 a6 : Option Value} (hc : I 55 = c) (hM : MK c) (hb : b < 4) (hL : ∀ k, k < 16 → I 57 k = enc (LB (hnd c) k)) (ho : J 49 14 = zL ov) (hl : ∀ m, m < 4 → J 61 m = zL (lev m))
    (hQ : ∀ J' : ab_J, ((∀ k, k < 49 → J' k = J k) ∧ (∀ j, j ≠ 17 → J' 49 j = J 49 j) ∧ J' 49 17 = zL (12 * ov) ∧ (∀ m, m < 4 → J' 62 m = zL (12 * lev m)) ∧ ∀ s, s < 12 → slb (hnd c) s = b → J' 63 s = zL (woZ c ov lev s)) → Q none I J') : At 146 100 [some (.ref 49), some (.int (nI b)), a2, a3, a4, a5, a6] [] I J Q := by
  simp (disch := omega) only [k146_100, k146_101, k146_104, k146_105, k146_108, k146_109, k146_112, k146_113, Option.toList_some, Option.toList_none, List.cons_append, List.nil_append, nl_i, nl_r, nl_l, nl_n, ho, zL_12, zL_mul]
  have lb1 : At 146 114 [some (.ref 49), some (.int (nI b)), some (.int (nI 0)), a3, a4, a5, a6] [] I (va_up (va_up J 49 (va_up (J 49) 17 (zL (12 * ov)))) 62 (fll (fun m => zL (12 * lev m)) (J 62) 0)) Q := by
    refine loop_dn (N := 4) (P := fun m => At 146 114 [some (.ref 49), some (.int (nI b)), some (.int (nI m)), a3, a4, a5, a6] [] I (va_up (va_up J 49 (va_up (J 49) 17 (zL (12 * ov)))) 62 (fll (fun m => zL (12 * lev m)) (J 62) m)) Q) ?_ ?_
    · rw [k146_114]
      simp (disch := omega) only [k146_115, k146_116, k146_141, k146_142, Option.toList_some, Option.toList_none, List.cons_append, List.nil_append, nl_i, nl_r, nl_l, nl_n, nI_leI, Nat.le_refl, ↓reduceIte]
      have lc : ∀ a3 a4 a5 a6 : Option Value, At 146 143 [some (.ref 49), some (.int (nI b)), some (.int (nI 0)), a3, a4, a5, a6] [] I (va_up (va_up (va_up J 49 (va_up (J 49) 17 (zL (12 * ov)))) 62 (fll (fun m => zL (12 * lev m)) (J 62) 4)) 63 (fll (fun s => if slb (hnd c) s = b then zL (woZ c ov lev s) else 0) (J 63) 0)) Q := by
        refine loop_dn (N := 12) (P := fun s => ∀ a3 a4 a5 a6 : Option Value, At 146 143 [some (.ref 49), some (.int (nI b)), some (.int (nI s)), a3, a4, a5, a6] [] I (va_up (va_up (va_up J 49 (va_up (J 49) 17 (zL (12 * ov)))) 62 (fll (fun m => zL (12 * lev m)) (J 62) 4)) 63 (fll (fun s => if slb (hnd c) s = b then zL (woZ c ov lev s) else 0) (J 63) s)) Q) ?_ ?_
        · intro a3 a4 a5 a6
          rw [k146_143]
          simp (disch := omega) only [k146_144, k146_146, k146_251, nI_leI, Nat.le_refl, ↓reduceIte]
          refine hQ _ ⟨fun k hk => ?_, fun j hj => ?_, ?_, fun m hm => ?_, fun s hs hsl => ?_⟩
          · simp (disch := omega) only [up_ne]
          · simp (disch := omega) only [up_ne, va_up_s]
          · simp (disch := omega) only [up_ne, va_up_s]
          · simp (disch := omega) only [up_ne, va_up_s, fll_lt]
          · simp (disch := omega) only [va_up_s, fll_lt, hsl, ↓reduceIte]
        · intro s hs ih a3 a4 a5 a6
          have e0 : ¬ 12 ≤ s := by omega
          have hLs := hL s (by omega)
          have hLB : LB (hnd c) s = slb (hnd c) s := by unfold LB; rw [if_pos hs]
          rw [hLB] at hLs
          have henc : (enc (slb (hnd c) s) = nI b) = (slb (hnd c) s = b) := by rw [← enc_lt hb]; exact enc_eq (slb_le4 _ _) (by omega)
          rw [k146_143]
          simp (disch := omega) only [k146_144, k146_146, k146_149, k146_150, k146_153, k146_154, k146_155, k146_156, k146_157, k146_160, k146_161, k146_162, k146_163, Option.toList_some, Option.toList_none, List.cons_append, List.nil_append, nl_i, nl_r, nl_l, nl_n, nI_leI, e0, ↓reduceIte, nI_clamp, bnd, ly_57, ly_63, Nat.reduceLT, true_and, and_true, hLs, henc, va_up_s, up_same]
          by_cases hlab : slb (hnd c) s = b
          · rw [if_neg (show ¬ ¬ slb (hnd c) s = b from fun q => q hlab)]
            have hpop : 0 < pop (hnd c s) := by
              refine Nat.pos_of_ne_zero (fun q => ?_)
              have := (slb_4 hs (hnd_lt c s)).mpr ((pop_0 _ (hnd_lt c s)).mp q)
              omega
            have hpl := pop_le (hnd c s)
            have hshr : shr (hnd c s) = 12 / pop (hnd c s) := by unfold shr; rw [if_neg (by omega)]
            simp (disch := omega) only [k146_166, k146_167, k146_168, k146_171, k146_172, k146_173, k146_175, k146_176, Option.toList_some, Option.toList_none, List.cons_append, List.nil_append, nl_i, nl_r, nl_l, nl_n, c143 hs, hc, msF_pop]
            have ml : At 146 178 [some (.ref 49), some (.int (nI b)), some (.int (nI s)), some (.int (nI (pop (hnd c s)))), some (.long (zL (woF c ov lev s 0))), none, some (.int (nI 0))] [] I (va_up (va_up (va_up J 49 (va_up (J 49) 17 (zL (12 * ov)))) 62 (fll (fun m => zL (12 * lev m)) (J 62) 4)) 63 (va_up (fll (fun s => if slb (hnd c) s = b then zL (woZ c ov lev s) else 0) (J 63) s) s 0)) Q := by
              refine loop_dn (N := 4) (P := fun m => At 146 178 [some (.ref 49), some (.int (nI b)), some (.int (nI s)), some (.int (nI (pop (hnd c s)))), some (.long (zL (woF c ov lev s m))), none, some (.int (nI m))] [] I (va_up (va_up (va_up J 49 (va_up (J 49) 17 (zL (12 * ov)))) 62 (fll (fun m => zL (12 * lev m)) (J 62) 4)) 63 (va_up (fll (fun s => if slb (hnd c) s = b then zL (woZ c ov lev s) else 0) (J 63) s) s 0)) Q) ?_ ?_
              · have e9 := fll_s (fun s => if slb (hnd c) s = b then zL (woZ c ov lev s) else 0) (J 63) s
                rw [if_pos hlab] at e9
                have e8 : zL (woF c ov lev s 4) * zL ((shr (hnd c s) : Nat) : Int) = zL (woZ c ov lev s) := zL_mul _ _
                rw [k146_178]
                simp (disch := omega) only [k146_180, k146_181, k146_231, k146_232, k146_235, k146_236, k146_238, k146_240, k146_241, k146_242, k146_243, k146_244, k146_245, k146_248, Option.toList_some, Option.toList_none, List.cons_append, List.nil_append, nl_i, nl_r, nl_l, nl_n, nI_leI, Nat.le_refl, ↓reduceIte, eq0, show ¬ pop (hnd c s) = 0 by omega, not_false_eq_true, idiv12, ← hshr, lN_zL, e8, nI_clamp, bnd, ly_63, Nat.reduceLT, true_and, and_true, va_up_s, up_same, nI_add, e9]
                exact ih _ _ _ _
              · intro m hm ih2
                have e1 : ¬ 4 ≤ m := by omega
                have hlm := hl m hm
                rw [woF] at ih2
                rw [k146_178]
                simp (disch := omega) only [k146_180, k146_181, k146_184, k146_186, k146_187, k146_188, k146_190, k146_193, k146_194, Option.toList_some, Option.toList_none, List.cons_append, List.nil_append, nl_i, nl_r, nl_l, nl_n, nI_leI, e1, ↓reduceIte, c140 hs hm, hc]
                by_cases q1 : c (4 * s + m) = -1
                · rw [if_pos q1] at ih2
                  rw [if_neg (show ¬ ¬ c (4 * s + m) = -1 from fun w => w q1)]
                  simp (disch := omega) only [k146_197, k146_198, k146_222, k146_223, k146_225, k146_228, Option.toList_some, Option.toList_none, List.cons_append, List.nil_append, nl_i, nl_r, nl_l, nl_n, zL_0, zL_add, nI_add]
                  rw [← zL_0]
                  exact ih2
                · rw [if_neg q1] at ih2
                  rw [if_pos q1]
                  simp (disch := omega) only [k146_201, k146_202, k146_203, k146_205, k146_208, k146_209, k146_210, k146_213, k146_214, k146_215, k146_218, k146_220, k146_221, k146_222, k146_223, k146_225, k146_228, Option.toList_some, Option.toList_none, List.cons_append, List.nil_append, nl_i, nl_r, nl_l, nl_n, c140 hs hm, hc, i2lM hM (show 4 * s + m < 48 by omega) q1, nI_clamp, bnd, ly_61, Nat.reduceLT, true_and, and_true, up_ne, va_up_s, ho, hlm, zL_mul, zL_add, nI_add]
                  exact ih2
            exact ml
          · rw [if_pos hlab]
            have e9 := fll_s (fun s => if slb (hnd c) s = b then zL (woZ c ov lev s) else 0) (J 63) s
            rw [if_neg hlab] at e9
            simp (disch := omega) only [k146_245, k146_248, Option.toList_some, Option.toList_none, List.cons_append, List.nil_append, nl_i, nl_r, nl_l, nl_n, nI_add, e9]
            exact ih _ _ _ _
      have lc := lc a3 a4 a5 a6
      rw [fll_0] at lc
      have e2 := up_id (va_up (va_up J 49 (va_up (J 49) 17 (zL (12 * ov)))) 62 (fll (fun m => zL (12 * lev m)) (J 62) 4)) 63
      rw [up_ne _ _ (by omega), up_ne _ _ (by omega)] at e2
      rw [e2] at lc
      exact lc
    · intro m hm ih
      have e0 : ¬ 4 ≤ m := by omega
      have hlm := hl m hm
      rw [← fll_s] at ih
      rw [k146_114]
      simp (disch := omega) only [k146_115, k146_116, k146_119, k146_120, k146_123, k146_124, k146_127, k146_128, k146_131, k146_132, k146_133, k146_134, k146_135, k146_138, Option.toList_some, Option.toList_none, List.cons_append, List.nil_append, nl_i, nl_r, nl_l, nl_n, nI_leI, e0, ↓reduceIte, nI_clamp, bnd, ly_61, ly_62, Nat.reduceLT, true_and, and_true, up_ne, va_up_s, up_same, hlm, zL_12, zL_mul, nI_add]
      exact ih
  rw [fll_0] at lb1
  have e2 := up_id (va_up J 49 (va_up (J 49) 17 (zL (12 * ov)))) 62
  rw [up_ne _ _ (by omega)] at e2
  rw [e2] at lb1
  exact lb1
set_option maxRecDepth 100000 in
theorem c146 {c : Nat → Int32} {b : Nat} (hc : I 55 = c) (hM : MK c) (hb : b < 4) (hL : ∀ k, k < 16 → I 57 k = enc (LB (hnd c) k)) (hbb : lb (hnd c) b = b) :
    ∃ (a' : Nat → Int32) (J' : ab_J) (K ov : Int) (lev : Nat → Int), Solved (hnd c) b (fun m => fdZ c m 12) K ov lev ∧ ((∀ k, k < 49 → J' k = J k) ∧ (∀ j, j ≠ 14 → j ≠ 17 → J' 49 j = J 49 j) ∧ J' 49 17 = zL (12 * ov) ∧ (∀ m, m < 4 → J' 62 m = zL (12 * lev m)) ∧ ∀ s, s < 12 → slb (hnd c) s = b → J' 63 s = zL (woZ c ov lev s)) ∧ ∀ Q : Option Value → ab_I → ab_J → Prop, Cal 146 [.ref 49, .int (nI b)] I J Q ↔ Q none (va_up I 58 a') J' := by
  have main : ∀ Q : Option Value → ab_I → ab_J → Prop, (∀ v I' J', (∃ (a' : Nat → Int32) (K ov : Int) (lev : Nat → Int), Solved (hnd c) b (fun m => fdZ c m 12) K ov lev ∧ ((∀ k, k < 49 → J' k = J k) ∧ (∀ j, j ≠ 14 → j ≠ 17 → J' 49 j = J 49 j) ∧ J' 49 17 = zL (12 * ov) ∧ (∀ m, m < 4 → J' 62 m = zL (12 * lev m)) ∧ ∀ s, s < 12 → slb (hnd c) s = b → J' 63 s = zL (woZ c ov lev s)) ∧ v = none ∧ I' = va_up I 58 a') → Q v I' J') → Cal 146 [.ref 49, .int (nI b)] I J Q := by
    intro Q hQ
    rw [en146]
    simp only [k146_0, k146_1, Option.toList_some, Option.toList_none, List.cons_append, List.nil_append, nl_i, nl_r, nl_l, nl_n]
    have key : ∀ a3 : Option Value, At 146 2 [some (.ref 49), some (.int (nI b)), some (.int (nI 0)), a3, none, none, none] [] I (va_up J 60 (fll (fun m => if lb (hnd c) m = b then zL (fdZ c m 12) else 0) (J 60) 0)) Q := by
      refine loop_dn (N := 4) (P := fun m => ∀ a3 : Option Value, At 146 2 [some (.ref 49), some (.int (nI b)), some (.int (nI m)), a3, none, none, none] [] I (va_up J 60 (fll (fun m => if lb (hnd c) m = b then zL (fdZ c m 12) else 0) (J 60) m)) Q) ?_ ?_
      · intro a3
        rw [k146_2]
        simp (disch := omega) only [k146_3, k146_4, k146_95, k146_96, k146_97, nI_leI, Nat.le_refl, ↓reduceIte]
        obtain ⟨a', t', l', K, ov, lev, ⟨hS, hl⟩, hcal⟩ := c145 (I := I) (J := va_up J 60 (fll (fun m => if lb (hnd c) m = b then zL (fdZ c m 12) else 0) (J 60) 4)) (fz := fun m => fdZ c m 12) hc hb hL hbb (fun m hm hlm => by rw [va_up_s, fll_lt hm]; exact if_pos hlm) (fun m hm => fd_bd hM hm)
        rw [hcal]
        simp (disch := omega) only [Option.toList_some, Option.toList_none, List.cons_append, List.nil_append, nl_i, nl_r, nl_l, nl_n, up_ne, va_up_s]
        refine s146_100 (c := c) (ov := ov) (lev := lev) ?_ hM hb ?_ ?_ ?_ ?_
        · rw [up_ne _ _ (by omega)]; exact hc
        · intro k hk
          rw [up_ne _ _ (by omega)]
          exact hL k hk
        · simp (disch := omega) only [up_ne, va_up_s]
        · intro m hm
          rw [va_up_s]
          exact hl m hm
        · rintro J' ⟨j1, j2, j3, j4, j5⟩
          refine hQ _ _ _ ⟨a', K, ov, lev, hS, ⟨fun k hk => ?_, fun j hj1 hj2 => ?_, j3, j4, j5⟩, rfl, rfl⟩
          · rw [j1 k hk]
            simp (disch := omega) only [up_ne]
          · rw [j2 j hj2]
            simp (disch := omega) only [up_ne, va_up_s]
      · intro m hm ih a3
        have e0 : ¬ 4 ≤ m := by omega
        have hLm := hL (12 + m) (by omega)
        have hLB : LB (hnd c) (12 + m) = lb (hnd c) m := by unfold LB; rw [if_neg (by omega), show 12 + m - 12 = m by omega]
        rw [hLB] at hLm
        have henc : (enc (lb (hnd c) m) = nI b) = (lb (hnd c) m = b) := by rw [← enc_lt hb]; exact enc_eq (lb_le4 _ _) (by omega)
        rw [k146_2]
        simp (disch := omega) only [k146_3, k146_4, k146_7, k146_8, k146_11, k146_12, k146_13, k146_14, k146_15, Option.toList_some, Option.toList_none, List.cons_append, List.nil_append, nl_i, nl_r, nl_l, nl_n, nI_leI, e0, ↓reduceIte, nI_clamp, bnd, ly_60, Nat.reduceLT, true_and, and_true, va_up_s, up_same]
        have e9 := fll_s (fun m => if lb (hnd c) m = b then zL (fdZ c m 12) else 0) (J 60) m
        by_cases hlab : lb (hnd c) m = b
        · rw [if_pos hlab] at e9
          have henc' : (enc (lb (hnd c) m) = nI b) = True := eq_true (henc.mpr hlab)
          have sl : At 146 16 [some (.ref 49), some (.int (nI b)), some (.int (nI m)), some (.int (nI 0)), none, none, none] [] I (va_up J 60 (va_up (fll (fun m => if lb (hnd c) m = b then zL (fdZ c m 12) else 0) (J 60) m) m (zL (fdZ c m 0)))) Q := by
            refine loop_dn (N := 12) (P := fun s => At 146 16 [some (.ref 49), some (.int (nI b)), some (.int (nI m)), some (.int (nI s)), none, none, none] [] I (va_up J 60 (va_up (fll (fun m => if lb (hnd c) m = b then zL (fdZ c m 12) else 0) (J 60) m) m (zL (fdZ c m s)))) Q) ?_ ?_
            · rw [k146_16]
              simp (disch := omega) only [k146_17, k146_19, k146_89, k146_92, Option.toList_some, Option.toList_none, List.cons_append, List.nil_append, nl_i, nl_r, nl_l, nl_n, nI_leI, Nat.le_refl, ↓reduceIte, nI_add, e9]
              exact ih _
            · intro s hs ih2
              have e1 : ¬ 12 ≤ s := by omega
              rw [fdZ] at ih2
              rw [k146_16]
              simp (disch := omega) only [k146_17, k146_19, k146_22, k146_23, k146_26, k146_28, k146_29, k146_30, k146_31, k146_32, k146_35, k146_36, k146_37, k146_38, k146_41, k146_42, Option.toList_some, Option.toList_none, List.cons_append, List.nil_append, nl_i, nl_r, nl_l, nl_n, nI_leI, e1, ↓reduceIte, nI_add, nI_clamp, bnd, ly_57, Nat.reduceLT, true_and, and_true, hLm, henc', not_true_eq_false, c140 hs hm, hc]
              by_cases q1 : c (4 * s + m) = -1
              · rw [if_pos q1, Int.add_zero] at ih2
                rw [if_pos q1]
                simp (disch := omega) only [k146_83, k146_86, Option.toList_some, Option.toList_none, List.cons_append, List.nil_append, nl_i, nl_r, nl_l, nl_n, nI_add]
                exact ih2
              · rw [if_neg q1] at ih2
                rw [if_neg q1]
                have hb1 : (hnd c s).testBit m = true := by rw [hnd_bit c s hm]; exact decide_eq_true q1
                have hpop : 0 < pop (hnd c s) := by
                  refine Nat.pos_of_ne_zero (fun q => ?_)
                  rw [(pop_0 _ (hnd_lt c s)).mp q] at hb1
                  simp at hb1
                have hpl := pop_le (hnd c s)
                have hshr : shr (hnd c s) = 12 / pop (hnd c s) := by unfold shr; rw [if_neg (by omega)]
                have hpz : ¬ lN (pop (hnd c s)) = 0 := by rw [lN_zL, zL_0, zL_eq (okN (by omega)) ok_0]; omega
                have d12 := div12 hpop (by omega)
                rw [← hshr, zL_12] at d12
                have hsm := smN_le hM hs
                simp (disch := omega) only [k146_45, k146_46, k146_49, k146_50, k146_51, k146_52, k146_55, k146_56, k146_57, k146_60, k146_61, k146_62, k146_63, k146_64, k146_67, k146_68, k146_69, k146_72, k146_73, k146_74, k146_75, k146_78, k146_79, k146_80, k146_81, k146_82, k146_83, k146_86, Option.toList_some, Option.toList_none, List.cons_append, List.nil_append, nl_i, nl_r, nl_l, nl_n, nI_clamp, bnd, ly_60, Nat.reduceLT, true_and, and_true, va_up_s, up_same, c143 hs, c147 hs, c140 hs hm, hc, msF_pop, suF_z hM hs, nI_l, hpz, not_false_eq_true, d12, lN_zL (smN c s), zL_12, i2lM hM (show 4 * s + m < 48 by omega) q1, zL_mul, zL_sub, zL_add, nI_add]
                exact ih2
          exact sl
        · rw [if_neg hlab] at e9
          rw [e9]
          simp (disch := omega) only [k146_16, k146_17, k146_19, k146_22, k146_23, k146_26, k146_28, k146_29, k146_30, k146_31, k146_32, k146_89, k146_92, Option.toList_some, Option.toList_none, List.cons_append, List.nil_append, nl_i, nl_r, nl_l, nl_n, nI_leI, Nat.reduceLeDiff, ↓reduceIte, nI_add, nI_clamp, bnd, ly_57, Nat.reduceLT, true_and, and_true, hLm, henc, hlab, not_false_eq_true]
          exact ih _
    have key := key none
    rw [fll_0, up_id] at key
    exact key
  obtain ⟨v, I', J', ⟨a', K, ov, lev, hS, hJ, rfl, rfl⟩, hc2⟩ := Cal_ex main
  exact ⟨a', J', K, ov, lev, hS, hJ, hc2⟩
end WRK
