/-! doubts as whole numbers -/
/-- what of twelve a script gives to marker m -/
def ps (h : Nat → Nat) (s m : Nat) : Int := if (h s).testBit m then (shr (h s) : Int) else 0
def flC (h : Nat → Nat) (a b j : Nat) : Int := if fre h (j + 1) then ps h a (j + 1) - ps h b (j + 1) else 0
def dzI (A d : Nat → Int) (u : Int) : Nat → Int
  | 0 => u
  | i + 1 => dzI A d u i + d i * A (3 * i + 0) * d 0 + d i * A (3 * i + 1) * d 1 + d i * A (3 * i + 2) * d 2
def dbC (h : Nat → Nat) (a b : Nat) : Int := dzI (fun k => cofZ (Mz h 12) (k / 3) (k % 3)) (flC h a b) (whZ (Mz h 12) * ((shr (h a) : Int) + shr (h b))) 3
theorem ps_bd {h : Nat → Nat} {s m : Nat} (hh : h s < 16) : bd (ps h s m) 12 := by
  unfold ps
  have := shr_le _ hh
  split <;> (unfold bd; omega)
theorem fl_bd {h : Nat → Nat} {a b j : Nat} (ha : h a < 16) (hb : h b < 16) : bd (flC h a b j) 24 := by
  unfold flC
  split
  · exact bd_sub (ps_bd ha) (ps_bd hb)
  · exact Nat.zero_le _
theorem dz_bd {A d : Nat → Int} {u : Int} {U : Nat} (hu : bd u U) (hA : ∀ k, k < 9 → bd (A k) 23328) (hd : ∀ i, i < 3 → bd (d i) 24) : ∀ i, i ≤ 3 → bd (dzI A d u i) (U + i * 40310784)
  | 0, _ => bd_le hu (by omega)
  | i + 1, hi => by
    have ih := dz_bd hu hA hd i (by omega)
    have t : ∀ j, j < 3 → bd (d i * A (3 * i + j) * d j) 13436928 := fun j hj => bd_mul (bd_mul (hd i (by omega)) (hA _ (by omega))) (hd j hj)
    unfold dzI
    exact bd_le (bd_add (bd_add (bd_add ih (t 0 (by decide))) (t 1 (by decide))) (t 2 (by decide))) (by omega)
theorem db_bd {h : Nat → Nat} (hh : ∀ s, s < 12 → h s < 16) {a b : Nat} (ha : a < 12) (hb : b < 12) : bd (dbC h a b) 151165440 := by
  have hP := PD_bd (Mz_PD hh)
  have h1 := shr_le _ (hh a ha)
  have h2 := shr_le _ (hh b hb)
  have hw : bd (whZ (Mz h 12)) 1259712 := by have := hP.2; unfold bd; omega
  refine bd_le (dz_bd (bd_mul (B := 24) hw ?_) hP.1 (fun i _ => fl_bd (hh a ha) (hh b hb)) 3 (Nat.le_refl _)) (by decide)
  unfold bd; omega
theorem db_z {A d : Nat → Int64} {Az dz : Nat → Int} {u : Int64} {uz : Int} (hu : u = zL uz) (hA : ∀ k, k < 9 → A k = zL (Az k)) (hd : ∀ i, i < 3 → d i = zL (dz i)) (hdb : ∀ i, i < 3 → bd (dz i) 24) : ∀ i, i ≤ 3 → dbI A d u i = zL (dzI Az dz uz i)
  | 0, _ => hu
  | i + 1, hi => by
    have ih := db_z hu hA hd hdb i (by omega)
    have e0 : (d i = 0) = (dz i = 0) := by rw [hd i (by omega), zL_0, zL_eq (bd_ok (hdb i (by omega)) (by decide)) ok_0]
    unfold dbI dzI
    by_cases q : dz i = 0
    · rw [if_pos (e0.mpr q), ih, q]
      congr 1
      simp
    · rw [if_neg (fun w => q (e0.mp w)), ih, hd i (by omega), hA _ (by omega), hA _ (by omega), hA _ (by omega), hd 0 (by decide), hd 1 (by decide), hd 2 (by decide)]
      simp only [zL_mul, zL_add]
theorem ps_z {c : Nat → Int32} {S : Nat → Int64} {s j : Nat} (hS : S s = zL (shr (hnd c s) : Nat)) (hj : j < 3) : psh (hnd c) (fC c) S s j = zL (if fre (hnd c) (j + 1) then ps (hnd c) s (j + 1) else 0) := by
  unfold psh ps
  rw [inF_e, fC_bit c (by omega), hS]
  cases fre (hnd c) (j + 1) <;> cases (hnd c s).testBit (j + 1) <;> simp [zL_0]
theorem dfl_z {c : Nat → Int32} {S : Nat → Int64} {a b j : Nat} (hA : S a = zL (shr (hnd c a) : Nat)) (hB : S b = zL (shr (hnd c b) : Nat)) (hj : j < 3) : dfl (hnd c) (fC c) S a b j = zL (flC (hnd c) a b j) := by
  unfold dfl flC
  rw [ps_z hA hj, ps_z hB hj, zL_sub]
  congr 1
  split <;> omega
/-- the worst doubt: amount, pair -/
def wzB (D : Nat → Nat → Int) (a : Nat) (z : Int × Int32 × Int32) : Nat → Int × Int32 × Int32
  | 0 => z
  | k + 1 => if D a (a + 1 + k) ≤ (wzB D a z k).1 then wzB D a z k else (D a (a + 1 + k), nI a, nI (a + 1 + k))
def wzA (D : Nat → Nat → Int) : Nat → Int × Int32 × Int32
  | 0 => (0, -1, -1)
  | a + 1 => wzB D a (wzA D a) (11 - a)
def dzD (h : Nat → Nat) (a b : Nat) : Int := if ¬ slb h a = 4 ∧ slb h a = slb h b then dbC h a b else 0
def wsC (h : Nat → Nat) : Int × Int32 × Int32 := wzA (dzD h) 12
theorem dzD_bd {h : Nat → Nat} (hh : ∀ s, s < 12 → h s < 16) {a b : Nat} (ha : a < 12) (hb : b < 12) : bd (dzD h a b) 151165440 := by
  unfold dzD
  split
  · exact db_bd hh ha hb
  · exact Nat.zero_le _
def toZ (z : Int × Int32 × Int32) : Int64 × Int32 × Int32 := (zL z.1, z.2)
theorem wzB_bd {D : Nat → Nat → Int} {U : Nat} {a : Nat} {z : Int × Int32 × Int32} (ha : a < 12) (hD : ∀ a b, a < 12 → b < 12 → bd (D a b) U) (hz : bd z.1 U) : ∀ k, a + k < 12 → bd (wzB D a z k).1 U
  | 0, _ => hz
  | k + 1, hk => by
    unfold wzB
    split
    · exact wzB_bd ha hD hz k (by omega)
    · exact hD _ _ ha (by omega)
theorem wzA_bd {D : Nat → Nat → Int} {U : Nat} (hD : ∀ a b, a < 12 → b < 12 → bd (D a b) U) : ∀ a, a ≤ 12 → bd (wzA D a).1 U
  | 0, _ => Nat.zero_le _
  | a + 1, ha => by
    unfold wzA
    exact wzB_bd (by omega) hD (wzA_bd hD a (by omega)) _ (by omega)
theorem ws_z {D : Nat → Nat → Int64} {Dz : Nat → Nat → Int} (hD : ∀ a b, a < 12 → b < 12 → D a b = zL (Dz a b)) (hb : ∀ a b, a < 12 → b < 12 → bd (Dz a b) 151165440) : ∀ a, a ≤ 12 → wsA D a = toZ (wzA Dz a)
  | 0, _ => by show ((0 : Int64), _) = _; rw [zL_0]; rfl
  | a + 1, ha => by
    have ih := ws_z hD hb a (by omega)
    unfold wsA wzA
    rw [ih]
    have hz := wzA_bd hb a (by omega)
    generalize wzA Dz a = z at hz ⊢
    have key : ∀ k, a + k < 12 → wsB D a (toZ z) k = toZ (wzB Dz a z k) := by
      intro k
      induction k with
      | zero => intro _; rfl
      | succ k ih2 =>
        intro hk
        have hk2 := ih2 (by omega)
        have hbz := wzB_bd (z := z) (show a < 12 by omega) hb hz k (by omega)
        unfold wsB wzB
        rw [hk2, hD a _ (by omega) (by omega)]
        have e : (zL (Dz a (a + 1 + k)) ≤ (toZ (wzB Dz a z k)).1) = (Dz a (a + 1 + k) ≤ (wzB Dz a z k).1) := zL_le (bd_ok (hb _ _ (by omega) (by omega)) (by decide)) (bd_ok hbz (by decide))
        by_cases q : Dz a (a + 1 + k) ≤ (wzB Dz a z k).1
        · rw [if_pos (e.mpr q), if_pos q]
        · rw [if_neg (fun w => q (e.mp w)), if_neg q]
          rfl
    exact key _ (by omega)
section DBT
variable {I : ab_I} {J : ab_J} {Q : Option Value → ab_I → ab_J → Prop} {x x1 x2 : Int32} {u : Int64}
theorem d33_5 {c : Nat → Int32} {a b : Nat} (hT : TieOK 5 c I J) (ha : a < 12) (hb : b < 12) : Cal 33 [.ref 5, .int (nI a), .int (nI b)] I J Q ↔ Q (some (.long (zL (dbC (hnd c) a b)))) I J := by
  obtain ⟨t1, t2, t3, t4, t5, t6, t7, t8, t9⟩ := hT
  rw [c33_5 (h := hnd c) (f := fC c) (S := J 8) (A := J 13) t7 (fun s hs => ⟨t2 s hs, hnd_lt c s⟩) rfl rfl ha hb]
  rw [db_z (Az := adC c) (dz := flC (hnd c) a b) (uz := whC c * ((shr (hnd c a) : Int) + shr (hnd c b))) (by rw [t9, t3 a ha, t3 b hb, zL_add, zL_mul]) t8 (fun i hi => dfl_z (t3 a ha) (t3 b hb) hi) (fun i _ => fl_bd (hnd_lt c a) (hnd_lt c b)) 3 (Nat.le_refl _)]
  exact Iff.rfl
theorem d32_5 {c : Nat → Int32} {a b : Nat} (hT : TieOK 5 c I J) (ha : a < 12) (hb : b < 12) : Cal 32 [.ref 5, .int (nI a), .int (nI b)] I J Q ↔ Q (some (.int (bI (decide (¬ slb (hnd c) a = 4 ∧ slb (hnd c) a = slb (hnd c) b))))) I J := by
  obtain ⟨t1, t2, t3, t4, t5, t6, t7, t8, t9⟩ := hT
  rw [c32_5 ha hb]
  have e : (¬ I 11 a = -1 ∧ I 11 a = I 11 b) ↔ (¬ slb (hnd c) a = 4 ∧ slb (hnd c) a = slb (hnd c) b) := by
    have t6a : I 11 a = _ := t6 a ha
    have t6b : I 11 b = _ := t6 b hb
    rw [t6a, t6b, enc_m1 (slb_le4 _ _), enc_eq (slb_le4 _ _) (slb_le4 _ _)]
  rw [decide_eq_decide.mpr e]
theorem d34_5 {c : Nat → Int32} (hT : TieOK 5 c I J) (hk : I 5 16 = nI 0) : Cal 34 [.ref 5] I J Q ↔ Q none (wsI 5 (toZ (wsC (hnd c))) I) (wsJ 5 (toZ (wsC (hnd c))) J) := by
  obtain ⟨t1, t2, t3, t4, t5, t6, t7, t8, t9⟩ := hT
  rw [c34_5 (h := hnd c) (f := fC c) (S := J 8) (A := J 13) (sb := I 11) hk t7 (fun s hs => ⟨t2 s hs, hnd_lt c s⟩) rfl rfl rfl]
  rw [ws_z (Dz := dzD (hnd c)) ?_ (fun a b ha hb => dzD_bd (fun s _ => hnd_lt c s) ha hb) 12 (Nat.le_refl _)]
  · exact Iff.rfl
  · intro a b ha hb
    have t6a : I 11 a = _ := t6 a ha
    have t6b : I 11 b = _ := t6 b hb
    have e : (¬ I 11 a = -1 ∧ I 11 a = I 11 b) ↔ (¬ slb (hnd c) a = 4 ∧ slb (hnd c) a = slb (hnd c) b) := by
      rw [t6a, t6b, enc_m1 (slb_le4 _ _), enc_eq (slb_le4 _ _) (slb_le4 _ _)]
    unfold dbD dzD
    by_cases q : ¬ slb (hnd c) a = 4 ∧ slb (hnd c) a = slb (hnd c) b
    · rw [if_pos (e.mpr q), if_pos q]
      rw [db_z (Az := adC c) (dz := flC (hnd c) a b) (uz := whC c * ((shr (hnd c a) : Int) + shr (hnd c b))) (by rw [t9, t3 a ha, t3 b hb, zL_add, zL_mul]) t8 (fun i hi => dfl_z (t3 a ha) (t3 b hb) hi) (fun i _ => fl_bd (hnd_lt c a) (hnd_lt c b)) 3 (Nat.le_refl _)]
      rfl
    · rw [if_neg (fun w => q (e.mp w)), if_neg q]
      exact zL_0
theorem d30_5 {c : Nat → Int32} {k : Nat} (hM : MK c) (hT : TieOK 5 c I J) (hW : WeiOK 5 c J) (hk : k < 48) (hck : c k ≠ -1) : Cal 30 [.ref 5, .int (nI k)] I J Q ↔ Q (some (.long (zL (ftC c k)))) I J := by
  obtain ⟨t1, t2, t3, t4, t5, t6, t7, t8, t9⟩ := hT
  obtain ⟨w1, w2⟩ := hW
  have t1' : I 6 = c := t1
  have w1' : J 15 (k % 4) = _ := w1 (k % 4) (by omega)
  have w2' : J 16 (k / 4) = _ := w2 (k / 4) (by omega)
  rw [c30_5 hk, t1', i2lM hM hk hck, t9, w1', w2', zL_mul, zL_add, zL_12, zL_mul, zL_sub]
  exact Iff.rfl
theorem d31_5 {c : Nat → Int32} {a : Nat} (hM : MK c) (hT : TieOK 5 c I J) (hW : WeiOK 5 c J) (ha : a < 16) : Cal 31 [.ref 5, .int (nI a)] I J Q ↔ Q (some (.long (ofA c a (fun k => zL (ftC c k)) 48))) I J := by
  obtain ⟨t1, t2, t3, t4, t5, t6, t7, t8, t9⟩ := hT
  obtain ⟨w1, w2⟩ := hW
  rw [c31_5 (c := c) t1 ha]
  have e : ∀ k, k ≤ 48 → ofA c a (ftF c (J 5 11) (J 15) (J 16)) k = ofA c a (fun k => zL (ftC c k)) k := by
    intro k
    induction k with
    | zero => intro _; rfl
    | succ k ih =>
      intro hk
      unfold ofA
      rw [ih (by omega)]
      split
      · rfl
      · rename_i hck
        split
        · rfl
        · have w1' : J 15 (k % 4) = _ := w1 (k % 4) (by omega)
          have w2' : J 16 (k / 4) = _ := w2 (k / 4) (by omega)
          congr 2
          unfold ftF
          rw [i2lM hM (by omega) hck, t9, w1', w2', zL_mul, zL_add, zL_12, zL_mul, zL_sub]
          rfl
  rw [e 48 (Nat.le_refl _)]
theorem d33_17 {c : Nat → Int32} {a b : Nat} (hT : TieOK 17 c I J) (ha : a < 12) (hb : b < 12) : Cal 33 [.ref 17, .int (nI a), .int (nI b)] I J Q ↔ Q (some (.long (zL (dbC (hnd c) a b)))) I J := by
  obtain ⟨t1, t2, t3, t4, t5, t6, t7, t8, t9⟩ := hT
  rw [c33_17 (h := hnd c) (f := fC c) (S := J 20) (A := J 25) t7 (fun s hs => ⟨t2 s hs, hnd_lt c s⟩) rfl rfl ha hb]
  rw [db_z (Az := adC c) (dz := flC (hnd c) a b) (uz := whC c * ((shr (hnd c a) : Int) + shr (hnd c b))) (by rw [t9, t3 a ha, t3 b hb, zL_add, zL_mul]) t8 (fun i hi => dfl_z (t3 a ha) (t3 b hb) hi) (fun i _ => fl_bd (hnd_lt c a) (hnd_lt c b)) 3 (Nat.le_refl _)]
  exact Iff.rfl
theorem d32_17 {c : Nat → Int32} {a b : Nat} (hT : TieOK 17 c I J) (ha : a < 12) (hb : b < 12) : Cal 32 [.ref 17, .int (nI a), .int (nI b)] I J Q ↔ Q (some (.int (bI (decide (¬ slb (hnd c) a = 4 ∧ slb (hnd c) a = slb (hnd c) b))))) I J := by
  obtain ⟨t1, t2, t3, t4, t5, t6, t7, t8, t9⟩ := hT
  rw [c32_17 ha hb]
  have e : (¬ I 23 a = -1 ∧ I 23 a = I 23 b) ↔ (¬ slb (hnd c) a = 4 ∧ slb (hnd c) a = slb (hnd c) b) := by
    have t6a : I 23 a = _ := t6 a ha
    have t6b : I 23 b = _ := t6 b hb
    rw [t6a, t6b, enc_m1 (slb_le4 _ _), enc_eq (slb_le4 _ _) (slb_le4 _ _)]
  rw [decide_eq_decide.mpr e]
theorem d34_17 {c : Nat → Int32} (hT : TieOK 17 c I J) (hk : I 17 16 = nI 0) : Cal 34 [.ref 17] I J Q ↔ Q none (wsI 17 (toZ (wsC (hnd c))) I) (wsJ 17 (toZ (wsC (hnd c))) J) := by
  obtain ⟨t1, t2, t3, t4, t5, t6, t7, t8, t9⟩ := hT
  rw [c34_17 (h := hnd c) (f := fC c) (S := J 20) (A := J 25) (sb := I 23) hk t7 (fun s hs => ⟨t2 s hs, hnd_lt c s⟩) rfl rfl rfl]
  rw [ws_z (Dz := dzD (hnd c)) ?_ (fun a b ha hb => dzD_bd (fun s _ => hnd_lt c s) ha hb) 12 (Nat.le_refl _)]
  · exact Iff.rfl
  · intro a b ha hb
    have t6a : I 23 a = _ := t6 a ha
    have t6b : I 23 b = _ := t6 b hb
    have e : (¬ I 23 a = -1 ∧ I 23 a = I 23 b) ↔ (¬ slb (hnd c) a = 4 ∧ slb (hnd c) a = slb (hnd c) b) := by
      rw [t6a, t6b, enc_m1 (slb_le4 _ _), enc_eq (slb_le4 _ _) (slb_le4 _ _)]
    unfold dbD dzD
    by_cases q : ¬ slb (hnd c) a = 4 ∧ slb (hnd c) a = slb (hnd c) b
    · rw [if_pos (e.mpr q), if_pos q]
      rw [db_z (Az := adC c) (dz := flC (hnd c) a b) (uz := whC c * ((shr (hnd c a) : Int) + shr (hnd c b))) (by rw [t9, t3 a ha, t3 b hb, zL_add, zL_mul]) t8 (fun i hi => dfl_z (t3 a ha) (t3 b hb) hi) (fun i _ => fl_bd (hnd_lt c a) (hnd_lt c b)) 3 (Nat.le_refl _)]
      rfl
    · rw [if_neg (fun w => q (e.mp w)), if_neg q]
      exact zL_0
theorem d30_17 {c : Nat → Int32} {k : Nat} (hM : MK c) (hT : TieOK 17 c I J) (hW : WeiOK 17 c J) (hk : k < 48) (hck : c k ≠ -1) : Cal 30 [.ref 17, .int (nI k)] I J Q ↔ Q (some (.long (zL (ftC c k)))) I J := by
  obtain ⟨t1, t2, t3, t4, t5, t6, t7, t8, t9⟩ := hT
  obtain ⟨w1, w2⟩ := hW
  have t1' : I 18 = c := t1
  have w1' : J 27 (k % 4) = _ := w1 (k % 4) (by omega)
  have w2' : J 28 (k / 4) = _ := w2 (k / 4) (by omega)
  rw [c30_17 hk, t1', i2lM hM hk hck, t9, w1', w2', zL_mul, zL_add, zL_12, zL_mul, zL_sub]
  exact Iff.rfl
theorem d31_17 {c : Nat → Int32} {a : Nat} (hM : MK c) (hT : TieOK 17 c I J) (hW : WeiOK 17 c J) (ha : a < 16) : Cal 31 [.ref 17, .int (nI a)] I J Q ↔ Q (some (.long (ofA c a (fun k => zL (ftC c k)) 48))) I J := by
  obtain ⟨t1, t2, t3, t4, t5, t6, t7, t8, t9⟩ := hT
  obtain ⟨w1, w2⟩ := hW
  rw [c31_17 (c := c) t1 ha]
  have e : ∀ k, k ≤ 48 → ofA c a (ftF c (J 17 11) (J 27) (J 28)) k = ofA c a (fun k => zL (ftC c k)) k := by
    intro k
    induction k with
    | zero => intro _; rfl
    | succ k ih =>
      intro hk
      unfold ofA
      rw [ih (by omega)]
      split
      · rfl
      · rename_i hck
        split
        · rfl
        · have w1' : J 27 (k % 4) = _ := w1 (k % 4) (by omega)
          have w2' : J 28 (k / 4) = _ := w2 (k / 4) (by omega)
          congr 2
          unfold ftF
          rw [i2lM hM (by omega) hck, t9, w1', w2', zL_mul, zL_add, zL_12, zL_mul, zL_sub]
          rfl
  rw [e 48 (Nat.le_refl _)]
end DBT
/-- amounts of fits together, of the markers a -/
def ofZ (c : Nat → Int32) (a : Nat) : Nat → Nat
  | 0 => 0
  | k + 1 => if c k = -1 then ofZ c a k else if a.testBit (k % 4) = false then ofZ c a k else ofZ c a k + (ftC c k).natAbs
theorem ofA_z {c : Nat → Int32} (hM : MK c) {a : Nat} : ∀ k, k ≤ 48 → ofA c a (fun k => zL (ftC c k)) k = zL (ofZ c a k)
  | 0, _ => zL_0
  | k + 1, hk => by
    unfold ofA ofZ
    rw [ofA_z hM k (by omega)]
    split
    · rfl
    · split
      · rfl
      · rw [abL_z (bd_ok (ft_bd hM (by omega)) (by decide)), zL_add]
        congr 1
theorem ofZ_le {c : Nat → Int32} (hM : MK c) {a : Nat} : ∀ k, k ≤ 48 → ofZ c a k ≤ k * 68024448000
  | 0, _ => Nat.le_refl _
  | k + 1, hk => by
    have ih := ofZ_le hM (a := a) k (by omega)
    have h1 := ft_bd hM (show k < 48 by omega)
    unfold bd at h1
    unfold ofZ
    rw [Nat.succ_mul]
    generalize 68024448000 = X at *
    split
    · omega
    · split <;> omega
