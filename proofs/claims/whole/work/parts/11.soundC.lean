/-! SOUND, third: new cells -/
def ab_wz (k : Nat) : Nat := if (ab_ly k).1 = 0 then ab_nf (ab_ly k).2 else (ab_ly k).2
/-- slots of the first n cells -/
def ab_sl : Nat → Nat
  | 0 => 0
  | n + 1 => ab_sl n + ab_wz n
theorem ab_sl_le {a b : Nat} (h : a ≤ b) : ab_sl a ≤ ab_sl b := by
  induction b with
  | zero => rw [Nat.le_zero.mp h]; exact Nat.le_refl _
  | succ b ih =>
    rcases Nat.lt_or_ge b a with q | q
    · rw [show a = b + 1 by omega]; exact Nat.le_refl _
    · exact Nat.le_trans (ih q) (Nat.le_add_right _ _)
theorem ab_v_n {n : Nat} {ad ad' : Nat → Nat} (hA : ∀ k, (k < n ∨ 999 ≤ k) → ad' k = ad k) {v : Value} (h : ab_bv n v = true) : ab_v ad' v = ab_v ad v := by
  cases v with
  | ref k =>
    simp only [ab_bv, decide_eq_true_eq] at h
    show Value.ref (ad' k) = Value.ref (ad k)
    rw [hA k h]
  | _ => rfl
theorem ab_vs_n {n : Nat} {ad ad' : Nat → Nat} (hA : ∀ k, (k < n ∨ 999 ≤ k) → ad' k = ad k) {st : List Value} (h : st.all (ab_bv n) = true) : st.map (ab_v ad') = st.map (ab_v ad) :=
  List.map_congr_left (fun v hv => ab_v_n hA (List.all_eq_true.mp h v hv))
theorem ab_has_n {lc : Array Slot} {nL n : Nat} {ad ad' : Nat → Nat} {ls : ab_L} (hA : ∀ k, (k < n ∨ 999 ≤ k) → ad' k = ad k) (h : ls.all (ab_bo n) = true) (hl : ab_has lc nL ad ls) : ab_has lc nL ad' ls := by
  refine ⟨hl.1, hl.2.1, hl.2.2.1, fun i v hv => ?_⟩
  have hm : some v ∈ ls := by
    rw [List.getD_eq_getElem?_getD] at hv
    cases hq : ls[i]? with
    | none => rw [hq] at hv; cases hv
    | some w =>
      rw [hq] at hv
      have : w = some v := hv
      subst this
      exact List.mem_of_getElem? hq
  rw [ab_v_n hA (List.all_eq_true.mp h _ hm)]
  exact hl.2.2.2 i v hv
theorem ab_rf_n {n : Nat} {R : List (List (Option Nat))} (h : R.all (fun r => r.all (fun o => match o with
  | some k => decide (k < n)
  | none => true)) = true) {k j x : Nat} (hx : ab_rf R k j = some x) : x < n := by
  unfold ab_rf at hx
  rw [List.getD_eq_getElem?_getD, List.getD_eq_getElem?_getD] at hx
  cases hq : R[k]? with
  | none => rw [hq] at hx; simp at hx
  | some r =>
    rw [hq] at hx
    cases hw : r[j]? with
    | none => simp [hw] at hx
    | some o =>
      have ho : o = some x := by simpa [hw] using hx
      subst ho
      have h1 := List.all_eq_true.mp (List.all_eq_true.mp h r (List.mem_of_getElem? hq)) _ (List.mem_of_getElem? hw)
      simpa using h1
/-- the world at other addresses, where the cells that are there keep theirs -/
theorem ab_wl_n {cs : ab_C3} {n : Nat} {ad ad' : Nat → Nat} {z : ab_S} (hA : ∀ k, k < n → ad' k = ad k) (hn : z.2.2.2 ≤ n) (h : z.2.2.1.all (fun r => r.all (fun o => match o with
  | some k => decide (k < n)
  | none => true)) = true) : ab_wl cs ad' z = ab_wl cs ad z := by
  refine List.map_congr_left (fun k hk => ?_)
  have hk := List.mem_range.mp hk
  have e1 : ∀ c, ab_fs c ad' z k = ab_fs c ad z k := by
    intro c
    refine List.map_congr_left (fun j _ => ?_)
    unfold ab_fv
    cases hq : ab_rf z.2.2.1 k j with
    | none => rfl
    | some x =>
      rw [Option.map_some, Option.map_some, hA x (ab_rf_n h hq)]
  rw [hA k (by omega)]
  unfold ab_ce
  rw [e1]
theorem ab_wl_push {cs : ab_C3} {ad : Nat → Nat} {z z' : ab_S} (hn : z'.2.2.2 = z.2.2.2 + 1) (ho : ∀ j, j < z.2.2.2 → ab_ce cs ad z' j = ab_ce cs ad z j) : ab_wl cs ad z' = ab_wl cs ad z ++ [(ad z.2.2.2, ab_ce cs ad z' z.2.2.2)] := by
  unfold ab_wl
  rw [hn, List.range_succ, List.map_append]
  congr 1
  exact List.map_congr_left (fun j hj => by rw [ho j (List.mem_range.mp hj)])
theorem ab_ly75 {k : Nat} (h : (ab_ly k).1 ≠ 9) : k < 75 := by
  rcases Nat.lt_or_ge k 75 with q | q
  · exact q
  · exact absurd (by unfold ab_ly; rw [List.getD_eq_getElem?_getD, List.getElem?_eq_none (by exact q)]; rfl) h
section ABD
variable {p : Program} {l : Launch} {e : Env} {R : Room} {s : State} {m : MethodId} {args : Array Value} {below : List Frame} {meth : Method} {c : Code} {H : Heap} {locs : List Loc} {cells slots : Nat} {Q : State → Prop}
variable {cc : ByteArray} {pc : Nat} {lc : Array Slot} {ad : Nat → Nat} {nL : Nat} {D : va_G} {cs : ab_C3} {A : Nat → Prop} {H0 : Heap}
set_option maxHeartbeats 8000000 in
theorem ab_nw_W {o : Nat} {i : Instr} {ls : ab_L} {st st' : List Value} {z z' : ab_S} (hx : p.tables.exec = Jvm.exec) (hb : c.code = cc) (h : ab_nw o i ls st z = some (st', z')) (hd : decode cc pc = .ok (i, ab_sz i)) (ho : o < 12) (hown : s.vm.findClass (ab_cn.getD o "") = some m.cls) (hts : ∀ w ∈ ab_wd, w.before args s = true) (hl : ab_has lc nL ad ls) (hK : va_K D vwCl (ab_ty3 cs) s) (hP : va_P D vwCl (ab_wl cs ad z) H) (hD : va_D A (ab_wl cs ad z)) (hS : va_S A H0 H locs) (hA : ∀ q, H0.size ≤ q → A q) (hce : cells + 1 ≤ R.cells) (hsl : slots + ab_wz z.2.2.2 ≤ R.slots)
    (k : ∀ (ad' : Nat → Nat) (H' : Heap), z'.2.2.2 = z.2.2.2 + 1 → (∀ k, (k < z.2.2.2 ∨ 999 ≤ k) → ad' k = ad k) → ab_has lc nL ad' ls → va_P D vwCl (ab_wl cs ad' z') H' → va_D A (ab_wl cs ad' z') → va_S A H0 H' locs → W p l e R s m args below meth c H' locs (cells + 1) (slots + ab_wz z.2.2.2) Q (F0 m (pc + ab_sz i) lc (st'.map (ab_v ad')))) : W p l e R s m args below meth c H locs cells slots Q (F0 m pc lc (st.map (ab_v ad))) := by
  unfold ab_nw at h
  split at h
  · split at h
    · rename_i t x st0 hc
      cases h
      obtain ⟨h0, h200, hly, hbd⟩ := hc
      simp only [ab_bd, Bool.and_eq_true] at hbd
      have h75 : z.2.2.2 < 75 := ab_ly75 (by rw [hly]; show ab_ak t ≠ 9; cases t <;> decide)
      have nn : ¬ x < 0 := by
        intro q
        rw [Int32.lt_iff_toInt_lt] at q
        have e0 : (0 : Int32).toInt = 0 := by decide
        omega
      have hcl : x.toNatClampNeg ≤ 200 := by rw [Int32.toNatClampNeg]; omega
      have main : ∀ (ty : FieldType) (cA0 : ClassId) (t0 : Nat) (a0 : vp_A), newarray.typeOf t = ty → Cond.arrayClass ty ∈ ab_wd → (ab_ty3 cs)[t0]? = some (cA0, ty) → (∀ cA : ClassId, vp_cell cA a0 = arrV cA x.toNatClampNeg (fun _ => defaultValue ty)) → (∀ U : State, ∀ c1 c2 : ClassId, va_RA U c1 ty → va_RA U c2 ty → c1 = c2) → x.toNatClampNeg * componentBytes ty ≤ 536870912 → (∀ ad' : Nat → Nat, ab_ce cs ad' (va_up z.1 z.2.2.2 (fun _ => 0), va_up z.2.1 z.2.2.2 (fun _ => 0), z.2.2.1, z.2.2.2 + 1) z.2.2.2 = .inl (cA0, a0)) → ab_wz z.2.2.2 = x.toNatClampNeg → W p l e R s m args below meth c H locs cells slots Q (F0 m pc lc (.int x :: st0.map (ab_v ad))) := by
        intro ty cA0 t0 a0 h1 h2 h3 h4 h5 h6 h7 h8
        rw [h8] at hsl
        refine va_newa hx hb (by rw [h1]; exact hts _ h2) h1 hK hP hD hS hA h4 nn rfl h6 hce hsl hd (fun q cA H1 hK1 hP1 hD1 hS1 => ?_)
        have e1 : cA = cA0 := h5 s cA cA0 (hK1.2 3 (cA, ty) rfl).2 (hK.2 t0 _ h3).2
        subst e1
        have hag : ∀ k, (k < z.2.2.2 ∨ 999 ≤ k) → va_up ad z.2.2.2 q k = ad k := fun k hk => va_up_n _ _ (by omega)
        have e2 : ab_wl cs (va_up ad z.2.2.2 q) (va_up z.1 z.2.2.2 (fun _ => 0), va_up z.2.1 z.2.2.2 (fun _ => 0), z.2.2.1, z.2.2.2 + 1) = ab_wl cs ad z ++ [(q, .inl (cA, a0))] := by
          rw [ab_wl_push (z := z) (z' := (va_up z.1 z.2.2.2 (fun _ => 0), va_up z.2.1 z.2.2.2 (fun _ => 0), z.2.2.1, z.2.2.2 + 1)) rfl (fun j hj => ab_ce_congr (va_up_n _ _ (Nat.ne_of_lt hj)) (va_up_n _ _ (Nat.ne_of_lt hj)) (fun _ => rfl)), ab_wl_n (fun k hk => hag k (Or.inl hk)) (Nat.le_refl _) hbd.2, h7, va_up_s]
        rw [← e2] at hP1 hD1
        have kk := k (va_up ad z.2.2.2 q) H1 rfl hag (ab_has_n hag hbd.1.1 hl) hP1 hD1 hS1
        rw [h8, List.map_cons, ab_vs_n hag hbd.1.2] at kk
        have e3 : ab_v (va_up ad z.2.2.2 q) (.ref z.2.2.2) = .ref q := by show Value.ref (va_up ad z.2.2.2 q z.2.2.2) = _; rw [va_up_s]
        rw [e3] at kk
        exact kk
      cases t with
      | int =>
        have hly : ab_ly z.2.2.2 = (1, x.toNatClampNeg) := hly
        exact main .int cs.1 0 (x.toNatClampNeg, .inl (fun _ => 0)) rfl (ab_oth (by simp)) rfl (fun _ => rfl) (fun U c1 c2 a b => Option.some.inj (a.symm.trans b)) (by show x.toNatClampNeg * 4 ≤ 536870912; omega) (fun ad' => by rw [ab_ce_int (by rw [hly]), hly]; show Sum.inl (_, _, Sum.inl (va_up z.1 z.2.2.2 _ z.2.2.2)) = _; rw [va_up_s]) (by simp [ab_wz, hly])
      | long =>
        have hly : ab_ly z.2.2.2 = (2, x.toNatClampNeg) := hly
        exact main .long cs.2.1 1 (x.toNatClampNeg, .inr (.inl (fun _ => 0))) rfl (ab_oth (by simp)) rfl (fun _ => rfl) (fun U c1 c2 a b => Option.some.inj (a.symm.trans b)) (by show x.toNatClampNeg * 8 ≤ 536870912; omega) (fun ad' => by rw [ab_ce_long (by rw [hly]), hly]; show Sum.inl (_, _, Sum.inr (Sum.inl (va_up z.2.1 z.2.2.2 _ z.2.2.2))) = _; rw [va_up_s]) (by simp [ab_wz, hly])
      | boolean =>
        have hly : ab_ly z.2.2.2 = (3, x.toNatClampNeg) := hly
        exact main .boolean cs.2.2 2 (x.toNatClampNeg, .inl (fun _ => 0)) rfl (ab_oth (by simp)) rfl (fun _ => rfl) (fun U c1 c2 a b => Option.some.inj (a.symm.trans b)) (by show x.toNatClampNeg * 1 ≤ 536870912; omega) (fun ad' => by rw [ab_ce_bool (by rw [hly]), hly]; show Sum.inl (_, _, Sum.inl (va_up z.1 z.2.2.2 _ z.2.2.2)) = _; rw [va_up_s]) (by simp [ab_wz, hly])
      | _ =>
        exfalso
        have : ∀ k, (ab_ly k).1 ≠ 8 := by
          intro k
          rcases Nat.lt_or_ge k 75 with q | q
          · have : ∀ k, k < 75 → (ab_ly k).1 ≠ 8 := by decide +kernel
            exact this k q
          · have e9 : ab_ly k = (9, 0) := by unfold ab_ly; rw [List.getD_eq_getElem?_getD, List.getElem?_eq_none (by exact q)]; rfl
            rw [e9]; decide
        exact this _ (by rw [hly]; rfl)
    · cases h
  · split at h
    · rename_i j st0 c0 q hnd
      split at h
      · rename_i hc
        cases h
        obtain ⟨hly, hlen, hbd⟩ := hc
        simp only [ab_bd, Bool.and_eq_true] at hbd
        have h75 : z.2.2.2 < 75 := ab_ly75 (by rw [hly]; show (0 : Nat) ≠ 9; decide)
        obtain ⟨⟨C, T, N⟩, hr, hw⟩ := ab_ndW ho hnd
        obtain ⟨ty, hty, hnm, hnf, hk3, hcn⟩ := ab_cf c0 _ hr
        dsimp only at hw hty hnm hnf hk3 hcn
        obtain ⟨w1, w2, w3⟩ := ab_cw hr
        have h8 : ab_wz z.2.2.2 = N := by simp [ab_wz, hly, hnf]
        rw [h8] at hsl
        have hfs : ∀ (ad' : Nat → Nat) (j : Nat), j < N → ab_fv c0 ad' (va_up z.1 z.2.2.2 (fun _ => 0), va_up z.2.1 z.2.2.2 (fun _ => 0), z.2.2.1.set z.2.2.2 (List.replicate 41 none), z.2.2.2 + 1) z.2.2.2 j = defaultValue (ty j) := by
          intro ad' j hj
          have hkk := hk3 j hj
          have hrn : ab_rf (z.2.2.1.set z.2.2.2 (List.replicate 41 none)) z.2.2.2 j = none := by
            have e1 : (z.2.2.1.set z.2.2.2 (List.replicate 41 (none : Option Nat))).getD z.2.2.2 [] = List.replicate 41 none := by
              rw [List.getD_eq_getElem?_getD, List.getElem?_set_self hlen]
              rfl
            unfold ab_rf
            rw [e1, List.getD_eq_getElem?_getD]
            cases hq : (List.replicate 41 (none : Option Nat))[j]? with
            | none => rfl
            | some o => rw [List.getElem?_replicate] at hq; split at hq <;> cases hq; rfl
          unfold ab_fv
          dsimp only
          rw [va_up_s, va_up_s, hrn]
          unfold ab_k3 at hkk
          split at hkk
          · rename_i h0
            simp only [Bool.and_eq_true, decide_eq_true_eq] at hkk
            rw [hkk.1, if_neg (by omega), if_neg (by omega)]; rfl
          · rename_i h0
            simp only [Bool.and_eq_true, decide_eq_true_eq] at hkk
            rw [hkk.1, if_neg (by omega), if_neg (by omega)]; rfl
          · rename_i h0
            simp only [Bool.and_eq_true, decide_eq_true_eq] at hkk
            rw [hkk.1, if_pos h0]; rfl
          · rename_i h0
            simp only [Bool.and_eq_true] at hkk
            rw [if_neg (by omega), if_pos h0]
            have h1 := hkk.1
            cases hq : ty j with
            | array t => rfl
            | object t => rfl
            | _ => rw [hq] at h1; cases h1
          · cases hkk
        refine va_new hx hb hts w1 ty hty hown (hts _ hw) (hts _ w2) (hts _ w3) hK hP hD hS hA hr (fs := ab_fs c0 ad (va_up z.1 z.2.2.2 (fun _ => 0), va_up z.2.1 z.2.2.2 (fun _ => 0), z.2.2.1.set z.2.2.2 (List.replicate 41 none), z.2.2.2 + 1) z.2.2.2) (fun j hj => ?_) hce hsl hd (fun q H1 hP1 hD1 hS1 => ?_)
        · unfold vp_V
          rw [List.getD_eq_getElem?_getD, ab_fs_at (hnf ▸ hj)]
          exact (hfs ad j hj).symm
        · have hag : ∀ k, (k < z.2.2.2 ∨ 999 ≤ k) → va_up ad z.2.2.2 q k = ad k := fun k hk => va_up_n _ _ (by omega)
          have e4 : ab_fs c0 (va_up ad z.2.2.2 q) (va_up z.1 z.2.2.2 (fun _ => 0), va_up z.2.1 z.2.2.2 (fun _ => 0), z.2.2.1.set z.2.2.2 (List.replicate 41 none), z.2.2.2 + 1) z.2.2.2 = ab_fs c0 ad (va_up z.1 z.2.2.2 (fun _ => 0), va_up z.2.1 z.2.2.2 (fun _ => 0), z.2.2.1.set z.2.2.2 (List.replicate 41 none), z.2.2.2 + 1) z.2.2.2 := List.map_congr_left (fun j hj => by rw [hfs _ j (hnf ▸ List.mem_range.mp hj), hfs _ j (hnf ▸ List.mem_range.mp hj)])
          have e2 : ab_wl cs (va_up ad z.2.2.2 q) (va_up z.1 z.2.2.2 (fun _ => 0), va_up z.2.1 z.2.2.2 (fun _ => 0), z.2.2.1.set z.2.2.2 (List.replicate 41 none), z.2.2.2 + 1) = ab_wl cs ad z ++ [(q, .inr (c0, ab_fs c0 ad (va_up z.1 z.2.2.2 (fun _ => 0), va_up z.2.1 z.2.2.2 (fun _ => 0), z.2.2.1.set z.2.2.2 (List.replicate 41 none), z.2.2.2 + 1) z.2.2.2))] := by
            rw [ab_wl_push (z := z) (z' := (va_up z.1 z.2.2.2 (fun _ => 0), va_up z.2.1 z.2.2.2 (fun _ => 0), z.2.2.1.set z.2.2.2 (List.replicate 41 none), z.2.2.2 + 1)) rfl (fun j hj => ab_ce_congr (va_up_n _ _ (Nat.ne_of_lt hj)) (va_up_n _ _ (Nat.ne_of_lt hj)) (fun f => by show ((z.2.2.1.set z.2.2.2 (List.replicate 41 (none : Option Nat))).getD j []).getD f none = _; have e5 : (z.2.2.1.set z.2.2.2 (List.replicate 41 (none : Option Nat))).getD j [] = z.2.2.1.getD j [] := by { rw [List.getD_eq_getElem?_getD, List.getElem?_set_ne (by omega), ← List.getD_eq_getElem?_getD] }; rw [e5]; rfl)), ab_wl_n (fun k hk => hag k (Or.inl hk)) (Nat.le_refl _) hbd.2, ab_ce_obj hly, e4, va_up_s]
          rw [← e2] at hP1 hD1
          have kk := k (va_up ad z.2.2.2 q) H1 rfl hag (ab_has_n hag hbd.1.1 hl) hP1 hD1 hS1
          rw [h8, List.map_cons, ab_vs_n hag hbd.1.2] at kk
          have e3 : ab_v (va_up ad z.2.2.2 q) (.ref z.2.2.2) = .ref q := by show Value.ref (va_up ad z.2.2.2 q z.2.2.2) = _; rw [va_up_s]
          rw [e3] at kk
          exact kk
      · cases h
    · cases h
  · cases h
end ABD
