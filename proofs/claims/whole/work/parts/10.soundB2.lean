section ABC
variable {p : Program} {l : Launch} {e : Env} {R : Room} {s : State} {m : MethodId} {args : Array Value} {below : List Frame} {meth : Method} {c : Code} {H : Heap} {locs : List Loc} {cells slots : Nat} {Q : State → Prop}
variable {cc : ByteArray} {pc : Nat} {lc : Array Slot} {ad : Nat → Nat} {nL : Nat} {D : va_G} {cs : ab_C3} {A : Nat → Prop} {H0 : Heap}
set_option maxHeartbeats 8000000 in
theorem ab_he_W {o : Nat} {b : Bool} {i : Instr} {st st' : List Value} {z z' : ab_S} (hx : p.tables.exec = Jvm.exec) (hb : c.code = cc) (h : ab_he o b i st z = some (st', z')) (hd : decode cc pc = .ok (i, ab_sz i)) (ho : o < 12) (hown : s.vm.findClass (ab_cn.getD o "") = some m.cls) (hml : c.maxLocals = lc.size) (hb1 : b = true → meth.name = "<init>") (hts : ∀ w ∈ ab_wd, w.before args s = true) (hK : va_K D vwCl (ab_ty3 cs) s) (hP : va_P D vwCl (ab_wl cs ad z) H) (hD : va_D A (ab_wl cs ad z)) (hS : va_S A H0 H locs) (hfr : 1 ≤ R.frames) (hlo : 64 ≤ R.locals) (hce : cells ≤ R.cells) (hsl : slots ≤ R.slots)
    (k : ∀ (H' : Heap) (locs' : List Loc), z'.2.2.2 = z.2.2.2 → va_P D vwCl (ab_wl cs ad z') H' → va_D A (ab_wl cs ad z') → va_S A H0 H' locs' → W p l e R s m args below meth c H' locs' cells slots Q (F0 m (pc + ab_sz i) lc (st'.map (ab_v ad)))) : W p l e R s m args below meth c H locs cells slots Q (F0 m pc lc (st.map (ab_v ad))) := by
  have hct : ∀ st : List Value, (st.map (fun v => v.category)).sum ≤ 8 → ((st.map (ab_v ad)).map (fun v => v.category)).sum ≤ 8 := fun st h => by rw [ab_v_cats]; exact h
  have put : ∀ {k0 : Nat} {z1 : ab_S} {e1 : va_E} {H1 : Heap} {locs1 : List Loc}, z1.2.2.2 = z.2.2.2 → (∀ j, j ≠ k0 → ab_ce cs ad z1 j = ab_ce cs ad z j) → ab_ce cs ad z1 k0 = e1 → va_P D vwCl ((ab_wl cs ad z).set k0 (ad k0, e1)) H1 → va_D A ((ab_wl cs ad z).set k0 (ad k0, e1)) → va_P D vwCl (ab_wl cs ad z1) H1 ∧ va_D A (ab_wl cs ad z1) := by
    intro k0 z1 e1 H1 locs1 hn hoth he hP1 hD1
    rw [← he, ab_wl_set hn hoth] at hP1 hD1
    exact ⟨hP1, hD1⟩
  unfold ab_he at h
  split at h
  · rw [Option.map_eq_some_iff] at h
    obtain ⟨⟨v, q⟩, h1, h2⟩ := h
    cases h2
    exact lv_ldcw hx hb hown (hts _ (ab_kdW ho h1)) hd (k H locs rfl hP hD hS)
  · rw [Option.map_eq_some_iff] at h
    obtain ⟨⟨v, q⟩, h1, h2⟩ := h
    cases h2
    exact lv_ldc2 hx hb hown (hts _ (ab_kDW ho h1)) hd (k H locs rfl hP hD hS)
  · split at h
    · rename_i j k0 st0 _ c0 f q hfd
      obtain ⟨⟨C, T, N⟩, hr, hf, hw, hdec⟩ := ab_fdW ho hfd
      obtain ⟨ty, hty, hnm, hnf, hk3, hcn⟩ := ab_cf c0 _ hr
      dsimp only at hf hw hdec hty hnm hnf hk3 hcn
      split at h
      · rename_i hk0
        have he := ab_wl_at (cs := cs) (ad := ad) hk0.2
        rw [ab_ce_obj hk0.1] at he
        have go : ∀ v : Value, ab_fv c0 ad z k0 f = v → W p l e R s m args below meth c H locs cells slots Q (F0 m (pc + 3) lc (v :: st0.map (ab_v ad))) → W p l e R s m args below meth c H locs cells slots Q (F0 m pc lc (.ref (ad k0) :: st0.map (ab_v ad))) := by
          intro v hv kk
          exact va_get hx hb hts (ab_cw hr).1 hown hK hP k0 he hr f hf (hts _ hw) (by rw [hdec]; exact fun x hx => hx) (by rw [ab_fs_at (hnf ▸ hf), hv]) hd kk
        split at h
        · rename_i hk2
          cases h
          exact go (.long (z.2.1 k0 f)) (by simp [ab_fv, hk2]) (k H locs rfl hP hD hS)
        · rename_i hk2
          split at h
          · rename_i hk3'
            split at h
            · rename_i r hrf
              cases h
              exact go (.ref (ad r)) (by simp [ab_fv, hk3', hrf, va_rf]) (k H locs rfl hP hD hS)
            · cases h
          · rename_i hk3'
            split at h
            · cases h
              exact go (.int (z.1 k0 f)) (by simp [ab_fv, hk2, hk3']) (k H locs rfl hP hD hS)
            · cases h
      · cases h
    · cases h
  · split at h
    · rename_i j x k0 st0 _ c0 f q hfd
      obtain ⟨⟨C, T, N⟩, hr, hf, hw, hdec⟩ := ab_fdW ho hfd
      obtain ⟨ty, hty, hnm, hnf, hk3, hcn⟩ := ab_cf c0 _ hr
      dsimp only at hf hw hdec hty hnm hnf hk3 hcn
      split at h
      · rename_i hk0
        cases h
        have he := ab_wl_at (cs := cs) (ad := ad) hk0.2.1
        rw [ab_ce_obj hk0.1] at he
        have hkk := hk3 f hf
        have hty2 : narrow (ty f) (.int x) = .int x ∧ fits (ty f) (.int x) = true ∧ (T f).2.2.2 = false ∧ ab_fk c0 f ≠ 2 ∧ ab_fk c0 f ≠ 3 := by
          rcases hk0.2.2 with h0 | ⟨h0, hx01⟩
          · simp only [ab_k3, h0, Bool.and_eq_true, decide_eq_true_eq, Bool.not_eq_true'] at hkk
            rw [hkk.1]
            exact ⟨rfl, rfl, hkk.2, by omega, by omega⟩
          · simp only [ab_k3, h0, Bool.and_eq_true, decide_eq_true_eq, Bool.not_eq_true'] at hkk
            rw [hkk.1]
            exact ⟨(ab_nar hx01).2.1, (ab_nar hx01).2.2, hkk.2, by omega, by omega⟩
        refine va_put hx hb hts (ab_cw hr).1 ty hty hnm hown hK hP hD hS k0 he hr f hf (hts _ hw) (by rw [hdec]; exact fun x hx => hx) hty2.2.2.1 (hty f hf) hty2.1 hty2.2.1 (by simp [ab_fs]; omega) hd (fun H1 locs1 hP1 hD1 hS1 => ?_)
        obtain ⟨hP2, hD2⟩ := put (z1 := (va_up z.1 k0 (va_up (z.1 k0) f x), z.2)) (locs1 := locs1) rfl (fun j hj => ab_ce_congr (va_up_n _ _ hj) rfl (fun _ => rfl)) (by rw [ab_ce_obj hk0.1]; exact congrArg (fun l => Sum.inr (c0, l)) (ab_fs_set (c := c0) (ad := ad) (z := z) (z' := (va_up z.1 k0 (va_up (z.1 k0) f x), z.2)) (k := k0) (f := f) (v := .int x) (by simp [ab_fv, hty2.2.2.2.1, hty2.2.2.2.2, va_up]) (fun j hj => ab_fv_congr (by show va_up z.1 k0 _ k0 j = _; rw [va_up_s, va_up_n _ _ hj]) rfl rfl)).symm) hP1 hD1
        exact k H1 locs1 rfl hP2 hD2 hS1
      · cases h
    · cases h
  · split at h
    · rename_i j x k0 st0 _ c0 f q hfd
      obtain ⟨⟨C, T, N⟩, hr, hf, hw, hdec⟩ := ab_fdW ho hfd
      obtain ⟨ty, hty, hnm, hnf, hk3, hcn⟩ := ab_cf c0 _ hr
      dsimp only at hf hw hdec hty hnm hnf hk3 hcn
      split at h
      · rename_i hk0
        cases h
        have he := ab_wl_at (cs := cs) (ad := ad) hk0.2.1
        rw [ab_ce_obj hk0.1] at he
        have hkk := hk3 f hf
        simp only [ab_k3, hk0.2.2, Bool.and_eq_true, decide_eq_true_eq, Bool.not_eq_true'] at hkk
        refine va_put hx hb hts (ab_cw hr).1 ty hty hnm hown hK hP hD hS k0 he hr f hf (hts _ hw) (by rw [hdec]; exact fun x hx => hx) hkk.2 (hty f hf) (by rw [hkk.1]; rfl) (by rw [hkk.1]; rfl) (by simp [ab_fs]; omega) hd (fun H1 locs1 hP1 hD1 hS1 => ?_)
        obtain ⟨hP2, hD2⟩ := put (z1 := (z.1, va_up z.2.1 k0 (va_up (z.2.1 k0) f x), z.2.2)) (locs1 := locs1) rfl (fun j hj => ab_ce_congr rfl (va_up_n _ _ hj) (fun _ => rfl)) (by rw [ab_ce_obj hk0.1]; exact congrArg (fun l => Sum.inr (c0, l)) (ab_fs_set (c := c0) (ad := ad) (z := z) (z' := (z.1, va_up z.2.1 k0 (va_up (z.2.1 k0) f x), z.2.2)) (k := k0) (f := f) (v := .long x) (by simp [ab_fv, hk0.2.2, va_up]) (fun j hj => ab_fv_congr rfl (by show va_up z.2.1 k0 _ k0 j = _; rw [va_up_s, va_up_n _ _ hj]) rfl)).symm) hP1 hD1
        exact k H1 locs1 rfl hP2 hD2 hS1
      · cases h
    · cases h
  · split at h
    · rename_i j x k0 st0 _ c0 f q hfd
      obtain ⟨⟨C, T, N⟩, hr, hf, hw, hdec⟩ := ab_fdW ho hfd
      obtain ⟨ty, hty, hnm, hnf, hk3, hcn⟩ := ab_cf c0 _ hr
      dsimp only at hf hw hdec hty hnm hnf hk3 hcn
      split at h
      · rename_i hk0
        cases h
        obtain ⟨hbt, hly, hlt, hfk, rfl, hrr⟩ := hk0
        have he := ab_wl_at (cs := cs) (ad := ad) hlt
        rw [ab_ce_obj hly] at he
        have hkk := hk3 f hf
        simp only [ab_k3, hfk, Bool.and_eq_true] at hkk
        have hty2 : narrow (ty f) (.ref (ad x)) = .ref (ad x) ∧ fits (ty f) (.ref (ad x)) = true := by
          have h1 := hkk.1
          cases hq : ty f with
          | array t => exact ⟨rfl, rfl⟩
          | object t => exact ⟨rfl, rfl⟩
          | _ => rw [hq] at h1; cases h1
        refine va_putF hx hb hts (ab_cw hr).1 ty hty hnm hown hK hP hD hS k0 he hr f hf (hts _ hw) (by rw [hdec]; exact fun x hx => hx) hkk.2 (hb1 hbt) (by rw [hdec, hcn]) (hty f hf) hty2.1 hty2.2 (by simp [ab_fs]; omega) hd (fun H1 locs1 hP1 hD1 hS1 => ?_)
        obtain ⟨hP2, hD2⟩ := put (z1 := (z.1, z.2.1, ab_sr z.2.2.1 k0 f (some x), z.2.2.2)) (locs1 := locs1) rfl (fun j hj => ab_ce_congr rfl rfl (fun f' => ab_sr_n (fun q => hj q.1))) (by rw [ab_ce_obj hly]; exact congrArg (fun l => Sum.inr (c0, l)) (ab_fs_set (c := c0) (ad := ad) (z := z) (z' := (z.1, z.2.1, ab_sr z.2.2.1 k0 f (some x), z.2.2.2)) (k := k0) (f := f) (v := .ref (ad x)) (by simp [ab_fv, hfk, hrr, va_rf]) (fun j hj => ab_fv_congr rfl rfl (ab_sr_n (fun q => hj q.2)))).symm) hP1 hD1
        exact k H1 locs1 rfl hP2 hD2 hS1
      · cases h
    · cases h
  · split at h
    · rename_i x k0 st0 hk0
      cases h
      have he := ab_wl_at (cs := cs) (ad := ad) hk0.2.1
      rw [ab_ce_int hk0.1] at he
      exact va_iald hx hb hK hP k0 0 he rfl (ab_vp hk0.2.2.1 hk0.2.2.2) hd (k H locs rfl hP hD hS)
    · cases h
  · split at h
    · rename_i x k0 st0 hk0
      cases h
      have he := ab_wl_at (cs := cs) (ad := ad) hk0.2.1
      rw [ab_ce_bool hk0.1] at he
      exact va_zald hx hb hK hP k0 2 he rfl (ab_vp hk0.2.2.1 hk0.2.2.2) hd (k H locs rfl hP hD hS)
    · cases h
  · split at h
    · rename_i x k0 st0 hk0
      cases h
      have he := ab_wl_at (cs := cs) (ad := ad) hk0.2.1
      rw [ab_ce_long hk0.1] at he
      exact va_lald hx hb hK hP k0 1 he rfl (ab_vp hk0.2.2.1 hk0.2.2.2) hd (k H locs rfl hP hD hS)
    · cases h
  · split at h
    · rename_i v x k0 st0 hk0
      cases h
      have he := ab_wl_at (cs := cs) (ad := ad) hk0.2.1
      rw [ab_ce_int hk0.1] at he
      refine va_iast hx hb hK hP hD hS k0 0 he rfl (ab_vp hk0.2.2.1 hk0.2.2.2) hd (fun H1 locs1 hP1 hD1 hS1 => ?_)
      obtain ⟨hP2, hD2⟩ := put (z1 := (va_up z.1 k0 (va_up (z.1 k0) x.toNatClampNeg v), z.2)) (locs1 := locs1) rfl (fun j hj => ab_ce_congr (va_up_n _ _ hj) rfl (fun _ => rfl)) (by rw [ab_ce_int hk0.1]; show Sum.inl (_, _, Sum.inl (va_up z.1 k0 _ k0)) = _; rw [va_up_s]; rfl) hP1 hD1
      exact k H1 locs1 rfl hP2 hD2 hS1
    · cases h
  · split at h
    · rename_i v x k0 st0 hk0
      cases h
      have he := ab_wl_at (cs := cs) (ad := ad) hk0.2.2.1
      rw [ab_ce_bool hk0.2.1] at he
      refine va_zast hx hb hK hP hD hS k0 2 he rfl (ab_vp hk0.2.2.2.1 hk0.2.2.2.2) hd (fun H1 locs1 hP1 hD1 hS1 => ?_)
      rw [(ab_nar hk0.1).1] at hP1 hD1
      obtain ⟨hP2, hD2⟩ := put (z1 := (va_up z.1 k0 (va_up (z.1 k0) x.toNatClampNeg v), z.2)) (locs1 := locs1) rfl (fun j hj => ab_ce_congr (va_up_n _ _ hj) rfl (fun _ => rfl)) (by rw [ab_ce_bool hk0.2.1]; show Sum.inl (_, _, Sum.inl (va_up z.1 k0 _ k0)) = _; rw [va_up_s]; rfl) hP1 hD1
      exact k H1 locs1 rfl hP2 hD2 hS1
    · cases h
  · split at h
    · rename_i v x k0 st0 hk0
      cases h
      have he := ab_wl_at (cs := cs) (ad := ad) hk0.2.1
      rw [ab_ce_long hk0.1] at he
      refine va_last hx hb hK hP hD hS k0 1 he rfl (ab_vp hk0.2.2.1 hk0.2.2.2) hd (fun H1 locs1 hP1 hD1 hS1 => ?_)
      obtain ⟨hP2, hD2⟩ := put (z1 := (z.1, va_up z.2.1 k0 (va_up (z.2.1 k0) x.toNatClampNeg v), z.2.2)) (locs1 := locs1) rfl (fun j hj => ab_ce_congr rfl (va_up_n _ _ hj) (fun _ => rfl)) (by rw [ab_ce_long hk0.1]; show Sum.inl (_, _, Sum.inr (Sum.inl (va_up z.2.1 k0 _ k0))) = _; rw [va_up_s]; rfl) hP1 hD1
      exact k H1 locs1 rfl hP2 hD2 hS1
    · cases h
  · split at h
    · rename_i j k0 st0 _ nest q hmd
      split at h
      · rename_i hc8
        cases h
        have hw := ab_mdW ho hmd
        rw [if_pos rfl] at hw
        refine W.objInit hx hb hown (hts _ (ab_at_in hw)) (hts _ (ab_oth (by simp))) (hts _ (ab_oth (by simp))) rfl hml.symm rfl hd hfr ?_ (k H locs rfl hP hD hS)
        have := hct _ hc8
        show 2 * 0 + _ + 12 ≤ _
        omega
      · cases h
    · cases h
  · split at h
    · rename_i j x st0 _ nest q hmd
      split at h
      · rename_i hc8
        cases h
        have hw := ab_mdW ho hmd
        rw [if_neg (by decide), if_neg (by decide), if_pos rfl] at hw
        have := hct _ hc8
        exact va_mabs_long hx hb hml hown (hts _ (ab_at_in hw)) (hts _ (ab_oth (by simp))) (hts _ (ab_oth (by simp))) (hts _ (ab_oth (by simp))) hfr (by omega) hce hsl hd (k H locs rfl hP hD hS)
      · cases h
    · cases h
  · split at h
    · rename_i j y x st0 _ nest q hmd
      split at h
      · rename_i hc8
        cases h
        have hw := ab_mdW ho hmd
        rw [if_neg (by decide), if_neg (by decide), if_neg (by decide), if_pos rfl] at hw
        have := hct _ hc8
        exact va_mmin hx hb hml hown (hts _ (ab_at_in hw)) (hts _ (ab_oth (by simp))) (hts _ (ab_oth (by simp))) (hts _ (ab_oth (by simp))) hfr (by omega) hce hsl hd (k H locs rfl hP hD hS)
      · cases h
    · rename_i j y x st0 _ nest q hmd
      split at h
      · rename_i k0 sp h0 st1
        split at h
        · rename_i hk0
          cases h
          have hw := ab_mdW ho hmd
          rw [if_neg (by decide), if_pos rfl] at hw
          have h8 := hct _ hk0.1.1
          have hea := ab_wl_at (cs := cs) (ad := ad) hk0.1.2.2.2.1
          have heb := ab_wl_at (cs := cs) (ad := ad) hk0.1.2.2.2.2
          rw [ab_ce_int hk0.1.2.1] at hea
          rw [ab_ce_int hk0.1.2.2.1] at heb
          have nn : ∀ w : Int32, 0 ≤ w.toInt → ¬ w < 0 ∧ (w.toNatClampNeg : Int) = w.toInt := by
            intro w hw
            refine ⟨fun q => ?_, ?_⟩
            · rw [Int32.lt_iff_toInt_lt] at q
              have e0 : (0 : Int32).toInt = 0 := by decide
              omega
            · rw [Int32.toNatClampNeg]
              omega
          obtain ⟨a1, a2, a3, a4, a5⟩ := hk0.2
          refine va_copyi hx hb hml hown (hts _ (ab_at_in hw)) (hts _ (ab_oth (by simp))) (hts _ (ab_oth (by simp))) (hts _ (ab_oth (by simp))) hK hP hD hS h0 k0 0 0 heb hea rfl rfl rfl (nn _ a2).1 (nn _ a3).1 (nn _ a1).1 ?_ ?_ (fun _ _ => rfl) hfr ?_ hd (fun H1 locs1 hP1 hD1 hS1 => ?_)
          · have := (nn _ a2).2; have := (nn _ a1).2; omega
          · have := (nn _ a3).2; have := (nn _ a1).2; omega
          · have e1 : nativeFrameWords "java/lang/System" "arraycopy" 5 ≤ 40 := by decide +kernel
            omega
          · obtain ⟨hP2, hD2⟩ := put (z1 := (va_up z.1 k0 (va_cpy (z.1 h0) (z.1 k0) sp.toNatClampNeg x.toNatClampNeg y.toNatClampNeg), z.2)) (locs1 := locs1) rfl (fun j hj => ab_ce_congr (va_up_n _ _ hj) rfl (fun _ => rfl)) (by rw [ab_ce_int hk0.1.2.1]; show Sum.inl (_, _, Sum.inl (va_up z.1 k0 _ k0)) = _; rw [va_up_s]) hP1 hD1
            exact k H1 locs1 rfl hP2 hD2 hS1
        · cases h
      · cases h
    · cases h
    · split at h
      · rename_i j y x st0 _ hmd hc
        obtain ⟨rfl, rfl, hc8⟩ := hc
        cases h
        have := hct _ hc8
        exact va_mmax hx hb hml hown (hts _ (ab_maxw (by simp))) (hts _ (ab_maxw (by simp))) (hts _ (ab_oth (by simp))) (hts _ (ab_maxw (by simp))) hfr (by omega) hce hsl hd (k H locs rfl hP hD hS)
      · cases h
  · cases h
end ABC
