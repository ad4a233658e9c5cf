/-! SOUND: the whole -/
theorem ab_ea_len : ∀ (ad : Nat → Nat) (as : List Value), (lg_sl (as.map (ab_v ad))).length = (ab_ea as).length
  | _, [] => rfl
  | ad, v :: r => by
    have ih := ab_ea_len ad r
    show (lg_sl (ab_v ad v :: r.map (ab_v ad))).length = _
    unfold lg_sl at ih ⊢
    rw [List.flatMap_cons, List.length_append, ih, show ab_ea (v :: r) = if v.category = 2 then some v :: none :: ab_ea r else some v :: ab_ea r from rfl, ab_v_cat]
    split <;> simp <;> omega
theorem ab_ea_get : ∀ (ad : Nat → Nat) (as : List Value) (i : Nat) (v : Value), (ab_ea as)[i]? = some (some v) → (lg_sl (as.map (ab_v ad)))[i]? = some (.val (ab_v ad v))
  | _, [], i, v, h => by simp [ab_ea] at h
  | ad, w :: r, i, v, h => by
    have ih := ab_ea_get ad r
    show (lg_sl (ab_v ad w :: r.map (ab_v ad)))[i]? = _
    unfold lg_sl at ih ⊢
    rw [List.flatMap_cons, ab_v_cat]
    rw [show ab_ea (w :: r) = if w.category = 2 then some w :: none :: ab_ea r else some w :: ab_ea r from rfl] at h
    split at h
    · rename_i h2
      rw [if_pos h2]
      match i, h with
      | 0, h => cases h; rfl
      | 1, h => cases h
      | i + 2, h => exact ih i v h
    · rename_i h2
      rw [if_neg h2]
      match i, h with
      | 0, h => cases h; rfl
      | i + 1, h => exact ih i v h
theorem ab_en_has (ad : Nat → Nat) (as : List Value) {n : Nat} (h : (ab_ea as).length ≤ n) : ab_has ((lg_sl (as.map (ab_v ad)) ++ List.replicate (n - (lg_sl (as.map (ab_v ad))).length) Slot.unset).toArray) n ad (ab_en n as) := by
  have h1 := lv_entry (as.map (ab_v ad)) (n := n) (by rw [ab_ea_len]; exact h)
  refine ⟨h1.1, h1.2.1, by simp [ab_en]; omega, fun i v hv => ?_⟩
  have hi : (ab_ea as)[i]? = some (some v) := by
    unfold ab_en at hv
    rw [List.getD_eq_getElem?_getD, List.getElem?_append] at hv
    split at hv
    · cases hq : (ab_ea as)[i]? with
      | none => rw [hq] at hv; cases hv
      | some w => rw [hq] at hv; exact congrArg some hv
    · rw [List.getElem?_replicate] at hv
      split at hv <;> cases hv
  have := ab_ea_get ad as i v hi
  rw [List.getElem?_toArray, List.getElem?_append_left ((List.getElem?_eq_some_iff.mp this).1)]
  exact this
theorem ab_he_n {o : Nat} {b : Bool} {i : Instr} {st st' : List Value} {z z' : ab_S} (h : ab_he o b i st z = some (st', z')) : z'.2.2.2 = z.2.2.2 := by
  unfold ab_he at h
  split at h
  all_goals first
    | (rw [Option.map_eq_some_iff] at h; obtain ⟨_, _, h2⟩ := h; cases h2; rfl)
    | (repeat' split at h) <;> first | (cases h; rfl) | (cases h)
theorem ab_nw_n {o : Nat} {i : Instr} {ls : ab_L} {st st' : List Value} {z z' : ab_S} (h : ab_nw o i ls st z = some (st', z')) : z'.2.2.2 = z.2.2.2 + 1 := by
  unfold ab_nw at h
  split at h
  all_goals (repeat' split at h) <;> first | (cases h; rfl) | (cases h)
theorem ab_ex_n {o : Nat} {b : Bool} {i : Instr} {pc : Nat} {ls : ab_L} {st : List Value} {z : ab_S} {q : Nat × ab_L × List Value × ab_S} (h : ab_ex o b i pc ls st z = some q) : z.2.2.2 ≤ q.2.2.2.2.2.2 := by
  unfold ab_ex at h
  split at h
  · cases h; exact Nat.le_refl _
  · split at h
    · cases h; exact Nat.le_refl _
    · split at h
      · split at h
        · cases h; exact Nat.le_refl _
        · cases h
      · split at h
        · rename_i hq; cases h; exact Nat.le_of_eq (ab_he_n hq).symm
        · split at h
          · rename_i hq; cases h; rw [ab_nw_n hq]; exact Nat.le_succ _
          · cases h
theorem ab_run_n : ∀ (n y pc : Nat) (ls : ab_L) (st : List Value) (z : ab_S) (v : Option Value) (z' : ab_S), ab_run n y pc ls st z = some (v, z') → z.2.2.2 ≤ z'.2.2.2
  | 0, _, _, _, _, _, _, _, h => by cases h
  | n + 1, y, pc, ls, st, z, v, z', h => by
    unfold ab_run at h
    split at h
    · cases h
    · split at h
      · cases h; exact Nat.le_refl _
      · split at h
        · rw [Option.bind_eq_some_iff] at h
          obtain ⟨r, h1, h2⟩ := h
          split at h2
          · exact Nat.le_trans (ab_run_n n _ _ _ _ _ r.1 r.2 h1) (ab_run_n n _ _ _ _ _ _ _ h2)
          · cases h2
        · rw [Option.bind_eq_some_iff] at h
          obtain ⟨q, h1, h2⟩ := h
          exact Nat.le_trans (ab_ex_n h1) (ab_run_n n _ _ _ _ _ _ _ h2)
theorem ab_run_v : ∀ (n y pc : Nat) (ls : ab_L) (st : List Value) (z : ab_S) (v : Value) (z' : ab_S), ab_run n y pc ls st z = some (some v, z') → ∀ k, v ≠ .ref k
  | 0, _, _, _, _, _, _, _, h => by cases h
  | n + 1, y, pc, ls, st, z, v, z', h => by
    unfold ab_run at h
    split at h
    · cases h
    · split at h
      · rename_i v0 hrt
        cases h
        unfold ab_rt at hrt
        split at hrt
        · split at hrt
          · cases hrt; exact fun k q => by cases q
          · split at hrt
            · cases hrt; exact fun k q => by cases q
            · cases hrt
          · cases hrt
        · split at hrt
          · cases hrt; exact fun k q => by cases q
          · cases hrt
        · split at hrt <;> cases hrt
        · cases hrt
      · split at h
        · rw [Option.bind_eq_some_iff] at h
          obtain ⟨r, h1, h2⟩ := h
          split at h2
          · exact ab_run_v n _ _ _ _ _ _ _ h2
          · cases h2
        · rw [Option.bind_eq_some_iff] at h
          obtain ⟨q, h1, h2⟩ := h
          exact ab_run_v n _ _ _ _ _ _ _ h2
set_option maxHeartbeats 8000000 in
theorem ab_sound (l : Launch) (D : va_G) (cs : ab_C3) : ∀ (n y pc : Nat) (ls : ab_L) (st : List Value) (z : ab_S) (v : Option Value) (z' : ab_S), y < 203 → ab_run n y pc ls st z = some (v, z') →
    ∀ {p : Program} {e : Env} {s : State} {m : MethodId} {args : Array Value} {below : List Frame} {meth : Method} {c : Code} {H : Heap} {locs : List Loc} {lc : Array Slot} {ad ad0 : Nat → Nat} {z0 : ab_S} {A : Nat → Prop},
    p.tables.exec = Jvm.exec → c.code = (ab_row y).2.1 → meth.sig.returnType = (ab_row y).2.2.2.1 → meth.locks = false → c.maxLocals = (ab_row y).2.2.1 → s.vm.findClass (ab_row y).1.cls = some m.cls → meth.name = (ab_row y).1.name → (∀ w ∈ ab_wd, w.before args s = true) → ab_N s → va_K D vwCl (ab_ty3 cs) s →
    z0.2.2.2 ≤ z.2.2.2 → (∀ k, (k < z0.2.2.2 ∨ 999 ≤ k) → ad k = ad0 k) → (z.2.2.2 = z0.2.2.2 → ad = ad0) → ab_has lc (ab_row y).2.2.1 ad ls → va_P D vwCl (ab_wl cs ad z) H → va_D A (ab_wl cs ad z) → va_S A s.heap H locs → (∀ q, s.heap.size ≤ q → A q) →
    W p l e (ab_rm y (z'.2.2.2 - z0.2.2.2) (ab_sl z'.2.2.2 - ab_sl z0.2.2.2)) s m args below meth c H locs (z.2.2.2 - z0.2.2.2) (ab_sl z.2.2.2 - ab_sl z0.2.2.2) (MQ below (ab_Qc D cs ad0 z0.2.2.2 v z' A) args s (z'.2.2.2 - z0.2.2.2) (ab_sl z'.2.2.2 - ab_sl z0.2.2.2) A) (F0 m pc lc (st.map (ab_v ad)))
  | 0, _, _, _, _, _, _, _, _, h => by cases h
  | n + 1, y, pc, ls, st, z, v, z', hy, h => by
    rename_i p e s m args below meth c H locs lc ad ad0 z0 A
    intro hx hb hr hlocks hml hown hname hts hN hK hn0 hag hsame hl hP hD hS hA
    obtain ⟨w1, w2, w3, w4, w5, w6, w7, w8, w9, w10, w11, w12⟩ := ab_mkW hy
    unfold ab_run at h
    split at h
    · cases h
    · rename_i i hi
      obtain ⟨len, hd, hlen⟩ := ab_dcW hy hi
      have fin : ∀ (t : State), t.heap = H → z = z' → ab_Qc D cs ad0 z0.2.2.2 v z' A args s (.returned v) t := by
        intro t ht hz
        subst hz
        exact ⟨⟨ad, rfl, hag, hsame, by rw [ht]; exact hP, hD⟩, hS.F ht⟩
      split at h
      · rename_i v0 hrt
        cases h
        unfold ab_rt at hrt
        split at hrt
        · split at hrt
          · rename_i hret
            cases hrt
            rcases hlen with rfl | hlen
            · exact W.iret hx hb (by rw [hr, hret]) (fun t ht hW => fin t ht rfl) hS.2.2 hd hlocks
            · cases hlen
          · rename_i hret
            split at hrt
            · rename_i h01
              cases hrt
              rcases hlen with rfl | hlen
              · exact W.zret hx hb (by rw [hr, hret]) (ab_nar h01).2.1 (fun t ht hW => fin t ht rfl) hS.2.2 hd hlocks
              · cases hlen
            · cases hrt
          · cases hrt
        · split at hrt
          · rename_i hret
            cases hrt
            rcases hlen with rfl | hlen
            · exact W.lret hx hb (by rw [hr, hret]) (fun t ht hW => fin t ht rfl) hS.2.2 hd hlocks
            · cases hlen
          · cases hrt
        · split at hrt
          · rename_i hret
            cases hrt
            rcases hlen with rfl | hlen
            · exact W.vret hx hb (by rw [hr, hret]) (fun t ht hW => fin t ht rfl) hS.2.2 hd hlocks
            · cases hlen
          · cases hrt
        · cases hrt
      · split at h
        · rename_i y' as rest hcl
          rw [Option.bind_eq_some_iff] at h
          obtain ⟨⟨v1, z1⟩, h1, h2⟩ := h
          split at h2
          · rename_i hbd
            have hmono1 := ab_run_n n _ _ _ _ _ _ _ h1
            have hmono2 := ab_run_n n _ _ _ _ _ _ _ h2
            dsimp only at hmono1 hmono2 hbd h2
            have hs1 := ab_sl_le hmono1
            have hs2 := ab_sl_le hmono2
            have hs0 := ab_sl_le hn0
            have hlen3 : len = ab_sz i := by
              rcases hlen with q | q
              · exact q
              · unfold ab_cl at hcl
                split at hcl <;> first | (cases q) | (cases hcl)
            have hM : y' < 203 → (ab_ea as).length ≤ (ab_row y').2.2.1 → ab_Met l D cs y' as z v1 z1 := by
              intro hy' hea ad1 sz
              obtain ⟨x1, x2, x3, x4, x5, x6, x7, x8, x9, x10, x11, x12⟩ := ab_mkW hy'
              refine Met.ofW (cc := (ab_row y').2.1) (maxL := (ab_row y').2.2.1) (ret := (ab_row y').2.2.2.1) (ws' := ab_wd) x1.1 rfl ?_
              intro p e s m args below meth c s₁ B hml hv
              obtain ⟨rfl, hsz, hP1, hK1, hD1, hN1⟩ := hv
              subst hsz
              have hts1 := atoms_spec (ws := ab_ws y') B.pre
              rw [lg_entry_eq]
              have key := ab_sound l D cs n y' 0 _ [] z v1 z1 hy' h1 (p := p) (e := e) (s := s) (m := m) (args := (as.map (ab_v ad1)).toArray) (below := below) (meth := meth) (c := c) (H := s.heap) (locs := []) (lc := ((lg_sl (as.map (ab_v ad1)) ++ List.replicate ((ab_row y').2.2.1 - (lg_sl (as.map (ab_v ad1))).length) Slot.unset).toArray)) (ad := ad1) (ad0 := ad1) (z0 := z) (A := va_A (ab_wl cs ad1 z) s.heap.size) B.exec B.bytes B.returns B.notSynchronized hml (findClass_of_methodNamed B.named) (name_of_methodNamed B.named B.method).1 (fun w hw => hts1 w (List.mem_cons_of_mem _ hw)) hN1 hK1 (Nat.le_refl _) (fun _ _ => rfl) (fun _ => rfl) (ab_en_has ad1 as hea) hP1 hD1.self va_S.rf (fun q hq => Or.inr hq)
              rw [Nat.sub_self, Nat.sub_self] at key
              exact key
            have hea : (ab_ea as).length ≤ (ab_row y').2.2.1 := by
              unfold ab_cl at hcl
              have aux : ∀ {kd j : Nat}, ab_go y kd j z.2.2.2 st = some (y', as, rest) → (ab_ea as).length ≤ (ab_row y').2.2.1 := by
                intro kd j hg
                unfold ab_go at hg
                split at hg
                · split at hg
                  · split at hg
                    · rename_i hc
                      cases hg
                      have := hc.2
                      simp only [ab_gd, Bool.and_eq_true, decide_eq_true_eq] at this
                      exact this.2
                    · cases hg
                  · cases hg
                · cases hg
              split at hcl <;> first | exact aux hcl | cases hcl
            refine ab_cl_W hy hx hb hcl (hlen3 ▸ hd) (by rw [w7]; exact hown) hml hl.1 hts hN hK hP hD hS hA rfl rfl (fun q => hM q hea) (by show _ ≤ z'.2.2.2 - z0.2.2.2; omega) (by show _ ≤ ab_sl z'.2.2.2 - ab_sl z0.2.2.2; omega) (fun ad' H1 locs1 ha1 ha2 hP1 hD1 hS1 => ?_)
            have hv1 : ∀ v2, v1 = some v2 → ∀ k, v2 ≠ .ref k := fun v2 e2 => ab_run_v n _ _ _ _ _ v2 _ (e2 ▸ h1)
            have el : ab_has lc (ab_row y).2.2.1 ad' ls ∧ (v1.toList ++ rest.map (ab_v ad)) = (v1.toList ++ rest).map (ab_v ad') := by
              have e0 : v1.toList.map (ab_v ad') = v1.toList := by
                cases v1 with
                | none => rfl
                | some v2 =>
                  have := hv1 v2 rfl
                  cases v2 with
                  | ref k => exact absurd rfl (this k)
                  | _ => rfl
              unfold ab_cb at hbd
              split at hbd
              · simp only [ab_bd, Bool.and_eq_true] at hbd
                exact ⟨ab_has_n ha1 hbd.1.1 hl, by rw [List.map_append, e0, ab_vs_n ha1 hbd.1.2]⟩
              · have q : z1.2.2.2 = z.2.2.2 := by rw [of_decide_eq_true hbd]
                rw [ha2 q] at e0 ⊢
                exact ⟨hl, by rw [List.map_append, e0]⟩
            rw [el.2, show z.2.2.2 - z0.2.2.2 + (z1.2.2.2 - z.2.2.2) = z1.2.2.2 - z0.2.2.2 by omega, show ab_sl z.2.2.2 - ab_sl z0.2.2.2 + (ab_sl z1.2.2.2 - ab_sl z.2.2.2) = ab_sl z1.2.2.2 - ab_sl z0.2.2.2 by omega]
            exact ab_sound l D cs n y (pc + 3) ls _ z1 v z' hy h2 hx hb hr hlocks hml hown hname hts hN hK (by omega) (fun k hk => (ha1 k (by omega)).trans (hag k hk)) (fun hq => by rw [ha2 (by omega)]; exact hsame (by omega)) el.1 hP1 hD1 hS1 hA
          · cases h2
        · rw [Option.bind_eq_some_iff] at h
          obtain ⟨⟨pc', ls', st', z1⟩, h1, h2⟩ := h
          have hmono1 := ab_ex_n h1
          have hmono2 := ab_run_n n _ _ _ _ _ _ _ h2
          dsimp only at hmono1 hmono2 h2
          have hs1 := ab_sl_le hmono1
          have hs2 := ab_sl_le hmono2
          have hs0 := ab_sl_le hn0
          have ho : ab_own y < 12 := by omega
          have hfr : 1 ≤ (ab_rm y (z'.2.2.2 - z0.2.2.2) (ab_sl z'.2.2.2 - ab_sl z0.2.2.2)).frames := w9
          have hlo : 64 ≤ (ab_rm y (z'.2.2.2 - z0.2.2.2) (ab_sl z'.2.2.2 - ab_sl z0.2.2.2)).locals := by
            show 64 ≤ 64 * ab_rk y
            have : 0 < ab_rk y := w9
            omega
          unfold ab_ex at h1
          split at h1
          · rename_i st1 hop
            cases h1
            have hsz : len = ab_sz i := by
              rcases hlen with q | q
              · exact q
              · cases i <;> first | (cases q; done) | (simp [ab_op] at hop)
            exact ab_op_W hx hb hop (hsz ▸ hd) (ab_sound l D cs n y _ ls _ z v z' hy h2 hx hb hr hlocks hml hown hname hts hN hK hn0 hag hsame hl hP hD hS hA)
          · split at h1
            · rename_i ls1 st1 hlo1
              cases h1
              have hsz : len = ab_sz i := by
                rcases hlen with q | q
                · exact q
                · cases i <;> first | (cases q; done) | (simp [ab_lo] at hlo1)
              exact ab_lo_W hx hb hlo1 (hsz ▸ hd) hl (fun lc' hl' => ab_sound l D cs n y _ ls' _ z v z' hy h2 hx hb hr hlocks hml hown hname hts hN hK hn0 hag hsame hl' hP hD hS hA)
            · split at h1
              · rename_i t off st1 hbr
                split at h1
                · rename_i h0
                  cases h1
                  exact ab_br_W hx hb hbr h0 hd hlen (ab_sound l D cs n y _ ls _ z v z' hy h2 hx hb hr hlocks hml hown hname hts hN hK hn0 hag hsame hl hP hD hS hA)
                · cases h1
              · split at h1
                · rename_i st1 z2 hhe
                  cases h1
                  have hsz : len = ab_sz i := by
                    rcases hlen with q | q
                    · exact q
                    · cases i <;> first | (cases q; done) | (simp [ab_he] at hhe)
                  have hzn := ab_he_n hhe
                  refine ab_he_W hx hb hhe (hsz ▸ hd) ho (by rw [w7]; exact hown) (by rw [hml]; exact hl.1.symm) (fun q => by rw [hname]; exact eq_of_beq q) hts hK hP hD hS hfr hlo (by show _ ≤ z'.2.2.2 - z0.2.2.2; omega) (by show _ ≤ ab_sl z'.2.2.2 - ab_sl z0.2.2.2; omega) (fun H' locs' _ hP' hD' hS' => ?_)
                  rw [← hzn] at hn0 hsame ⊢
                  exact ab_sound l D cs n y _ ls _ z1 v z' hy h2 hx hb hr hlocks hml hown hname hts hN hK hn0 hag hsame hl hP' hD' hS' hA
                · split at h1
                  · rename_i st1 z2 hnw
                    cases h1
                    have hsz : len = ab_sz i := by
                      rcases hlen with q | q
                      · exact q
                      · cases i <;> first | (cases q; done) | (simp [ab_nw] at hnw)
                    have hzn := ab_nw_n hnw
                    have hwz : ab_sl z1.2.2.2 = ab_sl z.2.2.2 + ab_wz z.2.2.2 := by rw [hzn]; rfl
                    refine ab_nw_W hx hb hnw (hsz ▸ hd) ho (by rw [w7]; exact hown) hts hl hK hP hD hS hA (by show _ ≤ z'.2.2.2 - z0.2.2.2; omega) (by show _ ≤ ab_sl z'.2.2.2 - ab_sl z0.2.2.2; omega) (fun ad' H' _ ha1 hl' hP' hD' hS' => ?_)
                    rw [show z.2.2.2 - z0.2.2.2 + 1 = z1.2.2.2 - z0.2.2.2 by omega, show ab_sl z.2.2.2 - ab_sl z0.2.2.2 + ab_wz z.2.2.2 = ab_sl z1.2.2.2 - ab_sl z0.2.2.2 by omega]
                    exact ab_sound l D cs n y _ ls _ z1 v z' hy h2 hx hb hr hlocks hml hown hname hts hN hK (by omega) (fun k hk => (ha1 k (by omega)).trans (hag k hk)) (fun hq => by omega) hl' hP' hD' hS' hA
                  · cases h1
theorem ab_metOf (l : Launch) (D : va_G) (cs : ab_C3) {n y' : Nat} {as : List Value} {z z1 : ab_S} {v1 : Option Value} (hy' : y' < 203) (hea : (ab_ea as).length ≤ (ab_row y').2.2.1) (h1 : ab_run n y' 0 (ab_en (ab_row y').2.2.1 as) [] z = some (v1, z1)) : ab_Met l D cs y' as z v1 z1 := by
  intro ad1 sz
  obtain ⟨x1, x2, x3, x4, x5, x6, x7, x8, x9, x10, x11, x12⟩ := ab_mkW hy'
  refine Met.ofW (cc := (ab_row y').2.1) (maxL := (ab_row y').2.2.1) (ret := (ab_row y').2.2.2.1) (ws' := ab_wd) x1.1 rfl ?_
  intro p e s m args below meth c s₁ B hml hv
  obtain ⟨rfl, hsz, hP1, hK1, hD1, hN1⟩ := hv
  subst hsz
  have hts1 := atoms_spec (ws := ab_ws y') B.pre
  rw [lg_entry_eq]
  have key := ab_sound l D cs n y' 0 _ [] z v1 z1 hy' h1 (p := p) (e := e) (s := s) (m := m) (args := (as.map (ab_v ad1)).toArray) (below := below) (meth := meth) (c := c) (H := s.heap) (locs := []) (lc := ((lg_sl (as.map (ab_v ad1)) ++ List.replicate ((ab_row y').2.2.1 - (lg_sl (as.map (ab_v ad1))).length) Slot.unset).toArray)) (ad := ad1) (ad0 := ad1) (z0 := z) (A := va_A (ab_wl cs ad1 z) s.heap.size) B.exec B.bytes B.returns B.notSynchronized hml (findClass_of_methodNamed B.named) (name_of_methodNamed B.named B.method).1 (fun w hw => hts1 w (List.mem_cons_of_mem _ hw)) hN1 hK1 (Nat.le_refl _) (fun _ _ => rfl) (fun _ => rfl) (ab_en_has ad1 as hea) hP1 hD1.self va_S.rf (fun q hq => Or.inr hq)
  rw [Nat.sub_self, Nat.sub_self] at key
  exact key
