/-! THE CLAIM OUT OF ONE WALK OF THE LAW'S BODY. Your part is whole_start (and what it stands on); all else here is the same for every law, but numbers. -/
def R_law : String := "MarkedHandsLaw"
def lw_P (b : Addr) (xs : List Int32) (args : Array Value) (s : State) : Prop := args = #[.ref b] ∧ s.IntsAt b xs ∧ xs.length ≤ 3072 ∧ (Jvm.Cond.and given_1 narrow_1).before args s = true
def lw_Q (_ : Array Value) (s : State) (o : Outcome) (t : State) : Prop := o = .returned (some (.int 1)) ∧ Framed s o t [] 600000 7302250
def lw_Z (below : List Frame) (a : Array Value) (s : State) : State → Prop := fun t => ∃ o, t.status = .running ∧ Ended t below o ∧ lw_Q a s o t
/-- the law's own end, with 1 on the stack, nothing written that was there before, its room as the claim has it -/
theorem lw_ret {p : Program} {l : Launch} {e : Env} {s : State} {m : MethodId} {below : List Frame} {meth : Method} {c : Code} {b : Nat} (hx : p.tables.exec = Jvm.exec) (hb : c.code = code) (hr : meth.sig.returnType = ret) (hlocks : meth.locks = false) {pc : Nat} {H : Heap} {ls : Array Slot} (hdg : decode code pc = .ok (.ireturn, 1)) : W p l e room_1 s m #[Value.ref b] below meth c H [] 600000 7302250 (lw_Z below #[Value.ref b] s) (F0 m pc ls [.int 1]) := by
  intro T hT X
  obtain ⟨fs, hret, hrun, hended, hW, hframe⟩ := X.leave (v := some (.int 1)) (hlocks := hlocks) (fun h => by rw [hr] at h; cases h)
  have hmeth' : T.vm.method? m = some meth := X.method'
  refine ⟨T.setFrames fs, ?_, .returned (some (.int 1)), hrun, hended, rfl, ⟨_, rfl⟩, hW, hframe⟩
  jvm_step X.here [X.here.top, hx, hb, hdg, hmeth', hr, ret, narrow_b1]
  (try refine ⟨rfl, ?_⟩); (try refine ⟨rfl, ?_⟩)
  first | (intro acts; rw [hret _ acts rfl rfl rfl]) | rw [hret _ _ rfl rfl rfl]
  exact Steps.refl _
/-- what holds at the law's entry: the machine, the code, the tables' words (any of lw_tbl by 'hts w (by decide +kernel)'), the script of L ints xs at the cell b, what the Statement gives of the start (any of its parts by flat_of_before) -/
def lw_At (p : Program) (s : State) (m : MethodId) (meth : Method) (c : Code) (b L : Nat) (xs : Nat → Int32) : Prop :=
  p.tables.exec = Jvm.exec ∧ c.code = code ∧ meth.sig.returnType = ret ∧ c.maxLocals = 4 ∧ s.vm.findClass R_law = some m.cls ∧ (∀ w ∈ lw_tbl, w.before #[Value.ref b] s = true) ∧ va_X b L xs s s.heap ∧ b < s.heap.size ∧ meth.locks = false ∧ (Jvm.Cond.and given_1 narrow_1).before #[Value.ref b] s = true
theorem ab_sl75 {n : Nat} (h : n ≤ 75) : ab_sl n ≤ 7302250 := Nat.le_trans (ab_sl_le h) (by decide +kernel)
theorem ab_dLW {pc : Nat} {i : Instr} (hi : ab_cL.lookup pc = some i) : ∃ n, decode code pc = .ok (i, n) ∧ (n = ab_sz i ∨ ab_ts i = true) := by
  have h1 := List.all_eq_true.mp ab_dL _ (ab_look hi)
  unfold ab_dk at h1
  dsimp only at h1
  split at h1
  · rename_i i' n hd
    simp only [Bool.and_eq_true, Bool.or_eq_true, decide_eq_true_eq] at h1
    obtain ⟨rfl, h2⟩ := h1
    refine ⟨n, hd, ?_⟩
    rcases h2 with h | h
    · exact Or.inl (eq_of_beq h)
    · exact Or.inr h
  · cases h1
set_option maxHeartbeats 8000000 in
theorem ab_lwW (l : Launch) (D : va_G) (cs : ab_C3) (xs : Nat → Int32) (L : Nat) : ∀ (n pc : Nat) (ls : ab_L) (st : List Value) (z : ab_S), ab_lw xs L n pc ls st z = true →
    ∀ (p : Program) (e : Env) (s : State) (m : MethodId) (below : List Frame) (meth : Method) (c : Code) (H : Heap) (locs : List Loc) (lc : Array Slot) (ad : Nat → Nat) (b : Nat),
    p.tables.exec = Jvm.exec → c.code = code → meth.sig.returnType = ret → meth.locks = false → c.maxLocals = 4 → s.vm.findClass (ab_cn.getD 11 "") = some m.cls → (∀ w ∈ ab_wd, w.before #[Value.ref b] s = true) → ab_N s → va_K D vwCl (ab_ty3 cs) s → va_X b L xs s s.heap → b < s.heap.size → z.2.2.2 ≤ 75 → ad 999 = b → ab_has lc 4 ad ls → va_P D vwCl (ab_wl cs ad z) H → va_D (fun q => s.heap.size ≤ q) (ab_wl cs ad z) → va_S (fun q => s.heap.size ≤ q) s.heap H locs →
    W p l e room_1 s m #[Value.ref b] below meth c H locs z.2.2.2 (ab_sl z.2.2.2) (lw_Z below #[Value.ref b] s) (F0 m pc lc (st.map (ab_v ad)))
  | 0, _, _, _, _, h => by cases h
  | n + 1, pc, ls, st, z, h => by
    intro p e s m below meth c H locs lc ad b hx hb hr hlocks hml hown hts hN hK hX hbl hn75 had hl hP hD hS
    have hA : ∀ q, s.heap.size ≤ q → (fun q => s.heap.size ≤ q) q := fun _ h => h
    unfold ab_lw at h
    split at h
    · cases h
    · rename_i i hi
      obtain ⟨len, hd, hlen⟩ := ab_dLW hi
      have hd' : ab_ts i = false → decode code pc = .ok (i, ab_sz i) := by
        intro q
        rcases hlen with r | r
        · rw [← r]; exact hd
        · rw [q] at r; cases r
      split at h
      · rename_i hlr
        unfold ab_lr at hlr
        split at hlr
        · rename_i x
          have hx1 := of_decide_eq_true hlr
          subst hx1
          have e1 := ab_sl75 hn75
          refine W.widen (k := 600000) (n := 7302250) (by omega) e1 ?_
          refine va_forget (fun q hq => hS.2.2 q hq) ?_
          exact lw_ret hx hb hr hlocks (hd' rfl)
        · cases hlr
      · split at h
        · rename_i st1 hlx
          unfold ab_lx at hlx
          split at hlx
          · split at hlx
            · rename_i x k st0 hk
              cases hlx
              obtain ⟨rfl, h0, h1⟩ := hk
              have kk := ab_lwW l D cs xs L n _ ls _ z h p e s m below meth c H locs lc ad b hx hb hr hlocks hml hown hts hN hK hX hbl hn75 had hl hP hD hS
              have e1 : ab_v ad (.ref 999) = .ref b := by show Value.ref (ad 999) = _; rw [had]
              rw [List.map_cons, List.map_cons, e1]
              exact va_sld hx hb hX hbl (Nat.not_le.mpr hbl) hS (ab_vp h0 h1) (hd' rfl) kk
            · cases hlx
          · split at hlx
            · rename_i k st0 hk
              cases hlx
              subst hk
              have kk := ab_lwW l D cs xs L n _ ls _ z h p e s m below meth c H locs lc ad b hx hb hr hlocks hml hown hts hN hK hX hbl hn75 had hl hP hD hS
              have e1 : ab_v ad (.ref 999) = .ref b := by show Value.ref (ad 999) = _; rw [had]
              rw [List.map_cons, e1]
              exact va_slen hx hb hX hbl (Nat.not_le.mpr hbl) hS (hd' rfl) kk
            · cases hlx
          · cases hlx
        · split at h
          · rename_i y' as rest hcl
            split at h
            · rename_i r h1
              obtain ⟨v1, z1⟩ := r
              split at h
              · rename_i hcb
                obtain ⟨hbd, h75⟩ := hcb
                dsimp only at h75 h hbd
                have hmono1 := ab_run_n n _ _ _ _ _ _ _ h1
                have hs1 := ab_sl_le hmono1
                have e75 := ab_sl75 h75
                have hts0 : ab_ts i = false := by
                  cases i <;> first | rfl | (simp [ab_clL] at hcl)
                have hea : (ab_ea as).length ≤ (ab_row y').2.2.1 := by
                  unfold ab_clL at hcl
                  have aux : ∀ {kd j : Nat}, ab_goL kd j z.2.2.2 st = some (y', as, rest) → (ab_ea as).length ≤ (ab_row y').2.2.1 := by
                    intro kd j hg
                    unfold ab_goL at hg
                    split at hg
                    · split at hg
                      · rename_i hc
                        cases hg
                        have := hc.2
                        simp only [ab_gdL, Bool.and_eq_true, decide_eq_true_eq] at this
                        exact this.2
                      · cases hg
                    · cases hg
                  split at hcl <;> first | exact aux hcl | cases hcl
                refine ab_clL_W hx hb hcl (hd' hts0) hown hml hl.1 hts hN hK hP hD hS hA (by decide) (by decide) (fun q => ab_metOf l D cs q hea h1) (by show _ ≤ 600000; omega) (by show _ ≤ 7302250; omega) (fun ad' H1 locs1 ha1 ha2 hP1 hD1 hS1 => ?_)
                have hv1 : ∀ v2, v1 = some v2 → ∀ k, v2 ≠ .ref k := fun v2 e2 => ab_run_v n _ _ _ _ _ v2 _ (e2 ▸ h1)
                have el : ab_has lc 4 ad' ls ∧ (v1.toList ++ rest.map (ab_v ad)) = (v1.toList ++ rest).map (ab_v ad') ∧ ad' 999 = b := by
                  have e0 : v1.toList.map (ab_v ad') = v1.toList := by
                    cases v1 with
                    | none => rfl
                    | some v2 =>
                      have := hv1 v2 rfl
                      cases v2 with
                      | ref k => exact absurd rfl (this k)
                      | _ => rfl
                  refine ⟨?_, ?_, (ha1 999 (Or.inr (by decide))).trans had⟩ <;> unfold ab_cb at hbd <;> split at hbd
                  · simp only [ab_bd, Bool.and_eq_true] at hbd
                    exact ab_has_n ha1 hbd.1.1 hl
                  · have q : z1.2.2.2 = z.2.2.2 := by rw [of_decide_eq_true hbd]
                    rw [ha2 q]
                    exact hl
                  · simp only [ab_bd, Bool.and_eq_true] at hbd
                    rw [List.map_append, e0, ab_vs_n ha1 hbd.1.2]
                  · have q : z1.2.2.2 = z.2.2.2 := by rw [of_decide_eq_true hbd]
                    rw [ha2 q] at e0 ⊢
                    rw [List.map_append, e0]
                rw [el.2.1, show z.2.2.2 + (z1.2.2.2 - z.2.2.2) = z1.2.2.2 by omega, show ab_sl z.2.2.2 + (ab_sl z1.2.2.2 - ab_sl z.2.2.2) = ab_sl z1.2.2.2 by omega]
                exact ab_lwW l D cs xs L n (pc + 3) ls _ z1 h p e s m below meth c H1 locs1 lc ad' b hx hb hr hlocks hml hown hts hN hK hX hbl h75 el.2.2 el.1 hP1 hD1 hS1
              · cases h
            · cases h
          · split at h
            · rename_i q h1
              obtain ⟨pc', ls', st', z1⟩ := q
              split at h
              · rename_i h75
                dsimp only at h75 h
                have hmono1 := ab_ex_n h1
                dsimp only at hmono1
                have hs1 := ab_sl_le hmono1
                have e75 := ab_sl75 h75
                have e75' := ab_sl75 hn75
                unfold ab_ex at h1
                split at h1
                · rename_i st1 hop
                  cases h1
                  have hsz : ab_ts i = false := by cases i <;> first | rfl | (simp [ab_op] at hop)
                  exact ab_op_W hx hb hop (hd' hsz) (ab_lwW l D cs xs L n _ ls _ z h p e s m below meth c H locs lc ad b hx hb hr hlocks hml hown hts hN hK hX hbl hn75 had hl hP hD hS)
                · split at h1
                  · rename_i ls1 st1 hlo1
                    cases h1
                    have hsz : ab_ts i = false := by cases i <;> first | rfl | (simp [ab_lo] at hlo1)
                    exact ab_lo_W hx hb hlo1 (hd' hsz) hl (fun lc' hl' => ab_lwW l D cs xs L n _ ls' _ z h p e s m below meth c H locs lc' ad b hx hb hr hlocks hml hown hts hN hK hX hbl hn75 had hl' hP hD hS)
                  · split at h1
                    · rename_i t off st1 hbr
                      split at h1
                      · rename_i h0
                        cases h1
                        exact ab_br_W hx hb hbr h0 hd hlen (ab_lwW l D cs xs L n _ ls _ z h p e s m below meth c H locs lc ad b hx hb hr hlocks hml hown hts hN hK hX hbl hn75 had hl hP hD hS)
                      · cases h1
                    · split at h1
                      · rename_i st1 z2 hhe
                        cases h1
                        have hsz : ab_ts i = false := by cases i <;> first | rfl | (simp [ab_he] at hhe)
                        have hzn := ab_he_n hhe
                        refine ab_he_W hx hb hhe (hd' hsz) (by decide) hown (by rw [hml]; exact hl.1.symm) (fun q => by cases q) hts hK hP hD hS (by decide) (by decide) (by show _ ≤ 600000; omega) (by show _ ≤ 7302250; omega) (fun H' locs' _ hP' hD' hS' => ?_)
                        rw [← hzn]
                        exact ab_lwW l D cs xs L n _ ls _ z1 h p e s m below meth c H' locs' lc ad b hx hb hr hlocks hml hown hts hN hK hX hbl h75 had hl hP' hD' hS'
                      · split at h1
                        · rename_i st1 z2 hnw
                          cases h1
                          have hsz : ab_ts i = false := by cases i <;> first | rfl | (simp [ab_nw] at hnw)
                          have hzn := ab_nw_n hnw
                          have hwz : ab_sl z1.2.2.2 = ab_sl z.2.2.2 + ab_wz z.2.2.2 := by rw [hzn]; rfl
                          refine ab_nw_W hx hb hnw (hd' hsz) (by decide) hown hts hl hK hP hD hS hA (by show _ ≤ 600000; omega) (by show _ ≤ 7302250; omega) (fun ad' H' _ ha1 hl' hP' hD' hS' => ?_)
                          rw [show z.2.2.2 + 1 = z1.2.2.2 by omega, ← hwz]
                          exact ab_lwW l D cs xs L n _ ls _ z1 h p e s m below meth c H' locs lc ad' b hx hb hr hlocks hml hown hts hN hK hX hbl h75 ((ha1 999 (Or.inr (by decide))).trans had) hl' hP' hD' hS'
                        · cases h1
              · cases h
            · cases h
theorem ab_wd_tbl {w : Cond} (h : w ∈ ab_wd) : w ∈ lw_tbl := (List.mem_filter.mp h).1
/-- nothing is there yet -/
def ab_s0 : ab_S := (fun _ _ => 0, fun _ _ => 0, List.replicate 75 [], 0)
/-- what is left: the law's body by the small machine comes to its end with true -/
def ab_Law : Prop := ∀ (L : Nat) (xs : Nat → Int32), L ≤ 3072 → ∃ n, ab_lw xs L n 0 [some (.ref 999), none, none, none] [] ab_s0 = true
theorem whole_open (hlaw : ab_Law) {p : Program} {e : Env} {s : State} {m : MethodId} {below : List Frame} {meth : Method} {c : Code} (l : Launch) {b L : Nat} {xs : Nat → Int32} (hL : L ≤ 3072) (C0 : lw_At p s m meth c b L xs) : W p l e room_1 s m #[Value.ref b] below meth c s.heap [] 0 0 (lw_Z below #[Value.ref b] s) (entryFrame m ([Value.ref b] : List Value).toArray 4) := by
  obtain ⟨hx, hb, hr, hml, hown, hts0, hX, hbl, hlocks, hgv⟩ := id C0
  have hts : ∀ w ∈ ab_wd, w.before #[Value.ref b] s = true := fun w hw => hts0 w (ab_wd_tbl hw)
  have hcl : ∀ k : Nat, ∃ q : ClassId × (Nat → Nat), ∀ r : vw_C, vwCl[k]? = some r → u_Kn s r.1 r.2.1 r.2.2 q.1 q.2 := by
    intro k
    cases hk : vwCl[k]? with
    | none => exact ⟨(0, fun _ => 0), fun r h => by cases h⟩
    | some r =>
      obtain ⟨w1, w2, w3⟩ := ab_cw hk
      obtain ⟨cC, iS, h⟩ := u_known (C := r.1) (T := r.2.1) (N := r.2.2) (n := r.2.2) hts w1 (hts _ w2)
      exact ⟨(cC, iS), fun r' h' => by cases h'; exact h⟩
  have harr : ∀ ty : FieldType, Cond.arrayClass ty ∈ ab_wd → (∀ C, ty ≠ .object C) → ∃ cA : ClassId, ArrOfT s cA ty ∧ va_RA s cA ty := by
    intro ty hty hno
    obtain ⟨cA, kA, comp, h1, h2, h3⟩ := Cond.arrayClass_spec (hts _ hty)
    refine ⟨cA, fun n z => ⟨fun k h => (by cases h), kA, h2, comp, h3⟩, ?_⟩
    cases ty with
    | object C => exact absurd rfl (hno C)
    | _ => exact h1
  obtain ⟨cI, hI1, hI2⟩ := harr .int (ab_oth (by simp)) (fun C h => by cases h)
  obtain ⟨cJ, hJ1, hJ2⟩ := harr .long (ab_oth (by simp)) (fun C h => by cases h)
  obtain ⟨cZ, hZ1, hZ2⟩ := harr .boolean (ab_oth (by simp)) (fun C h => by cases h)
  have hK : va_K (fun k => (Classical.choose (hcl k)).1, fun k => (Classical.choose (hcl k)).2) vwCl (ab_ty3 (cI, cJ, cZ)) s := by
    refine ⟨fun k q hq => Classical.choose_spec (hcl k) q hq, fun k q hk => ?_⟩
    match k, hk with
    | 0, hk => cases hk; exact ⟨hI1, hI2⟩
    | 1, hk => cases hk; exact ⟨hJ1, hJ2⟩
    | 2, hk => cases hk; exact ⟨hZ1, hZ2⟩
    | k + 3, hk => simp [ab_ty3] at hk
  have hN : ab_N s := by
    intro o j t q ho hm ht
    have hw := ab_mdW ho hm
    rw [if_neg (by omega), if_neg (by omega), if_neg (by omega), if_neg (by omega)] at hw
    simp only [Bool.and_eq_true, decide_eq_true_eq] at hw
    have h2 := hw.2
    rw [if_neg (by decide)] at h2
    simp only [decide_eq_true_eq] at h2
    exact va_Nw.of rfl (hts0 _ (List.mem_of_getElem? h2.2))
  obtain ⟨n, hn⟩ := hlaw L xs hL
  rw [lg_entry_eq]
  have hl := ab_en_has (fun _ => b) [Value.ref 999] (n := 4) (by decide)
  exact ab_lwW l _ (cI, cJ, cZ) xs L n 0 _ [] ab_s0 hn p e s m below meth c s.heap [] _ (fun _ => b) b hx hb hr hlocks hml hown hts hN hK hX hbl (by decide) rfl hl (fun k q h => by simp [ab_wl, ab_s0] at h) ⟨fun i j p q h => by simp [ab_wl, ab_s0] at h, fun k q h => by simp [ab_wl, ab_s0] at h⟩ va_S.rf
