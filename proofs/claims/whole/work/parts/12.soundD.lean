/-! SOUND, fourth: calls, and the whole -/
theorem ab_mkW {y : Nat} (h : y < 203) : (plainName (ab_row y).1.cls = true ∧ (ab_row y).1.cls ≠ "java/lang/invoke/MethodHandle" ∧ (ab_row y).1.cls ≠ "java/lang/invoke/VarHandle") ∧ Cond.code (ab_row y).1 (ab_row y).2.1 (ab_row y).2.2.1 (ab_row y).2.2.2.1 ∈ ab_wd ∧ Cond.initialized (ab_row y).1.cls ∈ ab_wd ∧
    ((ab_row y).2.2.2.2.2.1 = true → Cond.static (ab_row y).1 ∈ ab_wd) ∧ ((ab_row y).2.2.2.2.2.1 = false → Cond.instanceMethod (ab_row y).1 ∈ ab_wd ∧ ((ab_row y).1.name ≠ "<init>" → Cond.selects (ab_row y).1.cls (ab_row y).1 (ab_row y).1 ∈ ab_wd)) ∧
    ((parseMethodDescriptor (ab_row y).1.desc).map (fun d => d.parameters.length) = some (ab_row y).2.2.2.2.1) ∧ ab_cn.getD (ab_own y) "" = (ab_row y).1.cls ∧ (ab_row y).2.2.1 ≤ 20 ∧ 0 < (ab_row y).2.2.2.2.2.2.1 ∧ ab_own y < 11 ∧ ((ab_row y).1.name = "<init>" → (ab_row y).2.2.2.1 = none) ∧ ((ab_row y).2.2.2.2.2.1 = false → (vwCl[ab_own y]?).map (fun r => r.1) = some (ab_row y).1.cls) := by
  have hk := ab_mks h
  simp only [ab_mk, Bool.and_eq_true, decide_eq_true_eq] at hk
  obtain ⟨⟨⟨⟨⟨⟨⟨⟨⟨⟨⟨⟨⟨h1, h2⟩, h3⟩, h4⟩, h5⟩, h6⟩, h7⟩, h8⟩, h9⟩, h10⟩, h11⟩, h12⟩, h13⟩, h14⟩ := hk
  refine ⟨⟨h1, h2, h3⟩, ab_at_in h4, ab_at_in h5, fun q => ?_, fun q => ?_, h7, h8, h9, h11, h12, fun q => ?_, fun q => ?_⟩
  · rw [if_pos q] at h6
    exact ab_at_in h6
  · rw [if_neg (by rw [q]; decide)] at h6
    simp only [Bool.and_eq_true, Bool.or_eq_true] at h6
    refine ⟨ab_at_in h6.1, fun hn => ?_⟩
    rcases h6.2 with h | h
    · exact absurd (eq_of_beq h) hn
    · exact ab_at_in h
  · simp only [Bool.or_eq_true, decide_eq_true_eq] at h13
    rcases h13 with h | h
    · rw [q] at h
      exact absurd h (by decide)
    · exact h
  · simp only [Bool.or_eq_true, decide_eq_true_eq] at h14
    rcases h14 with h | h
    · rw [q] at h
      exact absurd h (by decide)
    · exact h
theorem ab_dcW {y pc : Nat} {i : Instr} (h : y < 203) (hi : ab_ins y pc = some i) : ∃ n, decode (ab_row y).2.1 pc = .ok (i, n) ∧ (n = ab_sz i ∨ ab_ts i = true) := by
  have h1 := List.all_eq_true.mp (show (ab_ct.getD y []).all (ab_dk (ab_row y).2.1) = true from ab_dcs h) _ (ab_look hi)
  unfold ab_dk at h1
  dsimp only at h1
  split at h1
  · rename_i i' n hd
    simp only [Bool.and_eq_true, Bool.or_eq_true, decide_eq_true_eq] at h1
    obtain ⟨rfl, h2⟩ := h1
    refine ⟨n, hd, ?_⟩
    rcases h2 with h | h
    · exact Or.inl (eq_of_beq h)
    · exact Or.inr h
  · cases h1
/-- the nest mates' links of all pools -/
def ab_N (U : State) : Prop := ∀ (o j t q : Nat), o < 12 → ab_md o j = some (t, 1, q) → t < 203 → va_Nw (.methodLinkNest (ab_cn.getD o "") j (ab_row t).1 "MarkedHands") U
theorem ab_N.warm {s U : State} (hW : s.WarmedH U.vm) (h : ab_N s) : ab_N U := fun o j t q ho hm ht => va_Nw.warmM hW (h o j t q ho hm ht)
theorem ab_N.same {u U : State} (h : u.vm = U.vm) (hN : ab_N u) : ab_N U := fun o j t q ho hm ht => va_Nw.same rfl h (hN o j t q ho hm ht)
def ab_ws (y : Nat) : List Cond := Cond.code (ab_row y).1 (ab_row y).2.1 (ab_row y).2.2.1 (ab_row y).2.2.2.1 :: ab_wd
theorem ab_pay {y : Nat} (hy : y < 203) {args : Array Value} {s : State} (hts : ∀ w ∈ ab_wd, w.before args s = true) : ∀ w ∈ ab_ws y, ∀ (a' : Array Value) (U : State), s.WarmedH U.vm → w.before a' U = true := by
  intro w hw a' U hW
  have hw' : w ∈ ab_wd := by
    rcases List.mem_cons.mp hw with h | h
    · rw [h]; exact (ab_mkW hy).2.1
    · exact h
  exact word_at hW (ab_wd_good hw') (hts w hw')
def ab_rk (y : Nat) : Nat := (ab_row y).2.2.2.2.2.2.1
def ab_rm (y a b : Nat) : Room := { frames := ab_rk y, cells := a, slots := b, locals := 64 * ab_rk y }
def ab_Pc (D : va_G) (cs : ab_C3) (ad : Nat → Nat) (as : List Value) (z : ab_S) (sz : Nat) : Array Value → State → Prop := va_Pc (as.map (ab_v ad)) (fun U => U.heap.size = sz ∧ va_P D vwCl (ab_wl cs ad z) U.heap ∧ va_K D vwCl (ab_ty3 cs) U ∧ va_D (fun _ => True) (ab_wl cs ad z) ∧ ab_N U)
def ab_Qc (D : va_G) (cs : ab_C3) (ad : Nat → Nat) (n : Nat) (v : Option Value) (z' : ab_S) (A : Nat → Prop) : Array Value → State → Outcome → State → Prop := fun _ st oc t => (∃ ad' : Nat → Nat, oc = .returned v ∧ (∀ k, (k < n ∨ 999 ≤ k) → ad' k = ad k) ∧ (z'.2.2.2 = n → ad' = ad) ∧ va_P D vwCl (ab_wl cs ad' z') t.heap ∧ va_D A (ab_wl cs ad' z')) ∧ va_F A st t
/-- the method y, at these arguments and this state, as a contract over the machine -/
def ab_Met (l : Launch) (D : va_G) (cs : ab_C3) (y : Nat) (as : List Value) (z : ab_S) (v : Option Value) (z' : ab_S) : Prop := ∀ (ad : Nat → Nat) (sz : Nat), Met l (ab_row y).1 (ab_ws y) (ab_rm y (z'.2.2.2 - z.2.2.2) (ab_sl z'.2.2.2 - ab_sl z.2.2.2)) (ab_Pc D cs ad as z sz) (ab_Qc D cs ad z.2.2.2 v z' (va_A (ab_wl cs ad z) sz)) (z'.2.2.2 - z.2.2.2) (ab_sl z'.2.2.2 - ab_sl z.2.2.2) (va_A (ab_wl cs ad z) sz)
section ABE
variable {p : Program} {l : Launch} {e : Env} {R : Room} {s : State} {m : MethodId} {args : Array Value} {below : List Frame} {meth : Method} {c : Code} {H : Heap} {locs : List Loc} {cells slots : Nat} {Q : State → Prop}
variable {cc : ByteArray} {pc : Nat} {lc : Array Slot} {ad : Nat → Nat} {nL : Nat} {D : va_G} {cs : ab_C3} {A A1 : Nat → Prop} {H0 : Heap}
theorem ab_after {mc ms n : Nat} {st0 rest : List Value} {v : Option Value} {z1 : ab_S} {a : Array Value} (hr : va_Run p l e R s m args below meth c H locs cells slots mc ms (F0 m pc lc st0) rest (ab_Qc D cs ad n v z1 A1 a) A1) (hS : va_S A H0 H locs) (hA1 : ∀ q, A1 q → A q)
    (kk : ∀ (ad' : Nat → Nat) (H1 : Heap) (locs1 : List Loc), (∀ k, (k < n ∨ 999 ≤ k) → ad' k = ad k) → (z1.2.2.2 = n → ad' = ad) → va_P D vwCl (ab_wl cs ad' z1) H1 → va_D A (ab_wl cs ad' z1) → va_S A H0 H1 locs1 → W p l e R s m args below meth c H1 locs1 (cells + mc) (slots + ms) Q (F0 m (pc + 3) lc (v.toList ++ rest))) : W p l e R s m args below meth c H locs cells slots Q (F0 m pc lc st0) := by
  intro T hT X
  obtain ⟨v', st₀, t, T', L, h0, X', hL, e1, e2, ⟨⟨ad', hv, ha1, ha2, hP1, hD1⟩, hz, hk⟩, st⟩ := hr T hT X
  cases hv
  rw [h0] at hz hk
  obtain ⟨t2, a1, b1⟩ := kk ad' T'.heap (locs ++ L) ha1 ha2 (by rw [e1]; exact hP1) (hD1.weaken (fun _ _ _ h => hA1 _ h))
    ⟨Nat.le_trans hS.1 (by rw [e1]; exact hz), fun q h1 h2 => by rw [e1, hk q (Nat.lt_of_lt_of_le h1 hS.1) (fun z => h2 (hA1 q z))]; exact hS.2.1 q h1 h2, fun q hq => by
      rcases List.mem_append.mp hq with h | h
      · exact hS.2.2 q h
      · exact hA1 _ (hL q h)⟩ T' rfl X'
  exact ⟨t2, st t2 a1, b1⟩
theorem ab_blind {as : List Value} {z : ab_S} {sz : Nat} : FrameBlind (ab_Pc D cs ad as z sz) := fun _ U g mk q => by
  obtain ⟨q0, q1, qP, qK, qD, qN⟩ := q
  exact ⟨q0, q1, qP, va_K.moved (u := U) (U := U.calling g mk _) (Vm.Alike.refl U.vm) qK, qD, ab_N.same (u := U) rfl qN⟩
theorem ab_pre {as : List Value} {z : ab_S} (hK : va_K D vwCl (ab_ty3 cs) s) (hN : ab_N s) (hP : va_P D vwCl (ab_wl cs ad z) H) (hD : va_D A (ab_wl cs ad z)) : ∀ U : State, U.heap = H → s.WarmedH U.vm → ab_Pc D cs ad as z H.size (as.map (ab_v ad)).toArray U :=
  fun U hU hW => ⟨rfl, by rw [hU], by rw [hU]; exact hP, va_K.moved hW.alike hK, hD.weaken (fun _ _ _ _ => trivial), hN.warm hW⟩
/-- a call, by the callee's contract -/
theorem ab_cl_W {y y' : Nat} {i : Instr} {st as rest : List Value} {z z1 : ab_S} {v : Option Value} (hy : y < 203) (hx : p.tables.exec = Jvm.exec) (hb : c.code = cc) (h : ab_cl y i z.2.2.2 st = some (y', as, rest)) (hd : decode cc pc = .ok (i, ab_sz i)) (hown : s.vm.findClass (ab_cn.getD (ab_own y) "") = some m.cls) (hml : c.maxLocals = nL) (hlc : lc.size = nL) (hts : ∀ w ∈ ab_wd, w.before args s = true) (hN : ab_N s) (hK : va_K D vwCl (ab_ty3 cs) s) (hP : va_P D vwCl (ab_wl cs ad z) H) (hD : va_D A (ab_wl cs ad z)) (hS : va_S A H0 H locs) (hA : ∀ q, H0.size ≤ q → A q)
    (hfr : R.frames = ab_rk y) (hlo : R.locals = 64 * ab_rk y) (hM : y' < 203 → ab_Met l D cs y' as z v z1) (hce : cells + (z1.2.2.2 - z.2.2.2) ≤ R.cells) (hsl : slots + (ab_sl z1.2.2.2 - ab_sl z.2.2.2) ≤ R.slots)
    (kk : ∀ (ad' : Nat → Nat) (H1 : Heap) (locs1 : List Loc), (∀ k, (k < z.2.2.2 ∨ 999 ≤ k) → ad' k = ad k) → (z1.2.2.2 = z.2.2.2 → ad' = ad) → va_P D vwCl (ab_wl cs ad' z1) H1 → va_D A (ab_wl cs ad' z1) → va_S A H0 H1 locs1 → W p l e R s m args below meth c H1 locs1 (cells + (z1.2.2.2 - z.2.2.2)) (slots + (ab_sl z1.2.2.2 - ab_sl z.2.2.2)) Q (F0 m (pc + 3) lc (v.toList ++ rest.map (ab_v ad)))) :
    W p l e R s m args below meth c H locs cells slots Q (F0 m pc lc (st.map (ab_v ad))) := by
  have hoy := (ab_mkW hy).2.2.2.2.2.2.2.2.2.1
  have ho : ab_own y < 12 := by omega
  have hA1 : ∀ q, va_A (ab_wl cs ad z) H.size q → A q := by
    intro q hq
    rcases hq with ⟨k, e, hk⟩ | hq
    · exact hD.2 k (q, e) hk
    · exact hA q (Nat.le_trans hS.1 hq)
  have common : ∀ {kd j : Nat}, ab_go y kd j z.2.2.2 st = some (y', as, rest) → y' < 203 ∧ ∃ nest : Nat, ab_gd kd y y' nest z.2.2.2 as rest = true ∧ st = as.reverse ++ rest ∧ (nest = 0 → (Cond.methodLink (ab_cn.getD (ab_own y) "") j (ab_row y').1).before args s = true) ∧ (¬ nest = 0 → va_Nw (.methodLinkNest (ab_cn.getD (ab_own y) "") j (ab_row y').1 "MarkedHands") s) := by
    intro kd j hg
    unfold ab_go at hg
    split at hg
    · rename_i t nest q hmd
      split at hg
      · rename_i y1 hto
        split at hg
        · rename_i hc
          cases hg
          have hw := ab_mdW ho hmd
          have ht : t < 1000 := hc.1
          rw [if_neg (by omega), if_neg (by omega), if_neg (by omega), if_neg (by omega)] at hw
          simp only [Bool.and_eq_true, decide_eq_true_eq] at hw
          have hrow : y' < 203 ∧ (ab_row t).1 = (ab_row y').1 := by
            unfold ab_to at hto
            split at hto
            · rename_i h4
              subst h4
              split at hto
              · rename_i hh
                cases hto
                refine ⟨by omega, ?_⟩
                have := ab_dl (y - 3) (by omega)
                rw [show 4 + (y - 3) = y + 1 by omega] at this
                exact this.symm
              · split at hto
                · cases hto
                · cases hto
                  exact ⟨by omega, rfl⟩
            · cases hto
              exact ⟨hw.1, rfl⟩
          refine ⟨hrow.1, nest, hc.2, ?_, fun hn => ?_, fun hn => ?_⟩
          · rw [List.reverse_reverse, List.take_append_drop]
          · have h2 := hw.2
            rw [if_pos hn] at h2
            rw [← hrow.2]
            exact hts _ (ab_at_in h2)
          · have h2 := hw.2
            rw [if_neg hn] at h2
            simp only [decide_eq_true_eq] at h2
            rw [← hrow.2]
            have hmd' := hmd
            rw [h2.1] at hmd'
            exact hN _ _ _ _ ho hmd' hw.1
        · cases hg
      · cases hg
    · cases hg
  have gd : ∀ {kd nest : Nat}, ab_gd kd y y' nest z.2.2.2 as rest = true → as.length = (ab_row y').2.2.2.2.1 + (if kd = 1 then 0 else 1) ∧ ab_rk y' < ab_rk y ∧ (rest.map (fun v => v.category)).sum ≤ 8 ∧ ((ab_row y').2.2.2.2.2.1 = (kd == 1)) ∧ (((ab_row y').1.name == "<init>") = (kd == 2)) ∧ (kd = 1 ∨ ab_rc (ab_own y') z.2.2.2 as = true) ∧ (kd = 0 → nest = 0) ∧ (ab_ea as).length ≤ (ab_row y').2.2.1 := by
    intro kd nest hg
    simp only [ab_gd, Bool.and_eq_true, decide_eq_true_eq, Bool.or_eq_true, beq_iff_eq, bne_iff_ne, ne_eq] at hg
    obtain ⟨⟨⟨⟨⟨⟨⟨g1, g2⟩, g3⟩, g4⟩, g5⟩, g6⟩, g7⟩, g8⟩ := hg
    exact ⟨g1, g2, g3, g4, g5, g6, fun hk => by rcases g7 with h | h; exact absurd hk h; exact h, g8⟩
  have h8 : (rest.map (fun v => v.category)).sum ≤ 8 → 2 * (F0 m pc lc (st.map (ab_v ad))).monitorRoom + ((rest.map (ab_v ad)).map (fun v => v.category)).sum ≤ 8 := fun h => lv_room (by rw [ab_v_cats]; exact h)
  have cbB : y' < 203 → ab_rk y' < ab_rk y → ∀ {n j : Nat}, n = (ab_row y').2.2.2.2.1 → (Cond.methodLink (ab_cn.getD (ab_own y) "") j (ab_row y').1).before args s = true → CallB R s args (ab_cn.getD (ab_own y) "") j (ab_row y').1 (ab_row y').2.1 (ab_row y').2.2.1 (ab_row y').2.2.2.1 (ab_ws y') (ab_rm y' (z1.2.2.2 - z.2.2.2) (ab_sl z1.2.2.2 - ab_sl z.2.2.2)) (z1.2.2.2 - z.2.2.2) (ab_sl z1.2.2.2 - ab_sl z.2.2.2) n := by
    intro hy' hrk n j hn hl
    obtain ⟨w1, w2, w3, w4, w5, w6, w7, w8, w9, w10, w11, w12⟩ := ab_mkW hy'
    refine ⟨rfl, rfl, ?_, ?_, ab_pay hy' hts, List.mem_cons_self, hts _ w2, hts _ w3, ⟨w1.2.1, w1.2.2⟩, fun sig hs => ?_, hl⟩
    · show ab_rk y' + 1 ≤ R.frames
      omega
    · show 8 + ((ab_row y').2.2.1 + 11) + 64 * ab_rk y' ≤ R.locals
      omega
    · rw [hs] at w6
      exact hn.trans (Option.some.inj w6).symm
  have cbN : y' < 203 → ab_rk y' < ab_rk y → ∀ {n j : Nat}, n = (ab_row y').2.2.2.2.1 → va_Nw (.methodLinkNest (ab_cn.getD (ab_own y) "") j (ab_row y').1 "MarkedHands") s → va_CN R s args (ab_cn.getD (ab_own y) "") j (ab_row y').1 "MarkedHands" (ab_row y').2.1 (ab_row y').2.2.1 (ab_row y').2.2.2.1 (ab_ws y') (ab_rm y' (z1.2.2.2 - z.2.2.2) (ab_sl z1.2.2.2 - ab_sl z.2.2.2)) (z1.2.2.2 - z.2.2.2) (ab_sl z1.2.2.2 - ab_sl z.2.2.2) n := by
    intro hy' hrk n j hn hl
    obtain ⟨w1, w2, w3, w4, w5, w6, w7, w8, w9, w10, w11, w12⟩ := ab_mkW hy'
    refine ⟨⟨rfl, rfl, ?_, ?_, ab_pay hy' hts, List.mem_cons_self⟩, hts _ w2, hts _ w3, ⟨w1.2.1, w1.2.2⟩, fun sig hs => ?_, va_Nw.use rfl hl⟩
    · show ab_rk y' + 1 ≤ R.frames
      omega
    · show 8 + ((ab_row y').2.2.1 + 11) + 64 * ab_rk y' ≤ R.locals
      omega
    · rw [hs] at w6
      exact hn.trans (Option.some.inj w6).symm
  have rc : ab_rc (ab_own y') z.2.2.2 as = true → ∃ (k : Nat) (as' : List Value), as = .ref k :: as' ∧ ab_ly k = (0, ab_own y') ∧ k < z.2.2.2 := by
    intro h
    cases hq : as with
    | nil => rw [hq] at h; cases h
    | cons v as' =>
      rw [hq] at h
      cases v with
      | ref k =>
        have h2 : (ab_ly k == (0, ab_own y') && decide (k < z.2.2.2)) = true := h
        rw [Bool.and_eq_true, beq_iff_eq, decide_eq_true_eq] at h2
        exact ⟨k, as', rfl, h2.1, h2.2⟩
      | _ => cases h
  unfold ab_cl at h
  split at h
  · rename_i j
    obtain ⟨hy', nest, hg, hst, hl0, hl1⟩ := common h
    obtain ⟨g1, g2, g3, g4, g5, g6, g7, g8⟩ := gd hg
    obtain ⟨k0, as', rfl, hly, hk0⟩ := rc (by rcases g6 with q | q; exact absurd q (by decide); exact q)
    obtain ⟨w1, w2, w3, w4, w5, w6, w7, w8, w9, w10, w11, w12⟩ := ab_mkW hy'
    have hst0 : (ab_row y').2.2.2.2.2.1 = false := by rw [g4]; rfl
    have hnm : (ab_row y').1.name ≠ "<init>" := fun q => by rw [q] at g5; exact absurd g5 (by decide)
    have hcl : vwCl[ab_own y']? = some ((vwCl[ab_own y']?).getD ("", fun _ => ("", "", "", false), 0)) ∧ ((vwCl[ab_own y']?).getD ("", fun _ => ("", "", "", false), 0)).1 = (ab_row y').1.cls := by
      have := w12 hst0
      cases hq : vwCl[ab_own y']? with
      | none => rw [hq] at this; cases this
      | some r => rw [hq] at this; exact ⟨rfl, Option.some.inj this⟩
    have he := ab_wl_at (cs := cs) (ad := ad) hk0
    rw [ab_ce_obj hly] at he
    have hrec := va_recv hK hP hcl.1 he
    rw [hcl.2] at hrec
    have hn : (as'.map (ab_v ad)).length = (ab_row y').2.2.2.2.1 := by
      rw [List.length_map]
      have : as'.length + 1 = (ab_row y').2.2.2.2.1 + 1 := g1
      omega
    exact ab_after (va_runV (As := as'.map (ab_v ad)) (rest := rest.map (ab_v ad)) ⟨hx, hb, hml, hown, hts⟩ (hM hy' ad H.size) ⟨cbB hy' g2 rfl (hl0 (g7 rfl)), hts _ (w5 hst0).1, hts _ ((w5 hst0).2 hnm)⟩ ⟨ab_blind, hrec, ab_pre hK hN hP hD⟩ rfl hn hlc (by rw [hst]; simp [ab_v]) (h8 g3) hd ⟨hce, hsl⟩) hS hA1 kk
  · rename_i j
    obtain ⟨hy', nest, hg, hst, hl0, hl1⟩ := common h
    obtain ⟨g1, g2, g3, g4, g5, g6, g7, g8⟩ := gd hg
    obtain ⟨w1, w2, w3, w4, w5, w6, w7, w8, w9, w10, w11, w12⟩ := ab_mkW hy'
    have hst0 : (ab_row y').2.2.2.2.2.1 = true := by rw [g4]; rfl
    have hn : (as.map (ab_v ad)).length = (ab_row y').2.2.2.2.1 := by
      rw [List.length_map]
      exact g1
    by_cases hne : nest = 0
    · exact ab_after (va_runS (As := as.map (ab_v ad)) (rest := rest.map (ab_v ad)) ⟨hx, hb, hml, hown, hts⟩ (hM hy' ad H.size) ⟨cbB hy' g2 rfl (hl0 hne), hts _ (w4 hst0)⟩ ⟨ab_blind, ab_pre hK hN hP hD⟩ rfl hn hlc (by rw [hst]; simp) (h8 g3) hd ⟨hce, hsl⟩) hS hA1 kk
    · exact ab_after (va_runSN (As := as.map (ab_v ad)) (rest := rest.map (ab_v ad)) ⟨hx, hb, hml, hown, hts⟩ (hM hy' ad H.size) ⟨cbN hy' g2 rfl (hl1 hne), hts _ (w4 hst0), trivial⟩ ⟨ab_blind, ab_pre hK hN hP hD⟩ rfl hn hlc (by rw [hst]; simp) (h8 g3) hd ⟨hce, hsl⟩) hS hA1 kk
  · rename_i j
    obtain ⟨hy', nest, hg, hst, hl0, hl1⟩ := common h
    obtain ⟨g1, g2, g3, g4, g5, g6, g7, g8⟩ := gd hg
    obtain ⟨k0, as', rfl, hly, hk0⟩ := rc (by rcases g6 with q | q; exact absurd q (by decide); exact q)
    obtain ⟨w1, w2, w3, w4, w5, w6, w7, w8, w9, w10, w11, w12⟩ := ab_mkW hy'
    have hst0 : (ab_row y').2.2.2.2.2.1 = false := by rw [g4]; rfl
    have hnm : (ab_row y').1.name = "<init>" := eq_of_beq (by rw [g5]; rfl)
    have hn : (as'.map (ab_v ad)).length = (ab_row y').2.2.2.2.1 := by
      rw [List.length_map]
      have : as'.length + 1 = (ab_row y').2.2.2.2.1 + 1 := g1
      omega
    have hrn := w11 hnm
    by_cases hne : nest = 0
    · have cb := cbB hy' g2 rfl (hl0 hne)
      rw [hrn] at cb
      exact ab_after (va_runI (b := ad k0) (As := as'.map (ab_v ad)) (rest := rest.map (ab_v ad)) ⟨hx, hb, hml, hown, hts⟩ (hM hy' ad H.size) ⟨cb, hnm, hts _ (w5 hst0).1⟩ ⟨ab_blind, ab_pre hK hN hP hD⟩ rfl hn hlc (by rw [hst]; simp [ab_v]) (h8 g3) hd ⟨hce, hsl⟩) hS hA1 kk
    · have cb := cbN hy' g2 rfl (hl1 hne)
      rw [hrn] at cb
      exact ab_after (va_runIN (b := ad k0) (As := as'.map (ab_v ad)) (rest := rest.map (ab_v ad)) ⟨hx, hb, hml, hown, hts⟩ (hM hy' ad H.size) ⟨cb, hnm, hts _ (w5 hst0).1⟩ ⟨ab_blind, ab_pre hK hN hP hD⟩ rfl hn hlc (by rw [hst]; simp [ab_v]) (h8 g3) hd ⟨hce, hsl⟩) hS hA1 kk
  · cases h
end ABE
