/-! THE LAW'S OWN BODY, by the small machine: the script is the cell 999, which is only read -/
def ab_gdL (kd y' nest n : Nat) (as rest : List Value) : Bool :=
  let q := ab_row y'
  decide (as.length = q.2.2.2.2.1 + (if kd = 1 then 0 else 1)) && decide (q.2.2.2.2.2.2.1 < 100) && decide ((rest.map (fun v => v.category)).sum ≤ 8) && (q.2.2.2.2.2.1 == (kd == 1)) && ((q.1.name == "<init>") == (kd == 2)) && (kd == 1 || ab_rc (ab_own y') n as) && (kd != 0 || nest == 0) && decide ((ab_ea as).length ≤ q.2.2.1)
def ab_goL (kd j n : Nat) (st : List Value) : Option (Nat × List Value × List Value) := match ab_md 11 j with
  | some (y', nest, _) => if y' < 1000 ∧ ab_gdL kd y' nest n (st.take (ab_na kd y')).reverse (st.drop (ab_na kd y')) = true then some (y', (st.take (ab_na kd y')).reverse, st.drop (ab_na kd y')) else none
  | none => none
def ab_clL (i : Instr) (n : Nat) (st : List Value) : Option (Nat × List Value × List Value) := match i with
  | .invokevirtual j => ab_goL 0 j n st
  | .invokestatic j => ab_goL 1 j n st
  | .invokespecial j => ab_goL 2 j n st
  | _ => none
def ab_lx (xs : Nat → Int32) (L : Nat) (i : Instr) (st : List Value) : Option (List Value) := match i, st with
  | .iaload, .int x :: .ref k :: st => if k = 999 ∧ 0 ≤ x.toInt ∧ x.toInt < L then some (.int (xs x.toNatClampNeg) :: st) else none
  | .arraylength, .ref k :: st => if k = 999 then some (.int (Int32.ofNat L) :: st) else none
  | _, _ => none
/-- the law's end: 1 is answered -/
def ab_lr (i : Instr) (st : List Value) : Bool := match i, st with
  | .ireturn, [.int x] => decide (x = 1)
  | _, _ => false
def ab_lw (xs : Nat → Int32) (L : Nat) : Nat → Nat → ab_L → List Value → ab_S → Bool
  | 0, _, _, _, _ => false
  | n + 1, pc, ls, st, z => match ab_cL.lookup pc with
    | none => false
    | some i => match ab_lr i st with
      | true => true
      | false => match ab_lx xs L i st with
        | some st' => ab_lw xs L n (pc + ab_sz i) ls st' z
        | none => match ab_clL i z.2.2.2 st with
          | some (y', as, rest) => match ab_run n y' 0 (ab_en (ab_row y').2.2.1 as) [] z with
            | some r => if ab_cb y' ls rest z r.2 = true ∧ r.2.2.2.2 ≤ 75 then ab_lw xs L n (pc + 3) ls (r.1.toList ++ rest) r.2 else false
            | none => false
          | none => match ab_ex 11 false i pc ls st z with
            | some q => if q.2.2.2.2.2.2 ≤ 75 then ab_lw xs L n q.1 q.2.1 q.2.2.1 q.2.2.2 else false
            | none => false
section ABL
variable {p : Program} {l : Launch} {e : Env} {R : Room} {s : State} {m : MethodId} {args : Array Value} {below : List Frame} {meth : Method} {c : Code} {H : Heap} {locs : List Loc} {cells slots : Nat} {Q : State → Prop}
variable {cc : ByteArray} {pc : Nat} {lc : Array Slot} {ad : Nat → Nat} {nL : Nat} {D : va_G} {cs : ab_C3} {A A1 : Nat → Prop} {H0 : Heap}
/-- a call of the law, by the callee's contract -/
theorem ab_clL_W {y' : Nat} {i : Instr} {st as rest : List Value} {z z1 : ab_S} {v : Option Value} (hx : p.tables.exec = Jvm.exec) (hb : c.code = cc) (h : ab_clL i z.2.2.2 st = some (y', as, rest)) (hd : decode cc pc = .ok (i, ab_sz i)) (hown : s.vm.findClass (ab_cn.getD 11 "") = some m.cls) (hml : c.maxLocals = nL) (hlc : lc.size = nL) (hts : ∀ w ∈ ab_wd, w.before args s = true) (hN : ab_N s) (hK : va_K D vwCl (ab_ty3 cs) s) (hP : va_P D vwCl (ab_wl cs ad z) H) (hD : va_D A (ab_wl cs ad z)) (hS : va_S A H0 H locs) (hA : ∀ q, H0.size ≤ q → A q)
    (hfr : 100 ≤ R.frames) (hlo : 6400 ≤ R.locals) (hM : y' < 203 → ab_Met l D cs y' as z v z1) (hce : cells + (z1.2.2.2 - z.2.2.2) ≤ R.cells) (hsl : slots + (ab_sl z1.2.2.2 - ab_sl z.2.2.2) ≤ R.slots)
    (kk : ∀ (ad' : Nat → Nat) (H1 : Heap) (locs1 : List Loc), (∀ k, (k < z.2.2.2 ∨ 999 ≤ k) → ad' k = ad k) → (z1.2.2.2 = z.2.2.2 → ad' = ad) → va_P D vwCl (ab_wl cs ad' z1) H1 → va_D A (ab_wl cs ad' z1) → va_S A H0 H1 locs1 → W p l e R s m args below meth c H1 locs1 (cells + (z1.2.2.2 - z.2.2.2)) (slots + (ab_sl z1.2.2.2 - ab_sl z.2.2.2)) Q (F0 m (pc + 3) lc (v.toList ++ rest.map (ab_v ad)))) :
    W p l e R s m args below meth c H locs cells slots Q (F0 m pc lc (st.map (ab_v ad))) := by
  have ho : 11 < 12 := by decide
  have hA1 : ∀ q, va_A (ab_wl cs ad z) H.size q → A q := by
    intro q hq
    rcases hq with ⟨k, e, hk⟩ | hq
    · exact hD.2 k (q, e) hk
    · exact hA q (Nat.le_trans hS.1 hq)
  have common : ∀ {kd j : Nat}, ab_goL kd j z.2.2.2 st = some (y', as, rest) → y' < 203 ∧ ∃ nest : Nat, ab_gdL kd y' nest z.2.2.2 as rest = true ∧ st = as.reverse ++ rest ∧ (nest = 0 → (Cond.methodLink (ab_cn.getD 11 "") j (ab_row y').1).before args s = true) ∧ (¬ nest = 0 → va_Nw (.methodLinkNest (ab_cn.getD 11 "") j (ab_row y').1 "MarkedHands") s) := by
    intro kd j hg
    unfold ab_goL at hg
    split at hg
    · rename_i t nest q hmd
      split at hg
      · rename_i hc
        cases hg
        have hw := ab_mdW ho hmd
        have ht : y' < 1000 := hc.1
        rw [if_neg (by omega), if_neg (by omega), if_neg (by omega), if_neg (by omega)] at hw
        simp only [Bool.and_eq_true, decide_eq_true_eq] at hw
        refine ⟨hw.1, nest, hc.2, ?_, fun hn => ?_, fun hn => ?_⟩
        · rw [List.reverse_reverse, List.take_append_drop]
        · have h2 := hw.2
          rw [if_pos hn] at h2
          exact hts _ (ab_at_in h2)
        · have h2 := hw.2
          rw [if_neg hn] at h2
          simp only [decide_eq_true_eq] at h2
          have hmd' := hmd
          rw [h2.1] at hmd'
          exact hN _ _ _ _ ho hmd' hw.1
      · cases hg
    · cases hg
  have gd : ∀ {kd nest : Nat}, ab_gdL kd y' nest z.2.2.2 as rest = true → as.length = (ab_row y').2.2.2.2.1 + (if kd = 1 then 0 else 1) ∧ ab_rk y' < 100 ∧ (rest.map (fun v => v.category)).sum ≤ 8 ∧ ((ab_row y').2.2.2.2.2.1 = (kd == 1)) ∧ (((ab_row y').1.name == "<init>") = (kd == 2)) ∧ (kd = 1 ∨ ab_rc (ab_own y') z.2.2.2 as = true) ∧ (kd = 0 → nest = 0) ∧ (ab_ea as).length ≤ (ab_row y').2.2.1 := by
    intro kd nest hg
    simp only [ab_gdL, Bool.and_eq_true, decide_eq_true_eq, Bool.or_eq_true, beq_iff_eq, bne_iff_ne, ne_eq] at hg
    obtain ⟨⟨⟨⟨⟨⟨⟨g1, g2⟩, g3⟩, g4⟩, g5⟩, g6⟩, g7⟩, g8⟩ := hg
    exact ⟨g1, g2, g3, g4, g5, g6, fun hk => by rcases g7 with h | h; exact absurd hk h; exact h, g8⟩
  have h8 : (rest.map (fun v => v.category)).sum ≤ 8 → 2 * (F0 m pc lc (st.map (ab_v ad))).monitorRoom + ((rest.map (ab_v ad)).map (fun v => v.category)).sum ≤ 8 := fun h => lv_room (by rw [ab_v_cats]; exact h)
  have cbB : y' < 203 → ab_rk y' < 100 → ∀ {n j : Nat}, n = (ab_row y').2.2.2.2.1 → (Cond.methodLink (ab_cn.getD 11 "") j (ab_row y').1).before args s = true → CallB R s args (ab_cn.getD 11 "") j (ab_row y').1 (ab_row y').2.1 (ab_row y').2.2.1 (ab_row y').2.2.2.1 (ab_ws y') (ab_rm y' (z1.2.2.2 - z.2.2.2) (ab_sl z1.2.2.2 - ab_sl z.2.2.2)) (z1.2.2.2 - z.2.2.2) (ab_sl z1.2.2.2 - ab_sl z.2.2.2) n := by
    intro hy' hrk n j hn hl
    obtain ⟨w1, w2, w3, w4, w5, w6, w7, w8, w9, w10, w11, w12⟩ := ab_mkW hy'
    refine ⟨rfl, rfl, ?_, ?_, ab_pay hy' hts, List.mem_cons_self, hts _ w2, hts _ w3, ⟨w1.2.1, w1.2.2⟩, fun sig hs => ?_, hl⟩
    · show ab_rk y' + 1 ≤ R.frames
      omega
    · show 8 + ((ab_row y').2.2.1 + 11) + 64 * ab_rk y' ≤ R.locals
      omega
    · rw [hs] at w6
      exact hn.trans (Option.some.inj w6).symm
  have cbN : y' < 203 → ab_rk y' < 100 → ∀ {n j : Nat}, n = (ab_row y').2.2.2.2.1 → va_Nw (.methodLinkNest (ab_cn.getD 11 "") j (ab_row y').1 "MarkedHands") s → va_CN R s args (ab_cn.getD 11 "") j (ab_row y').1 "MarkedHands" (ab_row y').2.1 (ab_row y').2.2.1 (ab_row y').2.2.2.1 (ab_ws y') (ab_rm y' (z1.2.2.2 - z.2.2.2) (ab_sl z1.2.2.2 - ab_sl z.2.2.2)) (z1.2.2.2 - z.2.2.2) (ab_sl z1.2.2.2 - ab_sl z.2.2.2) n := by
    intro hy' hrk n j hn hl
    obtain ⟨w1, w2, w3, w4, w5, w6, w7, w8, w9, w10, w11, w12⟩ := ab_mkW hy'
    refine ⟨⟨rfl, rfl, ?_, ?_, ab_pay hy' hts, List.mem_cons_self⟩, hts _ w2, hts _ w3, ⟨w1.2.1, w1.2.2⟩, fun sig hs => ?_, va_Nw.use rfl hl⟩
    · show ab_rk y' + 1 ≤ R.frames
      omega
    · show 8 + ((ab_row y').2.2.1 + 11) + 64 * ab_rk y' ≤ R.locals
      omega
    · rw [hs] at w6
      exact hn.trans (Option.some.inj w6).symm
  have rc : ab_rc (ab_own y') z.2.2.2 as = true → ∃ (k : Nat) (as' : List Value), as = .ref k :: as' ∧ ab_ly k = (0, ab_own y') ∧ k < z.2.2.2 := by
    intro h
    cases hq : as with
    | nil => rw [hq] at h; cases h
    | cons v as' =>
      rw [hq] at h
      cases v with
      | ref k =>
        have h2 : (ab_ly k == (0, ab_own y') && decide (k < z.2.2.2)) = true := h
        rw [Bool.and_eq_true, beq_iff_eq, decide_eq_true_eq] at h2
        exact ⟨k, as', rfl, h2.1, h2.2⟩
      | _ => cases h
  unfold ab_clL at h
  split at h
  · rename_i j
    obtain ⟨hy', nest, hg, hst, hl0, hl1⟩ := common h
    obtain ⟨g1, g2, g3, g4, g5, g6, g7, g8⟩ := gd hg
    obtain ⟨k0, as', rfl, hly, hk0⟩ := rc (by rcases g6 with q | q; exact absurd q (by decide); exact q)
    obtain ⟨w1, w2, w3, w4, w5, w6, w7, w8, w9, w10, w11, w12⟩ := ab_mkW hy'
    have hst0 : (ab_row y').2.2.2.2.2.1 = false := by rw [g4]; rfl
    have hnm : (ab_row y').1.name ≠ "<init>" := fun q => by rw [q] at g5; exact absurd g5 (by decide)
    have hcl : vwCl[ab_own y']? = some ((vwCl[ab_own y']?).getD ("", fun _ => ("", "", "", false), 0)) ∧ ((vwCl[ab_own y']?).getD ("", fun _ => ("", "", "", false), 0)).1 = (ab_row y').1.cls := by
      have := w12 hst0
      cases hq : vwCl[ab_own y']? with
      | none => rw [hq] at this; cases this
      | some r => rw [hq] at this; exact ⟨rfl, Option.some.inj this⟩
    have he := ab_wl_at (cs := cs) (ad := ad) hk0
    rw [ab_ce_obj hly] at he
    have hrec := va_recv hK hP hcl.1 he
    rw [hcl.2] at hrec
    have hn : (as'.map (ab_v ad)).length = (ab_row y').2.2.2.2.1 := by
      rw [List.length_map]
      have : as'.length + 1 = (ab_row y').2.2.2.2.1 + 1 := g1
      omega
    exact ab_after (va_runV (As := as'.map (ab_v ad)) (rest := rest.map (ab_v ad)) ⟨hx, hb, hml, hown, hts⟩ (hM hy' ad H.size) ⟨cbB hy' g2 rfl (hl0 (g7 rfl)), hts _ (w5 hst0).1, hts _ ((w5 hst0).2 hnm)⟩ ⟨ab_blind, hrec, ab_pre hK hN hP hD⟩ rfl hn hlc (by rw [hst]; simp [ab_v]) (h8 g3) hd ⟨hce, hsl⟩) hS hA1 kk
  · rename_i j
    obtain ⟨hy', nest, hg, hst, hl0, hl1⟩ := common h
    obtain ⟨g1, g2, g3, g4, g5, g6, g7, g8⟩ := gd hg
    obtain ⟨w1, w2, w3, w4, w5, w6, w7, w8, w9, w10, w11, w12⟩ := ab_mkW hy'
    have hst0 : (ab_row y').2.2.2.2.2.1 = true := by rw [g4]; rfl
    have hn : (as.map (ab_v ad)).length = (ab_row y').2.2.2.2.1 := by
      rw [List.length_map]
      exact g1
    by_cases hne : nest = 0
    · exact ab_after (va_runS (As := as.map (ab_v ad)) (rest := rest.map (ab_v ad)) ⟨hx, hb, hml, hown, hts⟩ (hM hy' ad H.size) ⟨cbB hy' g2 rfl (hl0 hne), hts _ (w4 hst0)⟩ ⟨ab_blind, ab_pre hK hN hP hD⟩ rfl hn hlc (by rw [hst]; simp) (h8 g3) hd ⟨hce, hsl⟩) hS hA1 kk
    · exact ab_after (va_runSN (As := as.map (ab_v ad)) (rest := rest.map (ab_v ad)) ⟨hx, hb, hml, hown, hts⟩ (hM hy' ad H.size) ⟨cbN hy' g2 rfl (hl1 hne), hts _ (w4 hst0), trivial⟩ ⟨ab_blind, ab_pre hK hN hP hD⟩ rfl hn hlc (by rw [hst]; simp) (h8 g3) hd ⟨hce, hsl⟩) hS hA1 kk
  · rename_i j
    obtain ⟨hy', nest, hg, hst, hl0, hl1⟩ := common h
    obtain ⟨g1, g2, g3, g4, g5, g6, g7, g8⟩ := gd hg
    obtain ⟨k0, as', rfl, hly, hk0⟩ := rc (by rcases g6 with q | q; exact absurd q (by decide); exact q)
    obtain ⟨w1, w2, w3, w4, w5, w6, w7, w8, w9, w10, w11, w12⟩ := ab_mkW hy'
    have hst0 : (ab_row y').2.2.2.2.2.1 = false := by rw [g4]; rfl
    have hnm : (ab_row y').1.name = "<init>" := eq_of_beq (by rw [g5]; rfl)
    have hn : (as'.map (ab_v ad)).length = (ab_row y').2.2.2.2.1 := by
      rw [List.length_map]
      have : as'.length + 1 = (ab_row y').2.2.2.2.1 + 1 := g1
      omega
    have hrn := w11 hnm
    by_cases hne : nest = 0
    · have cb := cbB hy' g2 rfl (hl0 hne)
      rw [hrn] at cb
      exact ab_after (va_runI (b := ad k0) (As := as'.map (ab_v ad)) (rest := rest.map (ab_v ad)) ⟨hx, hb, hml, hown, hts⟩ (hM hy' ad H.size) ⟨cb, hnm, hts _ (w5 hst0).1⟩ ⟨ab_blind, ab_pre hK hN hP hD⟩ rfl hn hlc (by rw [hst]; simp [ab_v]) (h8 g3) hd ⟨hce, hsl⟩) hS hA1 kk
    · have cb := cbN hy' g2 rfl (hl1 hne)
      rw [hrn] at cb
      exact ab_after (va_runIN (b := ad k0) (As := as'.map (ab_v ad)) (rest := rest.map (ab_v ad)) ⟨hx, hb, hml, hown, hts⟩ (hM hy' ad H.size) ⟨cb, hnm, hts _ (w5 hst0).1⟩ ⟨ab_blind, ab_pre hK hN hP hD⟩ rfl hn hlc (by rw [hst]; simp [ab_v]) (h8 g3) hd ⟨hce, hsl⟩) hS hA1 kk
  · cases h
end ABL
