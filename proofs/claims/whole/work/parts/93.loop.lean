/-! THE LAW'S LOOP -/
section LP
variable {xs : Nat → Int32} {L : Nat} {p : Int32} {σ : PS} {I : ab_I} {J : ab_J}
theorem AL_sw {x : Int32} {o : Int} {t : Nat} (hb : ab_br (.tableswitch 1243 0 33 #[151, 204, 237, 260, 293, 326, 360, 394, 438, 472, 505, 528, 541, 554, 577, 600, 633, 677, 701, 725, 758, 791, 814, 848, 891, 904, 948, 991, 1014, 1067, 1110, 1173, 1206, 1229]) [.int x] = some (true, o, [])) (ht : 0 ≤ (33 : Int) + o ∧ ab_tg 33 o = t) (h : AL xs L t (lw_L p) [] (I, J, ab_RF, 75)) : AL xs L 33 (lw_L p) [.int x] (I, J, ab_RF, 75) := by
  refine AL_ex (i := .tableswitch 1243 0 33 #[151, 204, 237, 260, 293, 326, 360, 394, 438, 472, 505, 528, 541, 554, 577, 600, 633, 677, 701, 725, 758, 791, 814, 848, 891, 904, 948, 991, 1014, 1067, 1110, 1173, 1206, 1229]) (pc' := t) (ls' := lw_L p) (st' := []) (z' := (I, J, ab_RF, 75)) (by decide +kernel) rfl rfl rfl ?_ (Nat.le_refl _) h
  have e1 : ab_op (.tableswitch 1243 0 33 #[151, 204, 237, 260, 293, 326, 360, 394, 438, 472, 505, 528, 541, 554, 577, 600, 633, 677, 701, 725, 758, 791, 814, 848, 891, 904, 948, 991, 1014, 1067, 1110, 1173, 1206, 1229]) [.int x] = none := rfl
  have e2 : ab_lo (.tableswitch 1243 0 33 #[151, 204, 237, 260, 293, 326, 360, 394, 438, 472, 505, 528, 541, 554, 577, 600, 633, 677, 701, 725, 758, 791, 814, 848, 891, 904, 948, 991, 1014, 1067, 1110, 1173, 1206, 1229]) (lw_L p) [.int x] = none := rfl
  unfold ab_ex
  rw [e1]
  dsimp only
  rw [e2]
  dsimp only
  rw [hb]
  dsimp only
  have h0 : 0 ≤ ((33 : Nat) : Int) + o := ht.1
  rw [if_pos h0, if_pos rfl, ht.2]
theorem lw_case (hb : ∀ k : Int, 0 ≤ k → k < 6 → 0 ≤ (p + Int32.ofInt k).toInt ∧ (p + Int32.ofInt k).toInt < L) (hk : ∀ (σ : PS) (I : ab_I) (J : ab_J), RC σ I J → RR σ I → AL xs L 1276 (lw_L p) [] (I, J, ab_RF, 75)) (hR : RC σ I J) (hQ : RR σ I) : ∀ j : Nat, j < 64 → AL xs L 33 (lw_L p) [.int (nI j)] (I, J, ab_RF, 75)
  | 0, _ => AL_sw (o := 151) (sw_in (by decide) (by decide)) (by decide) (lc_0 hb hk hR hQ)
  | 1, _ => AL_sw (o := 204) (sw_in (by decide) (by decide)) (by decide) (lc_1 hb hk hR hQ)
  | 2, _ => AL_sw (o := 237) (sw_in (by decide) (by decide)) (by decide) (lc_2 hb hk hR hQ)
  | 3, _ => AL_sw (o := 260) (sw_in (by decide) (by decide)) (by decide) (lc_3 hb hk hR hQ)
  | 4, _ => AL_sw (o := 293) (sw_in (by decide) (by decide)) (by decide) (lc_4 hb hk hR hQ)
  | 5, _ => AL_sw (o := 326) (sw_in (by decide) (by decide)) (by decide) (lc_5 hb hk hR hQ)
  | 6, _ => AL_sw (o := 360) (sw_in (by decide) (by decide)) (by decide) (lc_6 hb hk hR hQ)
  | 7, _ => AL_sw (o := 394) (sw_in (by decide) (by decide)) (by decide) (lc_7 hb hk hR hQ)
  | 8, _ => AL_sw (o := 438) (sw_in (by decide) (by decide)) (by decide) (lc_8 hb hk hR hQ)
  | 9, _ => AL_sw (o := 472) (sw_in (by decide) (by decide)) (by decide) (lc_9 hb hk hR hQ)
  | 10, _ => AL_sw (o := 505) (sw_in (by decide) (by decide)) (by decide) (lc_10 hb hk hR hQ)
  | 11, _ => AL_sw (o := 528) (sw_in (by decide) (by decide)) (by decide) (lc_11 hb hk hR hQ)
  | 12, _ => AL_sw (o := 541) (sw_in (by decide) (by decide)) (by decide) (lc_12 hb hk hR hQ)
  | 13, _ => AL_sw (o := 554) (sw_in (by decide) (by decide)) (by decide) (lc_13 hb hk hR hQ)
  | 14, _ => AL_sw (o := 577) (sw_in (by decide) (by decide)) (by decide) (lc_14 hb hk hR hQ)
  | 15, _ => AL_sw (o := 600) (sw_in (by decide) (by decide)) (by decide) (lc_15 hb hk hR hQ)
  | 16, _ => AL_sw (o := 633) (sw_in (by decide) (by decide)) (by decide) (lc_16 hb hk hR hQ)
  | 17, _ => AL_sw (o := 677) (sw_in (by decide) (by decide)) (by decide) (lc_17 hb hk hR hQ)
  | 18, _ => AL_sw (o := 701) (sw_in (by decide) (by decide)) (by decide) (lc_18 hb hk hR hQ)
  | 19, _ => AL_sw (o := 725) (sw_in (by decide) (by decide)) (by decide) (lc_19 hb hk hR hQ)
  | 20, _ => AL_sw (o := 758) (sw_in (by decide) (by decide)) (by decide) (lc_20 hb hk hR hQ)
  | 21, _ => AL_sw (o := 791) (sw_in (by decide) (by decide)) (by decide) (lc_21 hb hk hR hQ)
  | 22, _ => AL_sw (o := 814) (sw_in (by decide) (by decide)) (by decide) (lc_22 hb hk hR hQ)
  | 23, _ => AL_sw (o := 848) (sw_in (by decide) (by decide)) (by decide) (lc_23 hb hk hR hQ)
  | 24, _ => AL_sw (o := 891) (sw_in (by decide) (by decide)) (by decide) (lc_24 hb hk hR hQ)
  | 25, _ => AL_sw (o := 904) (sw_in (by decide) (by decide)) (by decide) (lc_25 hb hk hR hQ)
  | 26, _ => AL_sw (o := 948) (sw_in (by decide) (by decide)) (by decide) (lc_26 hb hk hR hQ)
  | 27, _ => AL_sw (o := 991) (sw_in (by decide) (by decide)) (by decide) (lc_27 hb hk hR hQ)
  | 28, _ => AL_sw (o := 1014) (sw_in (by decide) (by decide)) (by decide) (lc_28 hb hk hR hQ)
  | 29, _ => AL_sw (o := 1067) (sw_in (by decide) (by decide)) (by decide) (lc_29 hb hk hR hQ)
  | 30, _ => AL_sw (o := 1110) (sw_in (by decide) (by decide)) (by decide) (lc_30 hb hk hR hQ)
  | 31, _ => AL_sw (o := 1173) (sw_in (by decide) (by decide)) (by decide) (lc_31 hb hk hR hQ)
  | 32, _ => AL_sw (o := 1206) (sw_in (by decide) (by decide)) (by decide) (lc_32 hb hk hR hQ)
  | 33, _ => AL_sw (o := 1229) (sw_in (by decide) (by decide)) (by decide) (lc_33 hb hk hR hQ)
  | j + 34, h => AL_sw (o := 1243) (sw_out (by right; rw [nI_toInt (by omega)]; omega)) (by decide) (hk σ I J hR hQ)
theorem lw_body (hL : L ≤ 3072) {i : Nat} (hi : i ≤ L + 6) (hk : i + 6 ≤ L → ∀ (σ : PS) (I : ab_I) (J : ab_J), RC σ I J → RR σ I → AL xs L 18 (lw_L (nI (i + 6))) [] (I, J, ab_RF, 75)) (hR : RC σ I J) (hQ : RR σ I) : AL xs L 18 (lw_L (nI i)) [] (I, J, ab_RF, 75) := by
  refine AL_ex (i := .iload_n 3) (pc' := 19) (ls' := lw_L (nI i)) (st' := [.int (nI i)]) (z' := (I, J, ab_RF, 75)) (by decide +kernel) rfl rfl rfl rfl (Nat.le_refl _) ?_
  refine AL_ex (i := .aload_n 0) (pc' := 20) (ls' := lw_L (nI i)) (st' := [.ref 999, .int (nI i)]) (z' := (I, J, ab_RF, 75)) (by decide +kernel) rfl rfl rfl rfl (Nat.le_refl _) ?_
  refine AL_lx (i := .arraylength) (st' := [.int (nI L), .int (nI i)]) (by decide +kernel) rfl rfl ?_
  refine AL_ex (i := .bipush 6) (pc' := 23) (ls' := lw_L (nI i)) (st' := [.int (nI 6), .int (nI L), .int (nI i)]) (z' := (I, J, ab_RF, 75)) (by decide +kernel) rfl rfl rfl rfl (Nat.le_refl _) ?_
  refine AL_ex (i := .isub) (pc' := 24) (ls' := lw_L (nI i)) (st' := [.int (nI L - nI 6), .int (nI i)]) (z' := (I, J, ab_RF, 75)) (by decide +kernel) rfl rfl rfl rfl (Nat.le_refl _) ?_
  have hcmp : (nI L - nI 6 < nI i) ↔ L < i + 6 := by
    rw [Int32.lt_iff_toInt_lt, pk_sub_toInt (by omega) (by decide), nI_toInt (by omega)]
    omega
  by_cases hc : L < i + 6
  · refine AL_ex (i := .if_icmp .gt 1258) (pc' := 1282) (ls' := lw_L (nI i)) (st' := []) (z' := (I, J, ab_RF, 75)) (by decide +kernel) rfl rfl rfl ?_ (Nat.le_refl _) ?_
    · show (if 0 ≤ ((24 : Nat) : Int) + 1258 then some (if decide (nI L - nI 6 < nI i) = true then ab_tg 24 1258 else 24 + ab_sz (.if_icmp .gt 1258), _, _, _) else none) = _
      rw [if_pos (by decide), if_pos (decide_eq_true (hcmp.mpr hc))]
      rfl
    · refine AL_ex (i := .iconst 1) (pc' := 1283) (ls' := lw_L (nI i)) (st' := [.int 1]) (z' := (I, J, ab_RF, 75)) (by decide +kernel) rfl rfl rfl rfl (Nat.le_refl _) ?_
      exact AL_end (i := .ireturn) (by decide +kernel) rfl
  · refine AL_ex (i := .if_icmp .gt 1258) (pc' := 27) (ls' := lw_L (nI i)) (st' := []) (z' := (I, J, ab_RF, 75)) (by decide +kernel) rfl rfl rfl ?_ (Nat.le_refl _) ?_
    · show (if 0 ≤ ((24 : Nat) : Int) + 1258 then some (if decide (nI L - nI 6 < nI i) = true then ab_tg 24 1258 else 24 + ab_sz (.if_icmp .gt 1258), _, _, _) else none) = _
      rw [if_pos (by decide), if_neg (by rw [decide_eq_true_eq, hcmp]; exact hc)]
      rfl
    · refine AL_ex (i := .aload_n 0) (pc' := 28) (ls' := lw_L (nI i)) (st' := [.ref 999]) (z' := (I, J, ab_RF, 75)) (by decide +kernel) rfl rfl rfl rfl (Nat.le_refl _) ?_
      refine AL_ex (i := .iload_n 3) (pc' := 29) (ls' := lw_L (nI i)) (st' := [.int (nI i), .ref 999]) (z' := (I, J, ab_RF, 75)) (by decide +kernel) rfl rfl rfl rfl (Nat.le_refl _) ?_
      refine AL_lx (i := .iaload) (st' := [.int (xs (nI i).toNatClampNeg)]) (by decide +kernel) rfl ?_ ?_
      · show (if 999 = 999 ∧ 0 ≤ (nI i).toInt ∧ (nI i).toInt < (L : Int) then some _ else none) = _
        rw [if_pos ⟨rfl, by rw [nI_toInt (by omega)]; omega, by rw [nI_toInt (by omega)]; omega⟩]
      · refine AL_ex (i := .bipush 63) (pc' := 32) (ls' := lw_L (nI i)) (st' := [.int (nI 63), .int (xs (nI i).toNatClampNeg)]) (z' := (I, J, ab_RF, 75)) (by decide +kernel) rfl rfl rfl rfl (Nat.le_refl _) ?_
        refine AL_ex (i := .iand) (pc' := 33) (ls' := lw_L (nI i)) (st' := [.int (xs (nI i).toNatClampNeg &&& nI 63)]) (z' := (I, J, ab_RF, 75)) (by decide +kernel) rfl rfl rfl rfl (Nat.le_refl _) ?_
        obtain ⟨j, hj, e⟩ := pk_andE (xs (nI i).toNatClampNeg) (m := nI 63) 6 (by decide)
        rw [e]
        refine lw_case (fun k h0 h1 => ?_) (fun σ I J hR hQ => ?_) hR hQ j hj
        · obtain ⟨m, rfl⟩ := Int.eq_ofNat_of_zero_le h0
          have e1 : Int32.ofInt (m : Int) = nI m := rfl
          rw [e1, nI_add, nI_toInt (by omega)]
          omega
        · refine AL_ex (i := .iinc 3 6) (pc' := 1279) (ls' := lw_L (nI (i + 6))) (st' := []) (z' := (I, J, ab_RF, 75)) (by decide +kernel) rfl rfl rfl ?_ (Nat.le_refl _) ?_
          · rw [← nI_add]; rfl
          · refine AL_ex (i := .goto (-1261)) (pc' := 18) (ls' := lw_L (nI (i + 6))) (st' := []) (z' := (I, J, ab_RF, 75)) (by decide +kernel) rfl rfl rfl rfl (Nat.le_refl _) ?_
            exact hk (by omega) σ I J hR hQ
theorem lw_loop (hL : L ≤ 3072) : ∀ (d i : Nat) (σ : PS) (I : ab_I) (J : ab_J), L + 6 - i ≤ d → i ≤ L + 6 → RC σ I J → RR σ I → AL xs L 18 (lw_L (nI i)) [] (I, J, ab_RF, 75) := by
  intro d
  induction d with
  | zero =>
    intro i σ I J hd hi hR hQ
    exact lw_body hL (by omega) (fun h => absurd h (by omega)) hR hQ
  | succ d ih =>
    intro i σ I J hd hi hR hQ
    exact lw_body hL hi (fun h σ I J hR hQ => ih (i + 6) σ I J (by omega) (by omega) hR hQ) hR hQ
end LP
