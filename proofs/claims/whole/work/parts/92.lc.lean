/-! THE LAW'S 34 CASES -/
section LC
variable {xs : Nat → Int32} {L : Nat} {p : Int32} {σ : PS} {I : ab_I} {J : ab_J}
theorem lc_0 (hb : ∀ k : Int, 0 ≤ k → k < 6 → 0 ≤ (p + Int32.ofInt k).toInt ∧ (p + Int32.ofInt k).toInt < L) (hk : ∀ (σ : PS) (I : ab_I) (J : ab_J), RC σ I J → RR σ I → AL xs L 1276 (lw_L p) [] (I, J, ab_RF, 75)) (hR : RC σ I J) (hQ : RR σ I) : AL xs L 184 (lw_L p) [] (I, J, ab_RF, 75) := by
  obtain ⟨I1, J1, ⟨hR1, hF1⟩, hC⟩ := q76 (x := xs (p + Int32.ofInt 1).toNatClampNeg) (x1 := xs (p + Int32.ofInt 2).toNatClampNeg) (x2 := xs (p + Int32.ofInt 3).toNatClampNeg) (x3 := xs (p + Int32.ofInt 4).toNatClampNeg) hR
  have hQ1 := RR_cf hQ (fun k hk => ((hF1 : Hi I J I1 J1) k hk).1)
  obtain ⟨I2, J2, ⟨hQ2, hF2⟩, hD⟩ := r135 (x := xs (p + Int32.ofInt 1).toNatClampNeg) (x1 := xs (p + Int32.ofInt 2).toNatClampNeg) (x2 := xs (p + Int32.ofInt 3).toNatClampNeg) (x3 := xs (p + Int32.ofInt 4).toNatClampNeg) (J := J1) hQ1
  have hR2 := RC_qf hR1 (hF2)
  refine AL_a1 (pc := 184) (by decide +kernel) ?_
  refine AL_ld (pc := 185) (k := 1) (by decide +kernel) (hb 1 (by decide) (by decide)) ?_
  refine AL_ld (pc := 190) (k := 2) (by decide +kernel) (hb 2 (by decide) (by decide)) ?_
  refine AL_ld (pc := 195) (k := 3) (by decide +kernel) (hb 3 (by decide) (by decide)) ?_
  refine AL_ld (pc := 200) (k := 4) (by decide +kernel) (hb 4 (by decide) (by decide)) ?_
  refine AL_cal (pc := 205) (j := 13) (y' := 76) (na := 5) (ea := 5) (rk := 0) (as := [.ref 0, .int (xs (p + Int32.ofInt 1).toNatClampNeg), .int (xs (p + Int32.ofInt 2).toNatClampNeg), .int (xs (p + Int32.ofInt 3).toNatClampNeg), .int (xs (p + Int32.ofInt 4).toNatClampNeg)]) (rest := []) (by decide +kernel) rfl rfl rfl rfl (Nat.le_of_ble_eq_true rfl) hC ?_
  refine AL_a2 (pc := 208) (by decide +kernel) ?_
  refine AL_ld (pc := 209) (k := 1) (by decide +kernel) (hb 1 (by decide) (by decide)) ?_
  refine AL_ld (pc := 214) (k := 2) (by decide +kernel) (hb 2 (by decide) (by decide)) ?_
  refine AL_ld (pc := 219) (k := 3) (by decide +kernel) (hb 3 (by decide) (by decide)) ?_
  refine AL_ld (pc := 224) (k := 4) (by decide +kernel) (hb 4 (by decide) (by decide)) ?_
  refine AL_cal (pc := 229) (j := 17) (y' := 135) (na := 5) (ea := 5) (rk := 49) (as := [.ref 49, .int (xs (p + Int32.ofInt 1).toNatClampNeg), .int (xs (p + Int32.ofInt 2).toNatClampNeg), .int (xs (p + Int32.ofInt 3).toNatClampNeg), .int (xs (p + Int32.ofInt 4).toNatClampNeg)]) (rest := [_]) (by decide +kernel) rfl rfl rfl rfl (Nat.le_of_ble_eq_true rfl) hD ?_
  exact AL_ei (pc := 232) (o := 1044) (by decide +kernel) rfl (hk _ _ _ hR2 hQ2)
theorem lc_1 (hb : ∀ k : Int, 0 ≤ k → k < 6 → 0 ≤ (p + Int32.ofInt k).toInt ∧ (p + Int32.ofInt k).toInt < L) (hk : ∀ (σ : PS) (I : ab_I) (J : ab_J), RC σ I J → RR σ I → AL xs L 1276 (lw_L p) [] (I, J, ab_RF, 75)) (hR : RC σ I J) (hQ : RR σ I) : AL xs L 237 (lw_L p) [] (I, J, ab_RF, 75) := by
  obtain ⟨I1, J1, ⟨hR1, hF1⟩, hC⟩ := q77 (x := xs (p + Int32.ofInt 1).toNatClampNeg) (x1 := xs (p + Int32.ofInt 2).toNatClampNeg) hR
  have hQ1 := RR_cf hQ (fun k hk => ((hF1 : Hi I J I1 J1) k hk).1)
  obtain ⟨I2, J2, ⟨hQ2, hF2⟩, hD⟩ := r136 (x := xs (p + Int32.ofInt 1).toNatClampNeg) (x1 := xs (p + Int32.ofInt 2).toNatClampNeg) (J := J1) hQ1
  have hR2 := RC_qf hR1 (hF2)
  refine AL_a1 (pc := 237) (by decide +kernel) ?_
  refine AL_ld (pc := 238) (k := 1) (by decide +kernel) (hb 1 (by decide) (by decide)) ?_
  refine AL_ld (pc := 243) (k := 2) (by decide +kernel) (hb 2 (by decide) (by decide)) ?_
  refine AL_cal (pc := 248) (j := 18) (y' := 77) (na := 3) (ea := 3) (rk := 0) (as := [.ref 0, .int (xs (p + Int32.ofInt 1).toNatClampNeg), .int (xs (p + Int32.ofInt 2).toNatClampNeg)]) (rest := []) (by decide +kernel) rfl rfl rfl rfl (Nat.le_of_ble_eq_true rfl) hC ?_
  refine AL_a2 (pc := 251) (by decide +kernel) ?_
  refine AL_ld (pc := 252) (k := 1) (by decide +kernel) (hb 1 (by decide) (by decide)) ?_
  refine AL_ld (pc := 257) (k := 2) (by decide +kernel) (hb 2 (by decide) (by decide)) ?_
  refine AL_cal (pc := 262) (j := 22) (y' := 136) (na := 3) (ea := 3) (rk := 49) (as := [.ref 49, .int (xs (p + Int32.ofInt 1).toNatClampNeg), .int (xs (p + Int32.ofInt 2).toNatClampNeg)]) (rest := [_]) (by decide +kernel) rfl rfl rfl rfl (Nat.le_of_ble_eq_true rfl) hD ?_
  exact AL_ei (pc := 265) (o := 1011) (by decide +kernel) rfl (hk _ _ _ hR2 hQ2)
theorem lc_2 (hb : ∀ k : Int, 0 ≤ k → k < 6 → 0 ≤ (p + Int32.ofInt k).toInt ∧ (p + Int32.ofInt k).toInt < L) (hk : ∀ (σ : PS) (I : ab_I) (J : ab_J), RC σ I J → RR σ I → AL xs L 1276 (lw_L p) [] (I, J, ab_RF, 75)) (hR : RC σ I J) (hQ : RR σ I) : AL xs L 270 (lw_L p) [] (I, J, ab_RF, 75) := by
  obtain ⟨I1, J1, ⟨hR1, hF1⟩, hC⟩ := q78 (x := xs (p + Int32.ofInt 1).toNatClampNeg) hR
  have hQ1 := RR_cf hQ (fun k hk => ((hF1 : Hi I J I1 J1) k hk).1)
  obtain ⟨I2, J2, ⟨hQ2, hF2⟩, hD⟩ := r137 (x := xs (p + Int32.ofInt 1).toNatClampNeg) (J := J1) hQ1
  have hR2 := RC_qf hR1 (hF2)
  refine AL_a1 (pc := 270) (by decide +kernel) ?_
  refine AL_ld (pc := 271) (k := 1) (by decide +kernel) (hb 1 (by decide) (by decide)) ?_
  refine AL_cal (pc := 276) (j := 23) (y' := 78) (na := 2) (ea := 2) (rk := 0) (as := [.ref 0, .int (xs (p + Int32.ofInt 1).toNatClampNeg)]) (rest := []) (by decide +kernel) rfl rfl rfl rfl (Nat.le_of_ble_eq_true rfl) hC ?_
  refine AL_a2 (pc := 279) (by decide +kernel) ?_
  refine AL_ld (pc := 280) (k := 1) (by decide +kernel) (hb 1 (by decide) (by decide)) ?_
  refine AL_cal (pc := 285) (j := 27) (y' := 137) (na := 2) (ea := 2) (rk := 49) (as := [.ref 49, .int (xs (p + Int32.ofInt 1).toNatClampNeg)]) (rest := [_]) (by decide +kernel) rfl rfl rfl rfl (Nat.le_of_ble_eq_true rfl) hD ?_
  exact AL_ei (pc := 288) (o := 988) (by decide +kernel) rfl (hk _ _ _ hR2 hQ2)
theorem lc_3 (hb : ∀ k : Int, 0 ≤ k → k < 6 → 0 ≤ (p + Int32.ofInt k).toInt ∧ (p + Int32.ofInt k).toInt < L) (hk : ∀ (σ : PS) (I : ab_I) (J : ab_J), RC σ I J → RR σ I → AL xs L 1276 (lw_L p) [] (I, J, ab_RF, 75)) (hR : RC σ I J) (hQ : RR σ I) : AL xs L 293 (lw_L p) [] (I, J, ab_RF, 75) := by
  obtain ⟨I1, J1, ⟨hR1, hF1⟩, hC⟩ := q79 (x := xs (p + Int32.ofInt 1).toNatClampNeg) (x1 := xs (p + Int32.ofInt 2).toNatClampNeg) hR
  have hQ1 := RR_cf hQ (fun k hk => ((Hi_cf hF1 : Hi I J I1 J1) k hk).1)
  obtain ⟨I2, J2, ⟨hQ2, hF2⟩, hD⟩ := r141 (x := xs (p + Int32.ofInt 1).toNatClampNeg) (x1 := xs (p + Int32.ofInt 2).toNatClampNeg) (J := J1) hQ1
  have hR2 := RC_qf hR1 (Lo_qf hF2)
  refine AL_a1 (pc := 293) (by decide +kernel) ?_
  refine AL_ld (pc := 294) (k := 1) (by decide +kernel) (hb 1 (by decide) (by decide)) ?_
  refine AL_ld (pc := 299) (k := 2) (by decide +kernel) (hb 2 (by decide) (by decide)) ?_
  refine AL_cal (pc := 304) (j := 28) (y' := 79) (na := 3) (ea := 3) (rk := 0) (as := [.ref 0, .int (xs (p + Int32.ofInt 1).toNatClampNeg), .int (xs (p + Int32.ofInt 2).toNatClampNeg)]) (rest := []) (by decide +kernel) rfl rfl rfl rfl (Nat.le_of_ble_eq_true rfl) hC ?_
  refine AL_a2 (pc := 307) (by decide +kernel) ?_
  refine AL_ld (pc := 308) (k := 1) (by decide +kernel) (hb 1 (by decide) (by decide)) ?_
  refine AL_ld (pc := 313) (k := 2) (by decide +kernel) (hb 2 (by decide) (by decide)) ?_
  refine AL_cal (pc := 318) (j := 31) (y' := 141) (na := 3) (ea := 3) (rk := 49) (as := [.ref 49, .int (xs (p + Int32.ofInt 1).toNatClampNeg), .int (xs (p + Int32.ofInt 2).toNatClampNeg)]) (rest := [_]) (by decide +kernel) rfl rfl rfl rfl (Nat.le_of_ble_eq_true rfl) hD ?_
  exact AL_ei (pc := 321) (o := 955) (by decide +kernel) rfl (hk _ _ _ hR2 hQ2)
theorem lc_4 (hb : ∀ k : Int, 0 ≤ k → k < 6 → 0 ≤ (p + Int32.ofInt k).toInt ∧ (p + Int32.ofInt k).toInt < L) (hk : ∀ (σ : PS) (I : ab_I) (J : ab_J), RC σ I J → RR σ I → AL xs L 1276 (lw_L p) [] (I, J, ab_RF, 75)) (hR : RC σ I J) (hQ : RR σ I) : AL xs L 326 (lw_L p) [] (I, J, ab_RF, 75) := by
  obtain ⟨I1, J1, ⟨hR1, hF1⟩, hC⟩ := q80 (x := xs (p + Int32.ofInt 1).toNatClampNeg) (x1 := xs (p + Int32.ofInt 2).toNatClampNeg) hR
  have hQ1 := RR_cf hQ (fun k hk => ((Hi_cf hF1 : Hi I J I1 J1) k hk).1)
  obtain ⟨I2, J2, ⟨hQ2, hF2⟩, hD⟩ := r142 (x := xs (p + Int32.ofInt 1).toNatClampNeg) (x1 := xs (p + Int32.ofInt 2).toNatClampNeg) (J := J1) hQ1
  have hR2 := RC_qf hR1 (Lo_qf hF2)
  refine AL_a1 (pc := 326) (by decide +kernel) ?_
  refine AL_ld (pc := 327) (k := 1) (by decide +kernel) (hb 1 (by decide) (by decide)) ?_
  refine AL_ld (pc := 332) (k := 2) (by decide +kernel) (hb 2 (by decide) (by decide)) ?_
  refine AL_cal (pc := 337) (j := 32) (y' := 80) (na := 3) (ea := 3) (rk := 0) (as := [.ref 0, .int (xs (p + Int32.ofInt 1).toNatClampNeg), .int (xs (p + Int32.ofInt 2).toNatClampNeg)]) (rest := []) (by decide +kernel) rfl rfl rfl rfl (Nat.le_of_ble_eq_true rfl) hC ?_
  refine AL_a2 (pc := 340) (by decide +kernel) ?_
  refine AL_ld (pc := 341) (k := 1) (by decide +kernel) (hb 1 (by decide) (by decide)) ?_
  refine AL_ld (pc := 346) (k := 2) (by decide +kernel) (hb 2 (by decide) (by decide)) ?_
  refine AL_cal (pc := 351) (j := 35) (y' := 142) (na := 3) (ea := 3) (rk := 49) (as := [.ref 49, .int (xs (p + Int32.ofInt 1).toNatClampNeg), .int (xs (p + Int32.ofInt 2).toNatClampNeg)]) (rest := [_]) (by decide +kernel) rfl rfl rfl rfl (Nat.le_of_ble_eq_true rfl) hD ?_
  exact AL_ei (pc := 354) (o := 922) (by decide +kernel) rfl (hk _ _ _ hR2 hQ2)
theorem lc_5 (hb : ∀ k : Int, 0 ≤ k → k < 6 → 0 ≤ (p + Int32.ofInt k).toInt ∧ (p + Int32.ofInt k).toInt < L) (hk : ∀ (σ : PS) (I : ab_I) (J : ab_J), RC σ I J → RR σ I → AL xs L 1276 (lw_L p) [] (I, J, ab_RF, 75)) (hR : RC σ I J) (hQ : RR σ I) : AL xs L 359 (lw_L p) [] (I, J, ab_RF, 75) := by
  obtain ⟨I1, J1, ⟨hR1, hF1⟩, hC⟩ := q81 (x := xs (p + Int32.ofInt 1).toNatClampNeg) (x1 := xs (p + Int32.ofInt 2).toNatClampNeg) hR
  have hQ1 := RR_cf hQ (fun k hk => ((Hi_cf hF1 : Hi I J I1 J1) k hk).1)
  obtain ⟨I2, J2, ⟨hQ2, hF2⟩, hD⟩ := r150 (x := xs (p + Int32.ofInt 1).toNatClampNeg) (x1 := xs (p + Int32.ofInt 2).toNatClampNeg) (J := J1) hQ1
  have hR2 := RC_qf hR1 (Lo_qf hF2)
  refine AL_a1 (pc := 359) (by decide +kernel) ?_
  refine AL_ld (pc := 360) (k := 1) (by decide +kernel) (hb 1 (by decide) (by decide)) ?_
  refine AL_ld (pc := 365) (k := 2) (by decide +kernel) (hb 2 (by decide) (by decide)) ?_
  refine AL_cal (pc := 370) (j := 36) (y' := 81) (na := 3) (ea := 3) (rk := 0) (as := [.ref 0, .int (xs (p + Int32.ofInt 1).toNatClampNeg), .int (xs (p + Int32.ofInt 2).toNatClampNeg)]) (rest := []) (by decide +kernel) rfl rfl rfl rfl (Nat.le_of_ble_eq_true rfl) hC ?_
  refine AL_a2 (pc := 373) (by decide +kernel) ?_
  refine AL_ld (pc := 374) (k := 1) (by decide +kernel) (hb 1 (by decide) (by decide)) ?_
  refine AL_ld (pc := 379) (k := 2) (by decide +kernel) (hb 2 (by decide) (by decide)) ?_
  refine AL_cal (pc := 384) (j := 40) (y' := 150) (na := 3) (ea := 3) (rk := 49) (as := [.ref 49, .int (xs (p + Int32.ofInt 1).toNatClampNeg), .int (xs (p + Int32.ofInt 2).toNatClampNeg)]) (rest := [_]) (by decide +kernel) rfl rfl rfl rfl (Nat.le_of_ble_eq_true rfl) hD ?_
  exact AL_ej (pc := 387) (o := 888) (by decide +kernel) rfl (hk _ _ _ hR2 hQ2)
theorem lc_6 (hb : ∀ k : Int, 0 ≤ k → k < 6 → 0 ≤ (p + Int32.ofInt k).toInt ∧ (p + Int32.ofInt k).toInt < L) (hk : ∀ (σ : PS) (I : ab_I) (J : ab_J), RC σ I J → RR σ I → AL xs L 1276 (lw_L p) [] (I, J, ab_RF, 75)) (hR : RC σ I J) (hQ : RR σ I) : AL xs L 393 (lw_L p) [] (I, J, ab_RF, 75) := by
  obtain ⟨I1, J1, ⟨hR1, hF1⟩, hC⟩ := q82 (x := xs (p + Int32.ofInt 1).toNatClampNeg) (x1 := xs (p + Int32.ofInt 2).toNatClampNeg) hR
  have hQ1 := RR_cf hQ (fun k hk => ((Hi_cf hF1 : Hi I J I1 J1) k hk).1)
  obtain ⟨I2, J2, ⟨hQ2, hF2⟩, hD⟩ := r152 (x := xs (p + Int32.ofInt 1).toNatClampNeg) (x1 := xs (p + Int32.ofInt 2).toNatClampNeg) (J := J1) hQ1
  have hR2 := RC_qf hR1 (Lo_qf hF2)
  refine AL_a1 (pc := 393) (by decide +kernel) ?_
  refine AL_ld (pc := 394) (k := 1) (by decide +kernel) (hb 1 (by decide) (by decide)) ?_
  refine AL_ld (pc := 399) (k := 2) (by decide +kernel) (hb 2 (by decide) (by decide)) ?_
  refine AL_cal (pc := 404) (j := 41) (y' := 82) (na := 3) (ea := 3) (rk := 0) (as := [.ref 0, .int (xs (p + Int32.ofInt 1).toNatClampNeg), .int (xs (p + Int32.ofInt 2).toNatClampNeg)]) (rest := []) (by decide +kernel) rfl rfl rfl rfl (Nat.le_of_ble_eq_true rfl) hC ?_
  refine AL_a2 (pc := 407) (by decide +kernel) ?_
  refine AL_ld (pc := 408) (k := 1) (by decide +kernel) (hb 1 (by decide) (by decide)) ?_
  refine AL_ld (pc := 413) (k := 2) (by decide +kernel) (hb 2 (by decide) (by decide)) ?_
  refine AL_cal (pc := 418) (j := 44) (y' := 152) (na := 3) (ea := 3) (rk := 49) (as := [.ref 49, .int (xs (p + Int32.ofInt 1).toNatClampNeg), .int (xs (p + Int32.ofInt 2).toNatClampNeg)]) (rest := [_]) (by decide +kernel) rfl rfl rfl rfl (Nat.le_of_ble_eq_true rfl) hD ?_
  exact AL_ej (pc := 421) (o := 854) (by decide +kernel) rfl (hk _ _ _ hR2 hQ2)
theorem lc_7 (hb : ∀ k : Int, 0 ≤ k → k < 6 → 0 ≤ (p + Int32.ofInt k).toInt ∧ (p + Int32.ofInt k).toInt < L) (hk : ∀ (σ : PS) (I : ab_I) (J : ab_J), RC σ I J → RR σ I → AL xs L 1276 (lw_L p) [] (I, J, ab_RF, 75)) (hR : RC σ I J) (hQ : RR σ I) : AL xs L 427 (lw_L p) [] (I, J, ab_RF, 75) := by
  obtain ⟨I1, J1, ⟨hR1, hF1⟩, hC⟩ := q83 (x := xs (p + Int32.ofInt 1).toNatClampNeg) (x1 := xs (p + Int32.ofInt 2).toNatClampNeg) (x2 := xs (p + Int32.ofInt 3).toNatClampNeg) hR
  have hQ1 := RR_cf hQ (fun k hk => ((Hi_cf hF1 : Hi I J I1 J1) k hk).1)
  obtain ⟨I2, J2, ⟨hQ2, hF2⟩, hD⟩ := r153 (x := xs (p + Int32.ofInt 1).toNatClampNeg) (x1 := xs (p + Int32.ofInt 2).toNatClampNeg) (x2 := xs (p + Int32.ofInt 3).toNatClampNeg) (J := J1) hQ1
  have hR2 := RC_qf hR1 (Lo_qf hF2)
  refine AL_a1 (pc := 427) (by decide +kernel) ?_
  refine AL_ld (pc := 428) (k := 1) (by decide +kernel) (hb 1 (by decide) (by decide)) ?_
  refine AL_ld (pc := 433) (k := 2) (by decide +kernel) (hb 2 (by decide) (by decide)) ?_
  refine AL_ld (pc := 438) (k := 3) (by decide +kernel) (hb 3 (by decide) (by decide)) ?_
  refine AL_cal (pc := 443) (j := 45) (y' := 83) (na := 4) (ea := 4) (rk := 0) (as := [.ref 0, .int (xs (p + Int32.ofInt 1).toNatClampNeg), .int (xs (p + Int32.ofInt 2).toNatClampNeg), .int (xs (p + Int32.ofInt 3).toNatClampNeg)]) (rest := []) (by decide +kernel) rfl rfl rfl rfl (Nat.le_of_ble_eq_true rfl) hC ?_
  refine AL_a2 (pc := 446) (by decide +kernel) ?_
  refine AL_ld (pc := 447) (k := 1) (by decide +kernel) (hb 1 (by decide) (by decide)) ?_
  refine AL_ld (pc := 452) (k := 2) (by decide +kernel) (hb 2 (by decide) (by decide)) ?_
  refine AL_ld (pc := 457) (k := 3) (by decide +kernel) (hb 3 (by decide) (by decide)) ?_
  refine AL_cal (pc := 462) (j := 49) (y' := 153) (na := 4) (ea := 4) (rk := 49) (as := [.ref 49, .int (xs (p + Int32.ofInt 1).toNatClampNeg), .int (xs (p + Int32.ofInt 2).toNatClampNeg), .int (xs (p + Int32.ofInt 3).toNatClampNeg)]) (rest := [_]) (by decide +kernel) rfl rfl rfl rfl (Nat.le_of_ble_eq_true rfl) hD ?_
  exact AL_ej (pc := 465) (o := 810) (by decide +kernel) rfl (hk _ _ _ hR2 hQ2)
theorem lc_8 (hb : ∀ k : Int, 0 ≤ k → k < 6 → 0 ≤ (p + Int32.ofInt k).toInt ∧ (p + Int32.ofInt k).toInt < L) (hk : ∀ (σ : PS) (I : ab_I) (J : ab_J), RC σ I J → RR σ I → AL xs L 1276 (lw_L p) [] (I, J, ab_RF, 75)) (hR : RC σ I J) (hQ : RR σ I) : AL xs L 471 (lw_L p) [] (I, J, ab_RF, 75) := by
  obtain ⟨I1, J1, ⟨hR1, hF1⟩, hC⟩ := q84 (x := xs (p + Int32.ofInt 1).toNatClampNeg) (x1 := xs (p + Int32.ofInt 2).toNatClampNeg) hR
  have hQ1 := RR_cf hQ (fun k hk => ((Hi_cf hF1 : Hi I J I1 J1) k hk).1)
  obtain ⟨I2, J2, ⟨hQ2, hF2⟩, hD⟩ := r156 (x := xs (p + Int32.ofInt 1).toNatClampNeg) (x1 := xs (p + Int32.ofInt 2).toNatClampNeg) (J := J1) hQ1
  have hR2 := RC_qf hR1 (Lo_qf hF2)
  refine AL_a1 (pc := 471) (by decide +kernel) ?_
  refine AL_ld (pc := 472) (k := 1) (by decide +kernel) (hb 1 (by decide) (by decide)) ?_
  refine AL_ld (pc := 477) (k := 2) (by decide +kernel) (hb 2 (by decide) (by decide)) ?_
  refine AL_cal (pc := 482) (j := 50) (y' := 84) (na := 3) (ea := 3) (rk := 0) (as := [.ref 0, .int (xs (p + Int32.ofInt 1).toNatClampNeg), .int (xs (p + Int32.ofInt 2).toNatClampNeg)]) (rest := []) (by decide +kernel) rfl rfl rfl rfl (Nat.le_of_ble_eq_true rfl) hC ?_
  refine AL_a2 (pc := 485) (by decide +kernel) ?_
  refine AL_ld (pc := 486) (k := 1) (by decide +kernel) (hb 1 (by decide) (by decide)) ?_
  refine AL_ld (pc := 491) (k := 2) (by decide +kernel) (hb 2 (by decide) (by decide)) ?_
  refine AL_cal (pc := 496) (j := 53) (y' := 156) (na := 3) (ea := 3) (rk := 49) (as := [.ref 49, .int (xs (p + Int32.ofInt 1).toNatClampNeg), .int (xs (p + Int32.ofInt 2).toNatClampNeg)]) (rest := [_]) (by decide +kernel) rfl rfl rfl rfl (Nat.le_of_ble_eq_true rfl) hD ?_
  exact AL_ej (pc := 499) (o := 776) (by decide +kernel) rfl (hk _ _ _ hR2 hQ2)
theorem lc_9 (hb : ∀ k : Int, 0 ≤ k → k < 6 → 0 ≤ (p + Int32.ofInt k).toInt ∧ (p + Int32.ofInt k).toInt < L) (hk : ∀ (σ : PS) (I : ab_I) (J : ab_J), RC σ I J → RR σ I → AL xs L 1276 (lw_L p) [] (I, J, ab_RF, 75)) (hR : RC σ I J) (hQ : RR σ I) : AL xs L 505 (lw_L p) [] (I, J, ab_RF, 75) := by
  obtain ⟨I1, J1, ⟨hR1, hF1⟩, hC⟩ := q85 (x := xs (p + Int32.ofInt 1).toNatClampNeg) (x1 := xs (p + Int32.ofInt 2).toNatClampNeg) hR
  have hQ1 := RR_cf hQ (fun k hk => ((Hi_cf hF1 : Hi I J I1 J1) k hk).1)
  obtain ⟨I2, J2, ⟨hQ2, hF2⟩, hD⟩ := r157 (x := xs (p + Int32.ofInt 1).toNatClampNeg) (x1 := xs (p + Int32.ofInt 2).toNatClampNeg) (J := J1) hQ1
  have hR2 := RC_qf hR1 (Lo_qf hF2)
  refine AL_a1 (pc := 505) (by decide +kernel) ?_
  refine AL_ld (pc := 506) (k := 1) (by decide +kernel) (hb 1 (by decide) (by decide)) ?_
  refine AL_ld (pc := 511) (k := 2) (by decide +kernel) (hb 2 (by decide) (by decide)) ?_
  refine AL_cal (pc := 516) (j := 54) (y' := 85) (na := 3) (ea := 3) (rk := 0) (as := [.ref 0, .int (xs (p + Int32.ofInt 1).toNatClampNeg), .int (xs (p + Int32.ofInt 2).toNatClampNeg)]) (rest := []) (by decide +kernel) rfl rfl rfl rfl (Nat.le_of_ble_eq_true rfl) hC ?_
  refine AL_a2 (pc := 519) (by decide +kernel) ?_
  refine AL_ld (pc := 520) (k := 1) (by decide +kernel) (hb 1 (by decide) (by decide)) ?_
  refine AL_ld (pc := 525) (k := 2) (by decide +kernel) (hb 2 (by decide) (by decide)) ?_
  refine AL_cal (pc := 530) (j := 57) (y' := 157) (na := 3) (ea := 3) (rk := 49) (as := [.ref 49, .int (xs (p + Int32.ofInt 1).toNatClampNeg), .int (xs (p + Int32.ofInt 2).toNatClampNeg)]) (rest := [_]) (by decide +kernel) rfl rfl rfl rfl (Nat.le_of_ble_eq_true rfl) hD ?_
  exact AL_ei (pc := 533) (o := 743) (by decide +kernel) rfl (hk _ _ _ hR2 hQ2)
theorem lc_10 (hb : ∀ k : Int, 0 ≤ k → k < 6 → 0 ≤ (p + Int32.ofInt k).toInt ∧ (p + Int32.ofInt k).toInt < L) (hk : ∀ (σ : PS) (I : ab_I) (J : ab_J), RC σ I J → RR σ I → AL xs L 1276 (lw_L p) [] (I, J, ab_RF, 75)) (hR : RC σ I J) (hQ : RR σ I) : AL xs L 538 (lw_L p) [] (I, J, ab_RF, 75) := by
  obtain ⟨I1, J1, ⟨hR1, hF1⟩, hC⟩ := q86 (x := xs (p + Int32.ofInt 1).toNatClampNeg) hR
  have hQ1 := RR_cf hQ (fun k hk => ((hF1 : Hi I J I1 J1) k hk).1)
  obtain ⟨I2, J2, ⟨hQ2, hF2⟩, hD⟩ := r158 (x := xs (p + Int32.ofInt 1).toNatClampNeg) (J := J1) hQ1
  have hR2 := RC_qf hR1 (hF2)
  refine AL_a1 (pc := 538) (by decide +kernel) ?_
  refine AL_ld (pc := 539) (k := 1) (by decide +kernel) (hb 1 (by decide) (by decide)) ?_
  refine AL_cal (pc := 544) (j := 58) (y' := 86) (na := 2) (ea := 2) (rk := 0) (as := [.ref 0, .int (xs (p + Int32.ofInt 1).toNatClampNeg)]) (rest := []) (by decide +kernel) rfl rfl rfl rfl (Nat.le_of_ble_eq_true rfl) hC ?_
  refine AL_a2 (pc := 547) (by decide +kernel) ?_
  refine AL_ld (pc := 548) (k := 1) (by decide +kernel) (hb 1 (by decide) (by decide)) ?_
  refine AL_cal (pc := 553) (j := 61) (y' := 158) (na := 2) (ea := 2) (rk := 49) (as := [.ref 49, .int (xs (p + Int32.ofInt 1).toNatClampNeg)]) (rest := [_]) (by decide +kernel) rfl rfl rfl rfl (Nat.le_of_ble_eq_true rfl) hD ?_
  exact AL_ei (pc := 556) (o := 720) (by decide +kernel) rfl (hk _ _ _ hR2 hQ2)
theorem lc_11 (hb : ∀ k : Int, 0 ≤ k → k < 6 → 0 ≤ (p + Int32.ofInt k).toInt ∧ (p + Int32.ofInt k).toInt < L) (hk : ∀ (σ : PS) (I : ab_I) (J : ab_J), RC σ I J → RR σ I → AL xs L 1276 (lw_L p) [] (I, J, ab_RF, 75)) (hR : RC σ I J) (hQ : RR σ I) : AL xs L 561 (lw_L p) [] (I, J, ab_RF, 75) := by
  obtain ⟨I1, J1, ⟨hR1, hF1⟩, hC⟩ := q87  hR
  have hQ1 := RR_cf hQ (fun k hk => ((hF1 : Hi I J I1 J1) k hk).1)
  obtain ⟨I2, J2, ⟨hQ2, hF2⟩, hD⟩ := r159  (J := J1) hQ1
  have hR2 := RC_qf hR1 (hF2)
  refine AL_a1 (pc := 561) (by decide +kernel) ?_
  refine AL_cal (pc := 562) (j := 62) (y' := 87) (na := 1) (ea := 1) (rk := 0) (as := [.ref 0]) (rest := []) (by decide +kernel) rfl rfl rfl rfl (Nat.le_of_ble_eq_true rfl) hC ?_
  refine AL_a2 (pc := 565) (by decide +kernel) ?_
  refine AL_cal (pc := 566) (j := 66) (y' := 159) (na := 1) (ea := 1) (rk := 49) (as := [.ref 49]) (rest := [_]) (by decide +kernel) rfl rfl rfl rfl (Nat.le_of_ble_eq_true rfl) hD ?_
  exact AL_ei (pc := 569) (o := 707) (by decide +kernel) rfl (hk _ _ _ hR2 hQ2)
theorem lc_12 (hb : ∀ k : Int, 0 ≤ k → k < 6 → 0 ≤ (p + Int32.ofInt k).toInt ∧ (p + Int32.ofInt k).toInt < L) (hk : ∀ (σ : PS) (I : ab_I) (J : ab_J), RC σ I J → RR σ I → AL xs L 1276 (lw_L p) [] (I, J, ab_RF, 75)) (hR : RC σ I J) (hQ : RR σ I) : AL xs L 574 (lw_L p) [] (I, J, ab_RF, 75) := by
  have hC : ∀ Q : Option Value → ab_I → ab_J → Prop, Cal 88 [.ref 0] I J Q ↔ Q (some (.int (prs σ.2.2.1.1 σ.2.2.1.2).2.2.2)) I J := fun Q => q88 hR
  obtain ⟨I2, J2, ⟨hQ2, hF2⟩, hD⟩ := r164 (J := J) hQ
  have hR2 := RC_qf hR (Lo_qf hF2)
  refine AL_a1 (pc := 574) (by decide +kernel) ?_
  refine AL_cal (pc := 575) (j := 67) (y' := 88) (na := 1) (ea := 1) (rk := 0) (as := [.ref 0]) (rest := []) (by decide +kernel) rfl rfl rfl rfl (Nat.le_of_ble_eq_true rfl) hC ?_
  refine AL_a2 (pc := 578) (by decide +kernel) ?_
  refine AL_cal (pc := 579) (j := 70) (y' := 164) (na := 1) (ea := 1) (rk := 49) (as := [.ref 49]) (rest := [_]) (by decide +kernel) rfl rfl rfl rfl (Nat.le_of_ble_eq_true rfl) hD ?_
  exact AL_ei (pc := 582) (o := 694) (by decide +kernel) rfl (hk _ _ _ hR2 hQ2)
theorem lc_13 (hb : ∀ k : Int, 0 ≤ k → k < 6 → 0 ≤ (p + Int32.ofInt k).toInt ∧ (p + Int32.ofInt k).toInt < L) (hk : ∀ (σ : PS) (I : ab_I) (J : ab_J), RC σ I J → RR σ I → AL xs L 1276 (lw_L p) [] (I, J, ab_RF, 75)) (hR : RC σ I J) (hQ : RR σ I) : AL xs L 587 (lw_L p) [] (I, J, ab_RF, 75) := by
  obtain ⟨I1, J1, ⟨⟨hR1, hF1⟩, _⟩, hC⟩ := q89 (x := xs (p + Int32.ofInt 1).toNatClampNeg) hR
  have hQ1 := RR_cf hQ (fun k hk => ((Hi_cf hF1 : Hi I J I1 J1) k hk).1)
  obtain ⟨I2, J2, ⟨hQ2, hF2⟩, hD⟩ := r167 (x := xs (p + Int32.ofInt 1).toNatClampNeg) (J := J1) hQ1
  have hR2 := RC_qf hR1 (Lo_qf hF2)
  refine AL_a1 (pc := 587) (by decide +kernel) ?_
  refine AL_ld (pc := 588) (k := 1) (by decide +kernel) (hb 1 (by decide) (by decide)) ?_
  refine AL_cal (pc := 593) (j := 71) (y' := 89) (na := 2) (ea := 2) (rk := 0) (as := [.ref 0, .int (xs (p + Int32.ofInt 1).toNatClampNeg)]) (rest := []) (by decide +kernel) rfl rfl rfl rfl (Nat.le_of_ble_eq_true rfl) hC ?_
  refine AL_a2 (pc := 596) (by decide +kernel) ?_
  refine AL_ld (pc := 597) (k := 1) (by decide +kernel) (hb 1 (by decide) (by decide)) ?_
  refine AL_cal (pc := 602) (j := 74) (y' := 167) (na := 2) (ea := 2) (rk := 49) (as := [.ref 49, .int (xs (p + Int32.ofInt 1).toNatClampNeg)]) (rest := [_]) (by decide +kernel) rfl rfl rfl rfl (Nat.le_of_ble_eq_true rfl) hD ?_
  exact AL_ei (pc := 605) (o := 671) (by decide +kernel) rfl (hk _ _ _ hR2 hQ2)
theorem lc_14 (hb : ∀ k : Int, 0 ≤ k → k < 6 → 0 ≤ (p + Int32.ofInt k).toInt ∧ (p + Int32.ofInt k).toInt < L) (hk : ∀ (σ : PS) (I : ab_I) (J : ab_J), RC σ I J → RR σ I → AL xs L 1276 (lw_L p) [] (I, J, ab_RF, 75)) (hR : RC σ I J) (hQ : RR σ I) : AL xs L 610 (lw_L p) [] (I, J, ab_RF, 75) := by
  obtain ⟨I1, J1, ⟨hR1, hF1⟩, hC⟩ := q90 (x := xs (p + Int32.ofInt 1).toNatClampNeg) hR
  have hQ1 := RR_cf hQ (fun k hk => ((Hi_cf hF1 : Hi I J I1 J1) k hk).1)
  obtain ⟨I2, J2, ⟨hQ2, hF2⟩, hD⟩ := r168 (x := xs (p + Int32.ofInt 1).toNatClampNeg) (J := J1) hQ1
  have hR2 := RC_qf hR1 (Lo_qf hF2)
  refine AL_a1 (pc := 610) (by decide +kernel) ?_
  refine AL_ld (pc := 611) (k := 1) (by decide +kernel) (hb 1 (by decide) (by decide)) ?_
  refine AL_cal (pc := 616) (j := 75) (y' := 90) (na := 2) (ea := 2) (rk := 0) (as := [.ref 0, .int (xs (p + Int32.ofInt 1).toNatClampNeg)]) (rest := []) (by decide +kernel) rfl rfl rfl rfl (Nat.le_of_ble_eq_true rfl) hC ?_
  refine AL_a2 (pc := 619) (by decide +kernel) ?_
  refine AL_ld (pc := 620) (k := 1) (by decide +kernel) (hb 1 (by decide) (by decide)) ?_
  refine AL_cal (pc := 625) (j := 78) (y' := 168) (na := 2) (ea := 2) (rk := 49) (as := [.ref 49, .int (xs (p + Int32.ofInt 1).toNatClampNeg)]) (rest := [_]) (by decide +kernel) rfl rfl rfl rfl (Nat.le_of_ble_eq_true rfl) hD ?_
  exact AL_ei (pc := 628) (o := 648) (by decide +kernel) rfl (hk _ _ _ hR2 hQ2)
theorem lc_15 (hb : ∀ k : Int, 0 ≤ k → k < 6 → 0 ≤ (p + Int32.ofInt k).toInt ∧ (p + Int32.ofInt k).toInt < L) (hk : ∀ (σ : PS) (I : ab_I) (J : ab_J), RC σ I J → RR σ I → AL xs L 1276 (lw_L p) [] (I, J, ab_RF, 75)) (hR : RC σ I J) (hQ : RR σ I) : AL xs L 633 (lw_L p) [] (I, J, ab_RF, 75) := by
  obtain ⟨I1, J1, ⟨hR1, hF1⟩, hC⟩ := q91 (x := xs (p + Int32.ofInt 1).toNatClampNeg) (x1 := xs (p + Int32.ofInt 2).toNatClampNeg) hR
  have hQ1 := RR_cf hQ (fun k hk => ((Hi_cf hF1 : Hi I J I1 J1) k hk).1)
  obtain ⟨I2, J2, ⟨hQ2, hF2⟩, hD⟩ := r169 (x := xs (p + Int32.ofInt 1).toNatClampNeg) (x1 := xs (p + Int32.ofInt 2).toNatClampNeg) (J := J1) hQ1
  have hR2 := RC_qf hR1 (Lo_qf hF2)
  refine AL_a1 (pc := 633) (by decide +kernel) ?_
  refine AL_ld (pc := 634) (k := 1) (by decide +kernel) (hb 1 (by decide) (by decide)) ?_
  refine AL_ld (pc := 639) (k := 2) (by decide +kernel) (hb 2 (by decide) (by decide)) ?_
  refine AL_cal (pc := 644) (j := 79) (y' := 91) (na := 3) (ea := 3) (rk := 0) (as := [.ref 0, .int (xs (p + Int32.ofInt 1).toNatClampNeg), .int (xs (p + Int32.ofInt 2).toNatClampNeg)]) (rest := []) (by decide +kernel) rfl rfl rfl rfl (Nat.le_of_ble_eq_true rfl) hC ?_
  refine AL_a2 (pc := 647) (by decide +kernel) ?_
  refine AL_ld (pc := 648) (k := 1) (by decide +kernel) (hb 1 (by decide) (by decide)) ?_
  refine AL_ld (pc := 653) (k := 2) (by decide +kernel) (hb 2 (by decide) (by decide)) ?_
  refine AL_cal (pc := 658) (j := 82) (y' := 169) (na := 3) (ea := 3) (rk := 49) (as := [.ref 49, .int (xs (p + Int32.ofInt 1).toNatClampNeg), .int (xs (p + Int32.ofInt 2).toNatClampNeg)]) (rest := [_]) (by decide +kernel) rfl rfl rfl rfl (Nat.le_of_ble_eq_true rfl) hD ?_
  exact AL_ei (pc := 661) (o := 615) (by decide +kernel) rfl (hk _ _ _ hR2 hQ2)
theorem lc_16 (hb : ∀ k : Int, 0 ≤ k → k < 6 → 0 ≤ (p + Int32.ofInt k).toInt ∧ (p + Int32.ofInt k).toInt < L) (hk : ∀ (σ : PS) (I : ab_I) (J : ab_J), RC σ I J → RR σ I → AL xs L 1276 (lw_L p) [] (I, J, ab_RF, 75)) (hR : RC σ I J) (hQ : RR σ I) : AL xs L 666 (lw_L p) [] (I, J, ab_RF, 75) := by
  obtain ⟨I1, J1, ⟨hR1, hF1⟩, hC⟩ := q92 (x := xs (p + Int32.ofInt 1).toNatClampNeg) (x1 := xs (p + Int32.ofInt 2).toNatClampNeg) (x2 := xs (p + Int32.ofInt 3).toNatClampNeg) hR
  have hQ1 := RR_cf hQ (fun k hk => ((Hi_cf hF1 : Hi I J I1 J1) k hk).1)
  obtain ⟨I2, J2, ⟨hQ2, hF2⟩, hD⟩ := r171 (x := xs (p + Int32.ofInt 1).toNatClampNeg) (x1 := xs (p + Int32.ofInt 2).toNatClampNeg) (x2 := xs (p + Int32.ofInt 3).toNatClampNeg) (J := J1) hQ1
  have hR2 := RC_qf hR1 (Lo_qf hF2)
  refine AL_a1 (pc := 666) (by decide +kernel) ?_
  refine AL_ld (pc := 667) (k := 1) (by decide +kernel) (hb 1 (by decide) (by decide)) ?_
  refine AL_ld (pc := 672) (k := 2) (by decide +kernel) (hb 2 (by decide) (by decide)) ?_
  refine AL_ld (pc := 677) (k := 3) (by decide +kernel) (hb 3 (by decide) (by decide)) ?_
  refine AL_cal (pc := 682) (j := 83) (y' := 92) (na := 4) (ea := 4) (rk := 0) (as := [.ref 0, .int (xs (p + Int32.ofInt 1).toNatClampNeg), .int (xs (p + Int32.ofInt 2).toNatClampNeg), .int (xs (p + Int32.ofInt 3).toNatClampNeg)]) (rest := []) (by decide +kernel) rfl rfl rfl rfl (Nat.le_of_ble_eq_true rfl) hC ?_
  refine AL_a2 (pc := 685) (by decide +kernel) ?_
  refine AL_ld (pc := 686) (k := 1) (by decide +kernel) (hb 1 (by decide) (by decide)) ?_
  refine AL_ld (pc := 691) (k := 2) (by decide +kernel) (hb 2 (by decide) (by decide)) ?_
  refine AL_ld (pc := 696) (k := 3) (by decide +kernel) (hb 3 (by decide) (by decide)) ?_
  refine AL_cal (pc := 701) (j := 86) (y' := 171) (na := 4) (ea := 4) (rk := 49) (as := [.ref 49, .int (xs (p + Int32.ofInt 1).toNatClampNeg), .int (xs (p + Int32.ofInt 2).toNatClampNeg), .int (xs (p + Int32.ofInt 3).toNatClampNeg)]) (rest := [_]) (by decide +kernel) rfl rfl rfl rfl (Nat.le_of_ble_eq_true rfl) hD ?_
  exact AL_ej (pc := 704) (o := 571) (by decide +kernel) rfl (hk _ _ _ hR2 hQ2)
theorem lc_17 (hb : ∀ k : Int, 0 ≤ k → k < 6 → 0 ≤ (p + Int32.ofInt k).toInt ∧ (p + Int32.ofInt k).toInt < L) (hk : ∀ (σ : PS) (I : ab_I) (J : ab_J), RC σ I J → RR σ I → AL xs L 1276 (lw_L p) [] (I, J, ab_RF, 75)) (hR : RC σ I J) (hQ : RR σ I) : AL xs L 710 (lw_L p) [] (I, J, ab_RF, 75) := by
  obtain ⟨I1, J1, ⟨hR1, hF1⟩, hC⟩ := q93 (x := xs (p + Int32.ofInt 1).toNatClampNeg) hR
  have hQ1 := RR_cf hQ (fun k hk => ((Hi_cf hF1 : Hi I J I1 J1) k hk).1)
  obtain ⟨I2, J2, ⟨hQ2, hF2⟩, hD⟩ := r174 (x := xs (p + Int32.ofInt 1).toNatClampNeg) (J := J1) hQ1
  have hR2 := RC_qf hR1 (Lo_qf hF2)
  refine AL_a1 (pc := 710) (by decide +kernel) ?_
  refine AL_ld (pc := 711) (k := 1) (by decide +kernel) (hb 1 (by decide) (by decide)) ?_
  refine AL_cal (pc := 716) (j := 87) (y' := 93) (na := 2) (ea := 2) (rk := 0) (as := [.ref 0, .int (xs (p + Int32.ofInt 1).toNatClampNeg)]) (rest := []) (by decide +kernel) rfl rfl rfl rfl (Nat.le_of_ble_eq_true rfl) hC ?_
  refine AL_a2 (pc := 719) (by decide +kernel) ?_
  refine AL_ld (pc := 720) (k := 1) (by decide +kernel) (hb 1 (by decide) (by decide)) ?_
  refine AL_cal (pc := 725) (j := 91) (y' := 174) (na := 2) (ea := 2) (rk := 49) (as := [.ref 49, .int (xs (p + Int32.ofInt 1).toNatClampNeg)]) (rest := [_]) (by decide +kernel) rfl rfl rfl rfl (Nat.le_of_ble_eq_true rfl) hD ?_
  exact AL_ej (pc := 728) (o := 547) (by decide +kernel) rfl (hk _ _ _ hR2 hQ2)
theorem lc_18 (hb : ∀ k : Int, 0 ≤ k → k < 6 → 0 ≤ (p + Int32.ofInt k).toInt ∧ (p + Int32.ofInt k).toInt < L) (hk : ∀ (σ : PS) (I : ab_I) (J : ab_J), RC σ I J → RR σ I → AL xs L 1276 (lw_L p) [] (I, J, ab_RF, 75)) (hR : RC σ I J) (hQ : RR σ I) : AL xs L 734 (lw_L p) [] (I, J, ab_RF, 75) := by
  obtain ⟨I1, J1, ⟨hR1, hF1⟩, hC⟩ := q94 (x := xs (p + Int32.ofInt 1).toNatClampNeg) hR
  have hQ1 := RR_cf hQ (fun k hk => ((Hi_cf hF1 : Hi I J I1 J1) k hk).1)
  obtain ⟨I2, J2, ⟨hQ2, hF2⟩, hD⟩ := r175 (x := xs (p + Int32.ofInt 1).toNatClampNeg) (J := J1) hQ1
  have hR2 := RC_qf hR1 (Lo_qf hF2)
  refine AL_a1 (pc := 734) (by decide +kernel) ?_
  refine AL_ld (pc := 735) (k := 1) (by decide +kernel) (hb 1 (by decide) (by decide)) ?_
  refine AL_cal (pc := 740) (j := 92) (y' := 94) (na := 2) (ea := 2) (rk := 0) (as := [.ref 0, .int (xs (p + Int32.ofInt 1).toNatClampNeg)]) (rest := []) (by decide +kernel) rfl rfl rfl rfl (Nat.le_of_ble_eq_true rfl) hC ?_
  refine AL_a2 (pc := 743) (by decide +kernel) ?_
  refine AL_ld (pc := 744) (k := 1) (by decide +kernel) (hb 1 (by decide) (by decide)) ?_
  refine AL_cal (pc := 749) (j := 95) (y' := 175) (na := 2) (ea := 2) (rk := 49) (as := [.ref 49, .int (xs (p + Int32.ofInt 1).toNatClampNeg)]) (rest := [_]) (by decide +kernel) rfl rfl rfl rfl (Nat.le_of_ble_eq_true rfl) hD ?_
  exact AL_ej (pc := 752) (o := 523) (by decide +kernel) rfl (hk _ _ _ hR2 hQ2)
theorem lc_19 (hb : ∀ k : Int, 0 ≤ k → k < 6 → 0 ≤ (p + Int32.ofInt k).toInt ∧ (p + Int32.ofInt k).toInt < L) (hk : ∀ (σ : PS) (I : ab_I) (J : ab_J), RC σ I J → RR σ I → AL xs L 1276 (lw_L p) [] (I, J, ab_RF, 75)) (hR : RC σ I J) (hQ : RR σ I) : AL xs L 758 (lw_L p) [] (I, J, ab_RF, 75) := by
  obtain ⟨I1, J1, ⟨hR1, hF1⟩, hC⟩ := q95 (x := xs (p + Int32.ofInt 1).toNatClampNeg) (x1 := xs (p + Int32.ofInt 2).toNatClampNeg) hR
  have hQ1 := RR_cf hQ (fun k hk => ((Hi_cf hF1 : Hi I J I1 J1) k hk).1)
  obtain ⟨I2, J2, ⟨hQ2, hF2⟩, hD⟩ := r177 (x := xs (p + Int32.ofInt 1).toNatClampNeg) (x1 := xs (p + Int32.ofInt 2).toNatClampNeg) (J := J1) hQ1
  have hR2 := RC_qf hR1 (Lo_qf hF2)
  refine AL_a1 (pc := 758) (by decide +kernel) ?_
  refine AL_ld (pc := 759) (k := 1) (by decide +kernel) (hb 1 (by decide) (by decide)) ?_
  refine AL_ld (pc := 764) (k := 2) (by decide +kernel) (hb 2 (by decide) (by decide)) ?_
  refine AL_cal (pc := 769) (j := 96) (y' := 95) (na := 3) (ea := 3) (rk := 0) (as := [.ref 0, .int (xs (p + Int32.ofInt 1).toNatClampNeg), .int (xs (p + Int32.ofInt 2).toNatClampNeg)]) (rest := []) (by decide +kernel) rfl rfl rfl rfl (Nat.le_of_ble_eq_true rfl) hC ?_
  refine AL_a2 (pc := 772) (by decide +kernel) ?_
  refine AL_ld (pc := 773) (k := 1) (by decide +kernel) (hb 1 (by decide) (by decide)) ?_
  refine AL_ld (pc := 778) (k := 2) (by decide +kernel) (hb 2 (by decide) (by decide)) ?_
  refine AL_cal (pc := 783) (j := 99) (y' := 177) (na := 3) (ea := 3) (rk := 49) (as := [.ref 49, .int (xs (p + Int32.ofInt 1).toNatClampNeg), .int (xs (p + Int32.ofInt 2).toNatClampNeg)]) (rest := [_]) (by decide +kernel) rfl rfl rfl rfl (Nat.le_of_ble_eq_true rfl) hD ?_
  exact AL_ei (pc := 786) (o := 490) (by decide +kernel) rfl (hk _ _ _ hR2 hQ2)
theorem lc_20 (hb : ∀ k : Int, 0 ≤ k → k < 6 → 0 ≤ (p + Int32.ofInt k).toInt ∧ (p + Int32.ofInt k).toInt < L) (hk : ∀ (σ : PS) (I : ab_I) (J : ab_J), RC σ I J → RR σ I → AL xs L 1276 (lw_L p) [] (I, J, ab_RF, 75)) (hR : RC σ I J) (hQ : RR σ I) : AL xs L 791 (lw_L p) [] (I, J, ab_RF, 75) := by
  obtain ⟨I1, J1, ⟨hR1, hF1⟩, hC⟩ := q96 (x := xs (p + Int32.ofInt 1).toNatClampNeg) (x1 := xs (p + Int32.ofInt 2).toNatClampNeg) hR
  have hQ1 := RR_cf hQ (fun k hk => ((hF1 : Hi I J I1 J1) k hk).1)
  obtain ⟨I2, J2, ⟨hQ2, hF2⟩, hD⟩ := r178 (x := xs (p + Int32.ofInt 1).toNatClampNeg) (x1 := xs (p + Int32.ofInt 2).toNatClampNeg) (J := J1) hQ1
  have hR2 := RC_qf hR1 (hF2)
  refine AL_a1 (pc := 791) (by decide +kernel) ?_
  refine AL_ld (pc := 792) (k := 1) (by decide +kernel) (hb 1 (by decide) (by decide)) ?_
  refine AL_ld (pc := 797) (k := 2) (by decide +kernel) (hb 2 (by decide) (by decide)) ?_
  refine AL_cal (pc := 802) (j := 100) (y' := 96) (na := 3) (ea := 3) (rk := 0) (as := [.ref 0, .int (xs (p + Int32.ofInt 1).toNatClampNeg), .int (xs (p + Int32.ofInt 2).toNatClampNeg)]) (rest := []) (by decide +kernel) rfl rfl rfl rfl (Nat.le_of_ble_eq_true rfl) hC ?_
  refine AL_a2 (pc := 805) (by decide +kernel) ?_
  refine AL_ld (pc := 806) (k := 1) (by decide +kernel) (hb 1 (by decide) (by decide)) ?_
  refine AL_ld (pc := 811) (k := 2) (by decide +kernel) (hb 2 (by decide) (by decide)) ?_
  refine AL_cal (pc := 816) (j := 103) (y' := 178) (na := 3) (ea := 3) (rk := 49) (as := [.ref 49, .int (xs (p + Int32.ofInt 1).toNatClampNeg), .int (xs (p + Int32.ofInt 2).toNatClampNeg)]) (rest := [_]) (by decide +kernel) rfl rfl rfl rfl (Nat.le_of_ble_eq_true rfl) hD ?_
  exact AL_ei (pc := 819) (o := 457) (by decide +kernel) rfl (hk _ _ _ hR2 hQ2)
theorem lc_21 (hb : ∀ k : Int, 0 ≤ k → k < 6 → 0 ≤ (p + Int32.ofInt k).toInt ∧ (p + Int32.ofInt k).toInt < L) (hk : ∀ (σ : PS) (I : ab_I) (J : ab_J), RC σ I J → RR σ I → AL xs L 1276 (lw_L p) [] (I, J, ab_RF, 75)) (hR : RC σ I J) (hQ : RR σ I) : AL xs L 824 (lw_L p) [] (I, J, ab_RF, 75) := by
  obtain ⟨I1, J1, ⟨hR1, hF1⟩, hC⟩ := q97 (x := xs (p + Int32.ofInt 1).toNatClampNeg) hR
  have hQ1 := RR_cf hQ (fun k hk => ((Hi_cf hF1 : Hi I J I1 J1) k hk).1)
  obtain ⟨I2, J2, ⟨hQ2, hF2⟩, hD⟩ := r179 (x := xs (p + Int32.ofInt 1).toNatClampNeg) (J := J1) hQ1
  have hR2 := RC_qf hR1 (Lo_qf hF2)
  refine AL_a1 (pc := 824) (by decide +kernel) ?_
  refine AL_ld (pc := 825) (k := 1) (by decide +kernel) (hb 1 (by decide) (by decide)) ?_
  refine AL_cal (pc := 830) (j := 104) (y' := 97) (na := 2) (ea := 2) (rk := 0) (as := [.ref 0, .int (xs (p + Int32.ofInt 1).toNatClampNeg)]) (rest := []) (by decide +kernel) rfl rfl rfl rfl (Nat.le_of_ble_eq_true rfl) hC ?_
  refine AL_a2 (pc := 833) (by decide +kernel) ?_
  refine AL_ld (pc := 834) (k := 1) (by decide +kernel) (hb 1 (by decide) (by decide)) ?_
  refine AL_cal (pc := 839) (j := 107) (y' := 179) (na := 2) (ea := 2) (rk := 49) (as := [.ref 49, .int (xs (p + Int32.ofInt 1).toNatClampNeg)]) (rest := [_]) (by decide +kernel) rfl rfl rfl rfl (Nat.le_of_ble_eq_true rfl) hD ?_
  exact AL_ei (pc := 842) (o := 434) (by decide +kernel) rfl (hk _ _ _ hR2 hQ2)
theorem lc_22 (hb : ∀ k : Int, 0 ≤ k → k < 6 → 0 ≤ (p + Int32.ofInt k).toInt ∧ (p + Int32.ofInt k).toInt < L) (hk : ∀ (σ : PS) (I : ab_I) (J : ab_J), RC σ I J → RR σ I → AL xs L 1276 (lw_L p) [] (I, J, ab_RF, 75)) (hR : RC σ I J) (hQ : RR σ I) : AL xs L 847 (lw_L p) [] (I, J, ab_RF, 75) := by
  obtain ⟨I1, J1, ⟨hR1, hF1⟩, hC⟩ := q98 (x := xs (p + Int32.ofInt 1).toNatClampNeg) (x1 := xs (p + Int32.ofInt 2).toNatClampNeg) hR
  have hQ1 := RR_cf hQ (fun k hk => ((Hi_cf hF1 : Hi I J I1 J1) k hk).1)
  obtain ⟨I2, J2, ⟨hQ2, hF2⟩, hD⟩ := r180 (x := xs (p + Int32.ofInt 1).toNatClampNeg) (x1 := xs (p + Int32.ofInt 2).toNatClampNeg) (J := J1) hQ1
  have hR2 := RC_qf hR1 (Lo_qf hF2)
  refine AL_a1 (pc := 847) (by decide +kernel) ?_
  refine AL_ld (pc := 848) (k := 1) (by decide +kernel) (hb 1 (by decide) (by decide)) ?_
  refine AL_ld (pc := 853) (k := 2) (by decide +kernel) (hb 2 (by decide) (by decide)) ?_
  refine AL_cal (pc := 858) (j := 108) (y' := 98) (na := 3) (ea := 3) (rk := 0) (as := [.ref 0, .int (xs (p + Int32.ofInt 1).toNatClampNeg), .int (xs (p + Int32.ofInt 2).toNatClampNeg)]) (rest := []) (by decide +kernel) rfl rfl rfl rfl (Nat.le_of_ble_eq_true rfl) hC ?_
  refine AL_a2 (pc := 861) (by decide +kernel) ?_
  refine AL_ld (pc := 862) (k := 1) (by decide +kernel) (hb 1 (by decide) (by decide)) ?_
  refine AL_ld (pc := 867) (k := 2) (by decide +kernel) (hb 2 (by decide) (by decide)) ?_
  refine AL_cal (pc := 872) (j := 111) (y' := 180) (na := 3) (ea := 3) (rk := 49) (as := [.ref 49, .int (xs (p + Int32.ofInt 1).toNatClampNeg), .int (xs (p + Int32.ofInt 2).toNatClampNeg)]) (rest := [_]) (by decide +kernel) rfl rfl rfl rfl (Nat.le_of_ble_eq_true rfl) hD ?_
  exact AL_ej (pc := 875) (o := 400) (by decide +kernel) rfl (hk _ _ _ hR2 hQ2)
theorem lc_23 (hb : ∀ k : Int, 0 ≤ k → k < 6 → 0 ≤ (p + Int32.ofInt k).toInt ∧ (p + Int32.ofInt k).toInt < L) (hk : ∀ (σ : PS) (I : ab_I) (J : ab_J), RC σ I J → RR σ I → AL xs L 1276 (lw_L p) [] (I, J, ab_RF, 75)) (hR : RC σ I J) (hQ : RR σ I) : AL xs L 881 (lw_L p) [] (I, J, ab_RF, 75) := by
  obtain ⟨I1, J1, ⟨hR1, hF1⟩, hC⟩ := q99 (x := xs (p + Int32.ofInt 1).toNatClampNeg) (x1 := xs (p + Int32.ofInt 2).toNatClampNeg) (x2 := xs (p + Int32.ofInt 3).toNatClampNeg) hR
  have hQ1 := RR_cf hQ (fun k hk => ((Hi_cf hF1 : Hi I J I1 J1) k hk).1)
  obtain ⟨I2, J2, ⟨hQ2, hF2⟩, hD⟩ := r184 (x := xs (p + Int32.ofInt 1).toNatClampNeg) (x1 := xs (p + Int32.ofInt 2).toNatClampNeg) (x2 := xs (p + Int32.ofInt 3).toNatClampNeg) (J := J1) hQ1
  have hR2 := RC_qf hR1 (Lo_qf hF2)
  refine AL_a1 (pc := 881) (by decide +kernel) ?_
  refine AL_ld (pc := 882) (k := 1) (by decide +kernel) (hb 1 (by decide) (by decide)) ?_
  refine AL_ld (pc := 887) (k := 2) (by decide +kernel) (hb 2 (by decide) (by decide)) ?_
  refine AL_ld (pc := 892) (k := 3) (by decide +kernel) (hb 3 (by decide) (by decide)) ?_
  refine AL_cal (pc := 897) (j := 112) (y' := 99) (na := 4) (ea := 4) (rk := 0) (as := [.ref 0, .int (xs (p + Int32.ofInt 1).toNatClampNeg), .int (xs (p + Int32.ofInt 2).toNatClampNeg), .int (xs (p + Int32.ofInt 3).toNatClampNeg)]) (rest := []) (by decide +kernel) rfl rfl rfl rfl (Nat.le_of_ble_eq_true rfl) hC ?_
  refine AL_a2 (pc := 900) (by decide +kernel) ?_
  refine AL_ld (pc := 901) (k := 1) (by decide +kernel) (hb 1 (by decide) (by decide)) ?_
  refine AL_ld (pc := 906) (k := 2) (by decide +kernel) (hb 2 (by decide) (by decide)) ?_
  refine AL_ld (pc := 911) (k := 3) (by decide +kernel) (hb 3 (by decide) (by decide)) ?_
  refine AL_cal (pc := 916) (j := 116) (y' := 184) (na := 4) (ea := 4) (rk := 49) (as := [.ref 49, .int (xs (p + Int32.ofInt 1).toNatClampNeg), .int (xs (p + Int32.ofInt 2).toNatClampNeg), .int (xs (p + Int32.ofInt 3).toNatClampNeg)]) (rest := [_]) (by decide +kernel) rfl rfl rfl rfl (Nat.le_of_ble_eq_true rfl) hD ?_
  exact AL_ei (pc := 919) (o := 357) (by decide +kernel) rfl (hk _ _ _ hR2 hQ2)
theorem lc_24 (hb : ∀ k : Int, 0 ≤ k → k < 6 → 0 ≤ (p + Int32.ofInt k).toInt ∧ (p + Int32.ofInt k).toInt < L) (hk : ∀ (σ : PS) (I : ab_I) (J : ab_J), RC σ I J → RR σ I → AL xs L 1276 (lw_L p) [] (I, J, ab_RF, 75)) (hR : RC σ I J) (hQ : RR σ I) : AL xs L 924 (lw_L p) [] (I, J, ab_RF, 75) := by
  obtain ⟨I1, J1, ⟨hR1, hF1⟩, hC⟩ := q100  hR
  have hQ1 := RR_cf hQ (fun k hk => ((Hi_cf hF1 : Hi I J I1 J1) k hk).1)
  obtain ⟨I2, J2, ⟨hQ2, hF2⟩, hD⟩ := r186  (J := J1) hQ1
  have hR2 := RC_qf hR1 (Lo_qf hF2)
  refine AL_a1 (pc := 924) (by decide +kernel) ?_
  refine AL_cal (pc := 925) (j := 117) (y' := 100) (na := 1) (ea := 1) (rk := 0) (as := [.ref 0]) (rest := []) (by decide +kernel) rfl rfl rfl rfl (Nat.le_of_ble_eq_true rfl) hC ?_
  refine AL_a2 (pc := 928) (by decide +kernel) ?_
  refine AL_cal (pc := 929) (j := 120) (y' := 186) (na := 1) (ea := 1) (rk := 49) (as := [.ref 49]) (rest := [_]) (by decide +kernel) rfl rfl rfl rfl (Nat.le_of_ble_eq_true rfl) hD ?_
  exact AL_ei (pc := 932) (o := 344) (by decide +kernel) rfl (hk _ _ _ hR2 hQ2)
theorem lc_25 (hb : ∀ k : Int, 0 ≤ k → k < 6 → 0 ≤ (p + Int32.ofInt k).toInt ∧ (p + Int32.ofInt k).toInt < L) (hk : ∀ (σ : PS) (I : ab_I) (J : ab_J), RC σ I J → RR σ I → AL xs L 1276 (lw_L p) [] (I, J, ab_RF, 75)) (hR : RC σ I J) (hQ : RR σ I) : AL xs L 937 (lw_L p) [] (I, J, ab_RF, 75) := by
  obtain ⟨I1, J1, ⟨hR1, hF1⟩, hC⟩ := q101 (x := xs (p + Int32.ofInt 1).toNatClampNeg) (x1 := xs (p + Int32.ofInt 2).toNatClampNeg) (x2 := xs (p + Int32.ofInt 3).toNatClampNeg) hR
  have hQ1 := RR_cf hQ (fun k hk => ((Hi_cf hF1 : Hi I J I1 J1) k hk).1)
  obtain ⟨I2, J2, ⟨hQ2, hF2⟩, hD⟩ := r187 (x := xs (p + Int32.ofInt 1).toNatClampNeg) (x1 := xs (p + Int32.ofInt 2).toNatClampNeg) (x2 := xs (p + Int32.ofInt 3).toNatClampNeg) (J := J1) hQ1
  have hR2 := RC_qf hR1 (Lo_qf hF2)
  refine AL_a1 (pc := 937) (by decide +kernel) ?_
  refine AL_ld (pc := 938) (k := 1) (by decide +kernel) (hb 1 (by decide) (by decide)) ?_
  refine AL_ld (pc := 943) (k := 2) (by decide +kernel) (hb 2 (by decide) (by decide)) ?_
  refine AL_ld (pc := 948) (k := 3) (by decide +kernel) (hb 3 (by decide) (by decide)) ?_
  refine AL_cal (pc := 953) (j := 121) (y' := 101) (na := 4) (ea := 4) (rk := 0) (as := [.ref 0, .int (xs (p + Int32.ofInt 1).toNatClampNeg), .int (xs (p + Int32.ofInt 2).toNatClampNeg), .int (xs (p + Int32.ofInt 3).toNatClampNeg)]) (rest := []) (by decide +kernel) rfl rfl rfl rfl (Nat.le_of_ble_eq_true rfl) hC ?_
  refine AL_a2 (pc := 956) (by decide +kernel) ?_
  refine AL_ld (pc := 957) (k := 1) (by decide +kernel) (hb 1 (by decide) (by decide)) ?_
  refine AL_ld (pc := 962) (k := 2) (by decide +kernel) (hb 2 (by decide) (by decide)) ?_
  refine AL_ld (pc := 967) (k := 3) (by decide +kernel) (hb 3 (by decide) (by decide)) ?_
  refine AL_cal (pc := 972) (j := 124) (y' := 187) (na := 4) (ea := 4) (rk := 49) (as := [.ref 49, .int (xs (p + Int32.ofInt 1).toNatClampNeg), .int (xs (p + Int32.ofInt 2).toNatClampNeg), .int (xs (p + Int32.ofInt 3).toNatClampNeg)]) (rest := [_]) (by decide +kernel) rfl rfl rfl rfl (Nat.le_of_ble_eq_true rfl) hD ?_
  exact AL_ej (pc := 975) (o := 300) (by decide +kernel) rfl (hk _ _ _ hR2 hQ2)
theorem lc_26 (hb : ∀ k : Int, 0 ≤ k → k < 6 → 0 ≤ (p + Int32.ofInt k).toInt ∧ (p + Int32.ofInt k).toInt < L) (hk : ∀ (σ : PS) (I : ab_I) (J : ab_J), RC σ I J → RR σ I → AL xs L 1276 (lw_L p) [] (I, J, ab_RF, 75)) (hR : RC σ I J) (hQ : RR σ I) : AL xs L 981 (lw_L p) [] (I, J, ab_RF, 75) := by
  obtain ⟨I1, J1, ⟨hR1, hF1⟩, hC⟩ := q102 (x := xs (p + Int32.ofInt 1).toNatClampNeg) (x1 := xs (p + Int32.ofInt 2).toNatClampNeg) (x2 := xs (p + Int32.ofInt 3).toNatClampNeg) hR
  have hQ1 := RR_cf hQ (fun k hk => ((hF1 : Hi I J I1 J1) k hk).1)
  obtain ⟨I2, J2, ⟨hQ2, hF2⟩, hD⟩ := r190 (x := xs (p + Int32.ofInt 1).toNatClampNeg) (x1 := xs (p + Int32.ofInt 2).toNatClampNeg) (x2 := xs (p + Int32.ofInt 3).toNatClampNeg) (J := J1) hQ1
  have hR2 := RC_qf hR1 (hF2)
  refine AL_a1 (pc := 981) (by decide +kernel) ?_
  refine AL_ld (pc := 982) (k := 1) (by decide +kernel) (hb 1 (by decide) (by decide)) ?_
  refine AL_ld (pc := 987) (k := 2) (by decide +kernel) (hb 2 (by decide) (by decide)) ?_
  refine AL_ld (pc := 992) (k := 3) (by decide +kernel) (hb 3 (by decide) (by decide)) ?_
  refine AL_cal (pc := 997) (j := 125) (y' := 102) (na := 4) (ea := 4) (rk := 0) (as := [.ref 0, .int (xs (p + Int32.ofInt 1).toNatClampNeg), .int (xs (p + Int32.ofInt 2).toNatClampNeg), .int (xs (p + Int32.ofInt 3).toNatClampNeg)]) (rest := []) (by decide +kernel) rfl rfl rfl rfl (Nat.le_of_ble_eq_true rfl) hC ?_
  refine AL_a2 (pc := 1000) (by decide +kernel) ?_
  refine AL_ld (pc := 1001) (k := 1) (by decide +kernel) (hb 1 (by decide) (by decide)) ?_
  refine AL_ld (pc := 1006) (k := 2) (by decide +kernel) (hb 2 (by decide) (by decide)) ?_
  refine AL_ld (pc := 1011) (k := 3) (by decide +kernel) (hb 3 (by decide) (by decide)) ?_
  refine AL_cal (pc := 1016) (j := 128) (y' := 190) (na := 4) (ea := 4) (rk := 49) (as := [.ref 49, .int (xs (p + Int32.ofInt 1).toNatClampNeg), .int (xs (p + Int32.ofInt 2).toNatClampNeg), .int (xs (p + Int32.ofInt 3).toNatClampNeg)]) (rest := [_]) (by decide +kernel) rfl rfl rfl rfl (Nat.le_of_ble_eq_true rfl) hD ?_
  exact AL_ei (pc := 1019) (o := 257) (by decide +kernel) rfl (hk _ _ _ hR2 hQ2)
theorem lc_27 (hb : ∀ k : Int, 0 ≤ k → k < 6 → 0 ≤ (p + Int32.ofInt k).toInt ∧ (p + Int32.ofInt k).toInt < L) (hk : ∀ (σ : PS) (I : ab_I) (J : ab_J), RC σ I J → RR σ I → AL xs L 1276 (lw_L p) [] (I, J, ab_RF, 75)) (hR : RC σ I J) (hQ : RR σ I) : AL xs L 1024 (lw_L p) [] (I, J, ab_RF, 75) := by
  obtain ⟨I1, J1, ⟨hR1, hF1⟩, hC⟩ := q103 (x := xs (p + Int32.ofInt 1).toNatClampNeg) hR
  have hQ1 := RR_cf hQ (fun k hk => ((hF1 : Hi I J I1 J1) k hk).1)
  obtain ⟨I2, J2, ⟨hQ2, hF2⟩, hD⟩ := r191 (x := xs (p + Int32.ofInt 1).toNatClampNeg) (J := J1) hQ1
  have hR2 := RC_qf hR1 (hF2)
  refine AL_a1 (pc := 1024) (by decide +kernel) ?_
  refine AL_ld (pc := 1025) (k := 1) (by decide +kernel) (hb 1 (by decide) (by decide)) ?_
  refine AL_cal (pc := 1030) (j := 129) (y' := 103) (na := 2) (ea := 2) (rk := 0) (as := [.ref 0, .int (xs (p + Int32.ofInt 1).toNatClampNeg)]) (rest := []) (by decide +kernel) rfl rfl rfl rfl (Nat.le_of_ble_eq_true rfl) hC ?_
  refine AL_a2 (pc := 1033) (by decide +kernel) ?_
  refine AL_ld (pc := 1034) (k := 1) (by decide +kernel) (hb 1 (by decide) (by decide)) ?_
  refine AL_cal (pc := 1039) (j := 132) (y' := 191) (na := 2) (ea := 2) (rk := 49) (as := [.ref 49, .int (xs (p + Int32.ofInt 1).toNatClampNeg)]) (rest := [_]) (by decide +kernel) rfl rfl rfl rfl (Nat.le_of_ble_eq_true rfl) hD ?_
  exact AL_ei (pc := 1042) (o := 234) (by decide +kernel) rfl (hk _ _ _ hR2 hQ2)
theorem lc_28 (hb : ∀ k : Int, 0 ≤ k → k < 6 → 0 ≤ (p + Int32.ofInt k).toInt ∧ (p + Int32.ofInt k).toInt < L) (hk : ∀ (σ : PS) (I : ab_I) (J : ab_J), RC σ I J → RR σ I → AL xs L 1276 (lw_L p) [] (I, J, ab_RF, 75)) (hR : RC σ I J) (hQ : RR σ I) : AL xs L 1047 (lw_L p) [] (I, J, ab_RF, 75) := by
  obtain ⟨I1, J1, ⟨hR1, hF1⟩, hC⟩ := q104 (x := xs (p + Int32.ofInt 1).toNatClampNeg) (x1 := xs (p + Int32.ofInt 2).toNatClampNeg) (x2 := xs (p + Int32.ofInt 3).toNatClampNeg) (x3 := xs (p + Int32.ofInt 4).toNatClampNeg) hR
  have hQ1 := RR_cf hQ (fun k hk => ((hF1 : Hi I J I1 J1) k hk).1)
  obtain ⟨I2, J2, ⟨hQ2, hF2⟩, hD⟩ := r194 (x := xs (p + Int32.ofInt 1).toNatClampNeg) (x1 := xs (p + Int32.ofInt 2).toNatClampNeg) (x2 := xs (p + Int32.ofInt 3).toNatClampNeg) (x3 := xs (p + Int32.ofInt 4).toNatClampNeg) (J := J1) hQ1
  have hR2 := RC_qf hR1 (hF2)
  refine AL_a1 (pc := 1047) (by decide +kernel) ?_
  refine AL_ld (pc := 1048) (k := 1) (by decide +kernel) (hb 1 (by decide) (by decide)) ?_
  refine AL_ld (pc := 1053) (k := 2) (by decide +kernel) (hb 2 (by decide) (by decide)) ?_
  refine AL_ld (pc := 1058) (k := 3) (by decide +kernel) (hb 3 (by decide) (by decide)) ?_
  refine AL_ld (pc := 1063) (k := 4) (by decide +kernel) (hb 4 (by decide) (by decide)) ?_
  refine AL_cal (pc := 1068) (j := 133) (y' := 104) (na := 5) (ea := 5) (rk := 0) (as := [.ref 0, .int (xs (p + Int32.ofInt 1).toNatClampNeg), .int (xs (p + Int32.ofInt 2).toNatClampNeg), .int (xs (p + Int32.ofInt 3).toNatClampNeg), .int (xs (p + Int32.ofInt 4).toNatClampNeg)]) (rest := []) (by decide +kernel) rfl rfl rfl rfl (Nat.le_of_ble_eq_true rfl) hC ?_
  refine AL_a2 (pc := 1071) (by decide +kernel) ?_
  refine AL_ld (pc := 1072) (k := 1) (by decide +kernel) (hb 1 (by decide) (by decide)) ?_
  refine AL_ld (pc := 1077) (k := 2) (by decide +kernel) (hb 2 (by decide) (by decide)) ?_
  refine AL_ld (pc := 1082) (k := 3) (by decide +kernel) (hb 3 (by decide) (by decide)) ?_
  refine AL_ld (pc := 1087) (k := 4) (by decide +kernel) (hb 4 (by decide) (by decide)) ?_
  refine AL_cal (pc := 1092) (j := 136) (y' := 194) (na := 5) (ea := 5) (rk := 49) (as := [.ref 49, .int (xs (p + Int32.ofInt 1).toNatClampNeg), .int (xs (p + Int32.ofInt 2).toNatClampNeg), .int (xs (p + Int32.ofInt 3).toNatClampNeg), .int (xs (p + Int32.ofInt 4).toNatClampNeg)]) (rest := [_]) (by decide +kernel) rfl rfl rfl rfl (Nat.le_of_ble_eq_true rfl) hD ?_
  exact AL_ei (pc := 1095) (o := 181) (by decide +kernel) rfl (hk _ _ _ hR2 hQ2)
theorem lc_29 (hb : ∀ k : Int, 0 ≤ k → k < 6 → 0 ≤ (p + Int32.ofInt k).toInt ∧ (p + Int32.ofInt k).toInt < L) (hk : ∀ (σ : PS) (I : ab_I) (J : ab_J), RC σ I J → RR σ I → AL xs L 1276 (lw_L p) [] (I, J, ab_RF, 75)) (hR : RC σ I J) (hQ : RR σ I) : AL xs L 1100 (lw_L p) [] (I, J, ab_RF, 75) := by
  obtain ⟨I1, J1, ⟨hR1, hF1⟩, hC⟩ := q105 (x := xs (p + Int32.ofInt 1).toNatClampNeg) (x1 := xs (p + Int32.ofInt 2).toNatClampNeg) (x2 := xs (p + Int32.ofInt 3).toNatClampNeg) hR
  have hQ1 := RR_cf hQ (fun k hk => ((hF1 : Hi I J I1 J1) k hk).1)
  obtain ⟨I2, J2, ⟨hQ2, hF2⟩, hD⟩ := r195 (x := xs (p + Int32.ofInt 1).toNatClampNeg) (x1 := xs (p + Int32.ofInt 2).toNatClampNeg) (x2 := xs (p + Int32.ofInt 3).toNatClampNeg) (J := J1) hQ1
  have hR2 := RC_qf hR1 (hF2)
  refine AL_a1 (pc := 1100) (by decide +kernel) ?_
  refine AL_ld (pc := 1101) (k := 1) (by decide +kernel) (hb 1 (by decide) (by decide)) ?_
  refine AL_ld (pc := 1106) (k := 2) (by decide +kernel) (hb 2 (by decide) (by decide)) ?_
  refine AL_ld (pc := 1111) (k := 3) (by decide +kernel) (hb 3 (by decide) (by decide)) ?_
  refine AL_cal (pc := 1116) (j := 137) (y' := 105) (na := 4) (ea := 4) (rk := 0) (as := [.ref 0, .int (xs (p + Int32.ofInt 1).toNatClampNeg), .int (xs (p + Int32.ofInt 2).toNatClampNeg), .int (xs (p + Int32.ofInt 3).toNatClampNeg)]) (rest := []) (by decide +kernel) rfl rfl rfl rfl (Nat.le_of_ble_eq_true rfl) hC ?_
  refine AL_a2 (pc := 1119) (by decide +kernel) ?_
  refine AL_ld (pc := 1120) (k := 1) (by decide +kernel) (hb 1 (by decide) (by decide)) ?_
  refine AL_ld (pc := 1125) (k := 2) (by decide +kernel) (hb 2 (by decide) (by decide)) ?_
  refine AL_ld (pc := 1130) (k := 3) (by decide +kernel) (hb 3 (by decide) (by decide)) ?_
  refine AL_cal (pc := 1135) (j := 140) (y' := 195) (na := 4) (ea := 4) (rk := 49) (as := [.ref 49, .int (xs (p + Int32.ofInt 1).toNatClampNeg), .int (xs (p + Int32.ofInt 2).toNatClampNeg), .int (xs (p + Int32.ofInt 3).toNatClampNeg)]) (rest := [_]) (by decide +kernel) rfl rfl rfl rfl (Nat.le_of_ble_eq_true rfl) hD ?_
  exact AL_ei (pc := 1138) (o := 138) (by decide +kernel) rfl (hk _ _ _ hR2 hQ2)
theorem lc_30 (hb : ∀ k : Int, 0 ≤ k → k < 6 → 0 ≤ (p + Int32.ofInt k).toInt ∧ (p + Int32.ofInt k).toInt < L) (hk : ∀ (σ : PS) (I : ab_I) (J : ab_J), RC σ I J → RR σ I → AL xs L 1276 (lw_L p) [] (I, J, ab_RF, 75)) (hR : RC σ I J) (hQ : RR σ I) : AL xs L 1143 (lw_L p) [] (I, J, ab_RF, 75) := by
  obtain ⟨I1, J1, ⟨hR1, hF1⟩, hC⟩ := q106 (x := xs (p + Int32.ofInt 1).toNatClampNeg) (x1 := xs (p + Int32.ofInt 2).toNatClampNeg) (x2 := xs (p + Int32.ofInt 3).toNatClampNeg) (x3 := xs (p + Int32.ofInt 4).toNatClampNeg) (x4 := xs (p + Int32.ofInt 5).toNatClampNeg) hR
  have hQ1 := RR_cf hQ (fun k hk => ((hF1 : Hi I J I1 J1) k hk).1)
  obtain ⟨I2, J2, ⟨hQ2, hF2⟩, hD⟩ := r196 (x := xs (p + Int32.ofInt 1).toNatClampNeg) (x1 := xs (p + Int32.ofInt 2).toNatClampNeg) (x2 := xs (p + Int32.ofInt 3).toNatClampNeg) (x3 := xs (p + Int32.ofInt 4).toNatClampNeg) (x4 := xs (p + Int32.ofInt 5).toNatClampNeg) (J := J1) hQ1
  have hR2 := RC_qf hR1 (hF2)
  refine AL_a1 (pc := 1143) (by decide +kernel) ?_
  refine AL_ld (pc := 1144) (k := 1) (by decide +kernel) (hb 1 (by decide) (by decide)) ?_
  refine AL_ld (pc := 1149) (k := 2) (by decide +kernel) (hb 2 (by decide) (by decide)) ?_
  refine AL_ld (pc := 1154) (k := 3) (by decide +kernel) (hb 3 (by decide) (by decide)) ?_
  refine AL_ld (pc := 1159) (k := 4) (by decide +kernel) (hb 4 (by decide) (by decide)) ?_
  refine AL_ld (pc := 1164) (k := 5) (by decide +kernel) (hb 5 (by decide) (by decide)) ?_
  refine AL_cal (pc := 1169) (j := 141) (y' := 106) (na := 6) (ea := 6) (rk := 0) (as := [.ref 0, .int (xs (p + Int32.ofInt 1).toNatClampNeg), .int (xs (p + Int32.ofInt 2).toNatClampNeg), .int (xs (p + Int32.ofInt 3).toNatClampNeg), .int (xs (p + Int32.ofInt 4).toNatClampNeg), .int (xs (p + Int32.ofInt 5).toNatClampNeg)]) (rest := []) (by decide +kernel) rfl rfl rfl rfl (Nat.le_of_ble_eq_true rfl) hC ?_
  refine AL_a2 (pc := 1172) (by decide +kernel) ?_
  refine AL_ld (pc := 1173) (k := 1) (by decide +kernel) (hb 1 (by decide) (by decide)) ?_
  refine AL_ld (pc := 1178) (k := 2) (by decide +kernel) (hb 2 (by decide) (by decide)) ?_
  refine AL_ld (pc := 1183) (k := 3) (by decide +kernel) (hb 3 (by decide) (by decide)) ?_
  refine AL_ld (pc := 1188) (k := 4) (by decide +kernel) (hb 4 (by decide) (by decide)) ?_
  refine AL_ld (pc := 1193) (k := 5) (by decide +kernel) (hb 5 (by decide) (by decide)) ?_
  refine AL_cal (pc := 1198) (j := 145) (y' := 196) (na := 6) (ea := 6) (rk := 49) (as := [.ref 49, .int (xs (p + Int32.ofInt 1).toNatClampNeg), .int (xs (p + Int32.ofInt 2).toNatClampNeg), .int (xs (p + Int32.ofInt 3).toNatClampNeg), .int (xs (p + Int32.ofInt 4).toNatClampNeg), .int (xs (p + Int32.ofInt 5).toNatClampNeg)]) (rest := [_]) (by decide +kernel) rfl rfl rfl rfl (Nat.le_of_ble_eq_true rfl) hD ?_
  exact AL_ei (pc := 1201) (o := 75) (by decide +kernel) rfl (hk _ _ _ hR2 hQ2)
theorem lc_31 (hb : ∀ k : Int, 0 ≤ k → k < 6 → 0 ≤ (p + Int32.ofInt k).toInt ∧ (p + Int32.ofInt k).toInt < L) (hk : ∀ (σ : PS) (I : ab_I) (J : ab_J), RC σ I J → RR σ I → AL xs L 1276 (lw_L p) [] (I, J, ab_RF, 75)) (hR : RC σ I J) (hQ : RR σ I) : AL xs L 1206 (lw_L p) [] (I, J, ab_RF, 75) := by
  obtain ⟨I1, J1, ⟨hR1, hF1⟩, hC⟩ := q107 (x := xs (p + Int32.ofInt 1).toNatClampNeg) (x1 := xs (p + Int32.ofInt 2).toNatClampNeg) hR
  have hQ1 := RR_cf hQ (fun k hk => ((hF1 : Hi I J I1 J1) k hk).1)
  obtain ⟨I2, J2, ⟨hQ2, hF2⟩, hD⟩ := r197 (x := xs (p + Int32.ofInt 1).toNatClampNeg) (x1 := xs (p + Int32.ofInt 2).toNatClampNeg) (J := J1) hQ1
  have hR2 := RC_qf hR1 (hF2)
  refine AL_a1 (pc := 1206) (by decide +kernel) ?_
  refine AL_ld (pc := 1207) (k := 1) (by decide +kernel) (hb 1 (by decide) (by decide)) ?_
  refine AL_ld (pc := 1212) (k := 2) (by decide +kernel) (hb 2 (by decide) (by decide)) ?_
  refine AL_cal (pc := 1217) (j := 146) (y' := 107) (na := 3) (ea := 3) (rk := 0) (as := [.ref 0, .int (xs (p + Int32.ofInt 1).toNatClampNeg), .int (xs (p + Int32.ofInt 2).toNatClampNeg)]) (rest := []) (by decide +kernel) rfl rfl rfl rfl (Nat.le_of_ble_eq_true rfl) hC ?_
  refine AL_a2 (pc := 1220) (by decide +kernel) ?_
  refine AL_ld (pc := 1221) (k := 1) (by decide +kernel) (hb 1 (by decide) (by decide)) ?_
  refine AL_ld (pc := 1226) (k := 2) (by decide +kernel) (hb 2 (by decide) (by decide)) ?_
  refine AL_cal (pc := 1231) (j := 149) (y' := 197) (na := 3) (ea := 3) (rk := 49) (as := [.ref 49, .int (xs (p + Int32.ofInt 1).toNatClampNeg), .int (xs (p + Int32.ofInt 2).toNatClampNeg)]) (rest := [_]) (by decide +kernel) rfl rfl rfl rfl (Nat.le_of_ble_eq_true rfl) hD ?_
  exact AL_ei (pc := 1234) (o := 42) (by decide +kernel) rfl (hk _ _ _ hR2 hQ2)
theorem lc_32 (hb : ∀ k : Int, 0 ≤ k → k < 6 → 0 ≤ (p + Int32.ofInt k).toInt ∧ (p + Int32.ofInt k).toInt < L) (hk : ∀ (σ : PS) (I : ab_I) (J : ab_J), RC σ I J → RR σ I → AL xs L 1276 (lw_L p) [] (I, J, ab_RF, 75)) (hR : RC σ I J) (hQ : RR σ I) : AL xs L 1239 (lw_L p) [] (I, J, ab_RF, 75) := by
  obtain ⟨I1, J1, ⟨hR1, hF1⟩, hC⟩ := q108 (x := xs (p + Int32.ofInt 1).toNatClampNeg) hR
  have hQ1 := RR_cf hQ (fun k hk => ((Hi_cf hF1 : Hi I J I1 J1) k hk).1)
  obtain ⟨I2, J2, ⟨hQ2, hF2⟩, hD⟩ := r200 (x := xs (p + Int32.ofInt 1).toNatClampNeg) (J := J1) hQ1
  have hR2 := RC_qf hR1 (Lo_qf hF2)
  refine AL_a1 (pc := 1239) (by decide +kernel) ?_
  refine AL_ld (pc := 1240) (k := 1) (by decide +kernel) (hb 1 (by decide) (by decide)) ?_
  refine AL_cal (pc := 1245) (j := 150) (y' := 108) (na := 2) (ea := 2) (rk := 0) (as := [.ref 0, .int (xs (p + Int32.ofInt 1).toNatClampNeg)]) (rest := []) (by decide +kernel) rfl rfl rfl rfl (Nat.le_of_ble_eq_true rfl) hC ?_
  refine AL_a2 (pc := 1248) (by decide +kernel) ?_
  refine AL_ld (pc := 1249) (k := 1) (by decide +kernel) (hb 1 (by decide) (by decide)) ?_
  refine AL_cal (pc := 1254) (j := 153) (y' := 200) (na := 2) (ea := 2) (rk := 49) (as := [.ref 49, .int (xs (p + Int32.ofInt 1).toNatClampNeg)]) (rest := [_]) (by decide +kernel) rfl rfl rfl rfl (Nat.le_of_ble_eq_true rfl) hD ?_
  exact AL_ei (pc := 1257) (o := 19) (by decide +kernel) rfl (hk _ _ _ hR2 hQ2)
theorem lc_33 (hb : ∀ k : Int, 0 ≤ k → k < 6 → 0 ≤ (p + Int32.ofInt k).toInt ∧ (p + Int32.ofInt k).toInt < L) (hk : ∀ (σ : PS) (I : ab_I) (J : ab_J), RC σ I J → RR σ I → AL xs L 1276 (lw_L p) [] (I, J, ab_RF, 75)) (hR : RC σ I J) (hQ : RR σ I) : AL xs L 1262 (lw_L p) [] (I, J, ab_RF, 75) := by
  obtain ⟨I1, J1, ⟨hR1, hF1⟩, hC⟩ := q109  hR
  have hQ1 := RR_cf hQ (fun k hk => ((Hi_cf hF1 : Hi I J I1 J1) k hk).1)
  obtain ⟨I2, J2, ⟨hQ2, hF2⟩, hD⟩ := r201  (J := J1) hQ1
  have hR2 := RC_qf hR1 (Lo_qf hF2)
  refine AL_a1 (pc := 1262) (by decide +kernel) ?_
  refine AL_cal (pc := 1263) (j := 154) (y' := 109) (na := 1) (ea := 1) (rk := 0) (as := [.ref 0]) (rest := []) (by decide +kernel) rfl rfl rfl rfl (Nat.le_of_ble_eq_true rfl) hC ?_
  refine AL_a2 (pc := 1266) (by decide +kernel) ?_
  refine AL_cal (pc := 1267) (j := 158) (y' := 201) (na := 1) (ea := 1) (rk := 49) (as := [.ref 49]) (rest := [_]) (by decide +kernel) rfl rfl rfl rfl (Nat.le_of_ble_eq_true rfl) hD ?_
  exact AL_ej (pc := 1270) (o := 5) (by decide +kernel) rfl (hk _ _ _ hR2 hQ2)
end LC
