/-! THE LAW -/
def sg0 : PS := ((0, fun _ => 0, fun _ => 0, fun _ => 0, nI 999), fun _ => nI 1, (0, fun _ => 0), (fun _ => -1, fun _ => 0, fun _ => 0), 0)
theorem zf_1 : (zz4.1 1 3 = nI 0 ∧ zz4.1 1 4 = nI 0 ∧ zz4.1 1 5 = nI 999) ∧ (∀ m, m < 4 → zz4.1 48 m = nI 1) ∧ (zz4.1 39 3 = nI 0 ∧ zz4.1 39 4 = nI (prs 0 (fun _ => 0)).1 ∧ (prs 0 (fun _ => 0)).1 = 0 ∧ zz4.1 39 6 = (prs 0 (fun _ => 0)).2.2.2) ∧ (∀ s, s < 4 → zz4.1 45 s = -1 ∧ zz4.1 46 s = nI 0) ∧ zz4.1 0 11 = 0 ∧ zz4.1 0 10 = nI 1 := by decide +kernel
theorem zf_2 : (zz4.1 49 0 = nI 0 ∧ zz4.1 49 5 = nI 999) ∧ (∀ m, m < 4 → zz4.1 54 m = nI 1) ∧ zz4.1 49 18 = nI 0 ∧ (∀ s, s < 4 → zz4.1 70 s = nI 0) ∧ zz4.1 49 40 = 0 := by decide +kernel
theorem zf_3 : ∀ k, k < 192 → zz4.1 44 k = 0 ∧ zz4.1 73 k = 0 := by decide +kernel
theorem sg0_T : TOK sg0.1 := ⟨Nat.zero_le _, fun i hi => absurd hi (Nat.not_lt_zero i)⟩
theorem RC_0 : RC sg0 zz4.1 zz4.2.1 := by
  obtain ⟨⟨a1, a2, a3⟩, b, ⟨c1, c2, c3, c4⟩, d, e, f⟩ := zf_1
  refine ⟨⟨sg0_T, ⟨a1, fun i hi => absurd hi (Nat.not_lt_zero i), a2, a3⟩, b, ⟨Nat.zero_le _, fun i hi => absurd hi (Nat.not_lt_zero i), c1, fun i hi => absurd hi (Nat.not_lt_zero i), ?_⟩, ⟨fun s hs => ⟨Nat.zero_le _, (d s hs).1, (d s hs).2⟩, fun k hk => (zf_3 k hk).1⟩, e⟩, ?_, Or.inl f⟩
  · refine ⟨?_, c2, ?_, c4⟩
    · show (prs 0 (fun _ => 0)).1 ≤ 6
      rw [c3]; decide
    · show LTR _ _ (prs 0 (fun _ => 0)).1 _ _
      rw [c3]
      exact fun i hi => absurd hi (Nat.not_lt_zero i)
  · exact fun k hk => ⟨zz4_sup 6 (by decide) k hk, zz4_sup 47 (by decide) k hk, zz4_sup 18 (by decide) k hk⟩
theorem RR_0 : RR sg0 zz4.1 := by
  obtain ⟨⟨a1, a2⟩, b, c, d, e⟩ := zf_2
  refine ⟨⟨sg0_T, ⟨a1, fun i hi => absurd hi (Nat.not_lt_zero i), a2⟩, b, ⟨Nat.zero_le _, fun i hi => absurd hi (Nat.not_lt_zero i), c, fun i hi => absurd hi (Nat.not_lt_zero i)⟩, ⟨fun s hs => ⟨Nat.zero_le _, ?_, fun h => absurd rfl h⟩, fun k hk => (zf_3 k hk).2⟩, e⟩, fun k hk => ⟨zz4_sup 55 (by decide) k hk, zz4_sup 56 (by decide) k hk⟩⟩
  exact d s hs
theorem zz1_n : zz1.2.2.2 = 1 := by decide +kernel
theorem ab_law : ab_Law := by
  intro L xs hL
  show AL xs L 0 _ [] ab_s0
  refine AL_ex (i := .new 7) (pc' := 3) (ls' := [some (.ref 999), none, none, none]) (st' := [.ref 0]) (z' := zz1) (by decide +kernel) rfl rfl rfl ?_ (by rw [zz1_n]; decide) ?_
  · show (match ab_nw 11 (.new 7) [some (.ref 999), none, none, none] [] ab_s0 with
      | some (st', s') => some (0 + ab_sz (.new 7), [some (Value.ref 999), none, none, none], st', s')
      | none => none) = _
    rw [zz_1]
    rfl
  refine AL_ex (i := .dup) (pc' := 4) (ls' := [some (.ref 999), none, none, none]) (st' := [.ref 0, .ref 0]) (z' := zz1) (by decide +kernel) rfl rfl rfl rfl (by rw [zz1_n]; decide) ?_
  refine AL_cl (i := .invokespecial 9) (y' := 75) (as := [.ref 0]) (rest := [.ref 0]) (r := (none, zz2)) (by decide +kernel) rfl rfl (by rw [zz1_n]; decide +kernel) zz_2.1 ⟨?_, ?_⟩ ?_
  · show ab_cb 75 _ _ _ zz2 = true
    unfold ab_cb
    rw [zz1_n, if_pos (by decide +kernel)]
    decide
  · show zz2.2.2.2 ≤ 75
    rw [zz_2.2]; decide
  refine AL_ex (i := .astore_n 1) (pc' := 8) (ls' := [some (.ref 999), some (.ref 0), none, none]) (st' := []) (z' := zz2) (by decide +kernel) rfl rfl rfl rfl (by rw [zz_2.2]; decide) ?_
  refine AL_ex (i := .new 10) (pc' := 11) (ls' := [some (.ref 999), some (.ref 0), none, none]) (st' := [.ref 49]) (z' := zz3) (by decide +kernel) rfl rfl rfl ?_ (by rw [zz_3.2]; decide) ?_
  · show (match ab_nw 11 (.new 10) [some (.ref 999), some (.ref 0), none, none] [] zz2 with
      | some (st', s') => some (8 + ab_sz (.new 10), [some (Value.ref 999), some (.ref 0), none, none], st', s')
      | none => none) = _
    rw [zz_3.1]
    rfl
  refine AL_ex (i := .dup) (pc' := 12) (ls' := [some (.ref 999), some (.ref 0), none, none]) (st' := [.ref 49, .ref 49]) (z' := zz3) (by decide +kernel) rfl rfl rfl rfl (by rw [zz_3.2]; decide) ?_
  refine AL_cl (i := .invokespecial 12) (y' := 125) (as := [.ref 49]) (rest := [.ref 49]) (r := (none, zz4)) (by decide +kernel) rfl rfl (by rw [zz_3.2]; decide +kernel) zz_4.1 ⟨?_, ?_⟩ ?_
  · show ab_cb 125 _ _ _ zz4 = true
    unfold ab_cb
    rw [zz_3.2, if_pos (by decide +kernel)]
    decide
  · show zz4.2.2.2 ≤ 75
    rw [zz_4.2]; decide
  have e4 : zz4 = (zz4.1, zz4.2.1, ab_RF, 75) := by rw [← zz_4.2]
  show AL xs L 15 [some (.ref 999), some (.ref 0), none, none] [.ref 49] zz4
  rw [e4]
  refine AL_ex (i := .astore_n 2) (pc' := 16) (ls' := [some (.ref 999), some (.ref 0), some (.ref 49), none]) (st' := []) (z' := (zz4.1, zz4.2.1, ab_RF, 75)) (by decide +kernel) rfl rfl rfl rfl (Nat.le_refl _) ?_
  refine AL_ex (i := .iconst 0) (pc' := 17) (ls' := [some (.ref 999), some (.ref 0), some (.ref 49), none]) (st' := [.int (nI 0)]) (z' := (zz4.1, zz4.2.1, ab_RF, 75)) (by decide +kernel) rfl rfl rfl rfl (Nat.le_refl _) ?_
  refine AL_ex (i := .istore_n 3) (pc' := 18) (ls' := lw_L (nI 0)) (st' := []) (z' := (zz4.1, zz4.2.1, ab_RF, 75)) (by decide +kernel) rfl rfl rfl rfl (Nat.le_refl _) ?_
  exact lw_loop hL (L + 6) 0 sg0 _ _ (by omega) (by omega) RC_0 RR_0
