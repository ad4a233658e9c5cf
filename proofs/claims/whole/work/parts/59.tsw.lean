/-! the switches of count -/
theorem sw_in {d lo hi o : Int} {offs : Array Int} {x : Int32} {st : List Value} (h : ¬ (x.toInt < lo ∨ hi < x.toInt)) (ho : offs[(x.toInt - lo).toNat]? = some o) : ab_br (.tableswitch d lo hi offs) (.int x :: st) = some (true, o, st) := by
  show (if x.toInt < lo ∨ hi < x.toInt then some (true, d, st) else (offs[(x.toInt - lo).toNat]?).map (fun o => (true, o, st))) = _
  rw [if_neg h, ho]
  rfl
theorem sw_out {d lo hi : Int} {offs : Array Int} {x : Int32} {st : List Value} (h : x.toInt < lo ∨ hi < x.toInt) : ab_br (.tableswitch d lo hi offs) (.int x :: st) = some (true, d, st) := by
  show (if x.toInt < lo ∨ hi < x.toInt then some (true, d, st) else (offs[(x.toInt - lo).toNat]?).map (fun o => (true, o, st))) = _
  rw [if_pos h]
section TSW
variable {ls : ab_L} {st : List Value} {I : ab_I} {J : ab_J} {Q : Option Value → ab_I → ab_J → Prop} {x : Int32}
theorem A_sw {y pc : Nat} {d lo hi o : Int} {offs : Array Int} {t : Nat} (hi' : ab_ins y pc = some (.tableswitch d lo hi offs)) (hb : ab_br (.tableswitch d lo hi offs) (.int x :: st) = some (true, o, st)) (ht : 0 ≤ (pc : Int) + o ∧ ab_tg pc o = t) : At y pc ls (.int x :: st) I J Q ↔ At y t ls st I J Q := by
  rw [← ht.2]
  exact At_gt hi' rfl rfl rfl rfl hb ht.1
theorem k200_5_0 : At 200 5 ls (.int (nI 0) :: st) I J Q ↔ At 200 56 ls st I J Q := A_sw (d := 87) (lo := 0) (hi := 8) (offs := #[51, 57, 62, 67, 72, 77, 51, 51, 82]) (o := 51) (ab_io ci200 (by decide +kernel)) (sw_in (by decide) (by decide)) (by decide)
theorem k200_5_1 : At 200 5 ls (.int (nI 1) :: st) I J Q ↔ At 200 62 ls st I J Q := A_sw (d := 87) (lo := 0) (hi := 8) (offs := #[51, 57, 62, 67, 72, 77, 51, 51, 82]) (o := 57) (ab_io ci200 (by decide +kernel)) (sw_in (by decide) (by decide)) (by decide)
theorem k200_5_2 : At 200 5 ls (.int (nI 2) :: st) I J Q ↔ At 200 67 ls st I J Q := A_sw (d := 87) (lo := 0) (hi := 8) (offs := #[51, 57, 62, 67, 72, 77, 51, 51, 82]) (o := 62) (ab_io ci200 (by decide +kernel)) (sw_in (by decide) (by decide)) (by decide)
theorem k200_5_3 : At 200 5 ls (.int (nI 3) :: st) I J Q ↔ At 200 72 ls st I J Q := A_sw (d := 87) (lo := 0) (hi := 8) (offs := #[51, 57, 62, 67, 72, 77, 51, 51, 82]) (o := 67) (ab_io ci200 (by decide +kernel)) (sw_in (by decide) (by decide)) (by decide)
theorem k200_5_4 : At 200 5 ls (.int (nI 4) :: st) I J Q ↔ At 200 77 ls st I J Q := A_sw (d := 87) (lo := 0) (hi := 8) (offs := #[51, 57, 62, 67, 72, 77, 51, 51, 82]) (o := 72) (ab_io ci200 (by decide +kernel)) (sw_in (by decide) (by decide)) (by decide)
theorem k200_5_5 : At 200 5 ls (.int (nI 5) :: st) I J Q ↔ At 200 82 ls st I J Q := A_sw (d := 87) (lo := 0) (hi := 8) (offs := #[51, 57, 62, 67, 72, 77, 51, 51, 82]) (o := 77) (ab_io ci200 (by decide +kernel)) (sw_in (by decide) (by decide)) (by decide)
theorem k200_5_6 : At 200 5 ls (.int (nI 6) :: st) I J Q ↔ At 200 56 ls st I J Q := A_sw (d := 87) (lo := 0) (hi := 8) (offs := #[51, 57, 62, 67, 72, 77, 51, 51, 82]) (o := 51) (ab_io ci200 (by decide +kernel)) (sw_in (by decide) (by decide)) (by decide)
theorem k200_5_7 : At 200 5 ls (.int (nI 7) :: st) I J Q ↔ At 200 56 ls st I J Q := A_sw (d := 87) (lo := 0) (hi := 8) (offs := #[51, 57, 62, 67, 72, 77, 51, 51, 82]) (o := 51) (ab_io ci200 (by decide +kernel)) (sw_in (by decide) (by decide)) (by decide)
theorem k200_5_8 : At 200 5 ls (.int (nI 8) :: st) I J Q ↔ At 200 87 ls st I J Q := A_sw (d := 87) (lo := 0) (hi := 8) (offs := #[51, 57, 62, 67, 72, 77, 51, 51, 82]) (o := 82) (ab_io ci200 (by decide +kernel)) (sw_in (by decide) (by decide)) (by decide)
theorem k200_5_d (h : inr x 9 = false) : At 200 5 ls (.int x :: st) I J Q ↔ At 200 92 ls st I J Q := A_sw (d := 87) (lo := 0) (hi := 8) (offs := #[51, 57, 62, 67, 72, 77, 51, 51, 82]) (o := 87) (ab_io ci200 (by decide +kernel)) (sw_out (by rw [inr_f] at h; omega)) (by decide)
theorem k108_5_0 : At 108 5 ls (.int (nI 0) :: st) I J Q ↔ At 108 56 ls st I J Q := A_sw (d := 120) (lo := 0) (hi := 8) (offs := #[51, 59, 67, 75, 83, 91, 99, 107, 115]) (o := 51) (ab_io ci108 (by decide +kernel)) (sw_in (by decide) (by decide)) (by decide)
theorem k108_5_1 : At 108 5 ls (.int (nI 1) :: st) I J Q ↔ At 108 64 ls st I J Q := A_sw (d := 120) (lo := 0) (hi := 8) (offs := #[51, 59, 67, 75, 83, 91, 99, 107, 115]) (o := 59) (ab_io ci108 (by decide +kernel)) (sw_in (by decide) (by decide)) (by decide)
theorem k108_5_2 : At 108 5 ls (.int (nI 2) :: st) I J Q ↔ At 108 72 ls st I J Q := A_sw (d := 120) (lo := 0) (hi := 8) (offs := #[51, 59, 67, 75, 83, 91, 99, 107, 115]) (o := 67) (ab_io ci108 (by decide +kernel)) (sw_in (by decide) (by decide)) (by decide)
theorem k108_5_3 : At 108 5 ls (.int (nI 3) :: st) I J Q ↔ At 108 80 ls st I J Q := A_sw (d := 120) (lo := 0) (hi := 8) (offs := #[51, 59, 67, 75, 83, 91, 99, 107, 115]) (o := 75) (ab_io ci108 (by decide +kernel)) (sw_in (by decide) (by decide)) (by decide)
theorem k108_5_4 : At 108 5 ls (.int (nI 4) :: st) I J Q ↔ At 108 88 ls st I J Q := A_sw (d := 120) (lo := 0) (hi := 8) (offs := #[51, 59, 67, 75, 83, 91, 99, 107, 115]) (o := 83) (ab_io ci108 (by decide +kernel)) (sw_in (by decide) (by decide)) (by decide)
theorem k108_5_5 : At 108 5 ls (.int (nI 5) :: st) I J Q ↔ At 108 96 ls st I J Q := A_sw (d := 120) (lo := 0) (hi := 8) (offs := #[51, 59, 67, 75, 83, 91, 99, 107, 115]) (o := 91) (ab_io ci108 (by decide +kernel)) (sw_in (by decide) (by decide)) (by decide)
theorem k108_5_6 : At 108 5 ls (.int (nI 6) :: st) I J Q ↔ At 108 104 ls st I J Q := A_sw (d := 120) (lo := 0) (hi := 8) (offs := #[51, 59, 67, 75, 83, 91, 99, 107, 115]) (o := 99) (ab_io ci108 (by decide +kernel)) (sw_in (by decide) (by decide)) (by decide)
theorem k108_5_7 : At 108 5 ls (.int (nI 7) :: st) I J Q ↔ At 108 112 ls st I J Q := A_sw (d := 120) (lo := 0) (hi := 8) (offs := #[51, 59, 67, 75, 83, 91, 99, 107, 115]) (o := 107) (ab_io ci108 (by decide +kernel)) (sw_in (by decide) (by decide)) (by decide)
theorem k108_5_8 : At 108 5 ls (.int (nI 8) :: st) I J Q ↔ At 108 120 ls st I J Q := A_sw (d := 120) (lo := 0) (hi := 8) (offs := #[51, 59, 67, 75, 83, 91, 99, 107, 115]) (o := 115) (ab_io ci108 (by decide +kernel)) (sw_in (by decide) (by decide)) (by decide)
theorem k108_5_d (h : inr x 9 = false) : At 108 5 ls (.int x :: st) I J Q ↔ At 108 125 ls st I J Q := A_sw (d := 120) (lo := 0) (hi := 8) (offs := #[51, 59, 67, 75, 83, 91, 99, 107, 115]) (o := 120) (ab_io ci108 (by decide +kernel)) (sw_out (by rw [inr_f] at h; omega)) (by decide)
end TSW
