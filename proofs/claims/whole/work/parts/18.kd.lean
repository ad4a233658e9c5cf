section KROWS
variable {ls : ab_L} {st : List Value} {I : ab_I} {J : ab_J} {Q : Option Value → ab_I → ab_J → Prop} {x x1 x2 : Int32} {u u1 : Int64} {r r1 : Nat}
variable {a0 a1 a2 a3 a4 a5 a6 a7 a8 a9 a10 a11 a12 a13 a14 a15 a16 a17 a18 a19 : Option Value}
variable {p0 q0 p1 q1 p2 q2 p3 q3 p4 q4 p5 q5 : Int32} {pu0 qu0 pu1 qu1 pu2 qu2 pu3 qu3 pu4 qu4 pu5 qu5 : Int64} {pr0 qr0 pr1 qr1 pr2 qr2 pr3 qr3 pr4 qr4 pr5 qr5 : Nat}
theorem k126_0 : At 126 0 [some (.int x), a1, a2] st I J Q ↔ At 126 1 [some (.int x), a1, a2] (.int x :: st) I J Q := A_iload_n (q := 0) (ab_io ci126 (by decide +kernel)) rfl
theorem k126_1 : At 126 1 [a0, some (.int x), a2] st I J Q ↔ At 126 2 [a0, some (.int x), a2] (.int x :: st) I J Q := A_iload_n (q := 1) (ab_io ci126 (by decide +kernel)) rfl
theorem k126_2 : At 126 2 ls (.int x1 :: .int x :: st) I J Q ↔ if x < x1 then At 126 14 ls st I J Q else At 126 5 ls st I J Q := A_if_icmp_lt (o := 12) (ab_io ci126 (by decide +kernel)) (by decide)
theorem k126_5 : At 126 5 [some (.int x), a1, a2] st I J Q ↔ At 126 6 [some (.int x), a1, a2] (.int x :: st) I J Q := A_iload_n (q := 0) (ab_io ci126 (by decide +kernel)) rfl
theorem k126_6 : At 126 6 [a0, a1, some (.int x)] st I J Q ↔ At 126 7 [a0, a1, some (.int x)] (.int x :: st) I J Q := A_iload_n (q := 2) (ab_io ci126 (by decide +kernel)) rfl
theorem k126_7 : At 126 7 ls (.int x1 :: .int x :: st) I J Q ↔ if x1 < x then At 126 14 ls st I J Q else At 126 10 ls st I J Q := A_if_icmp_gt (o := 7) (ab_io ci126 (by decide +kernel)) (by decide)
theorem k126_10 : At 126 10 ls st I J Q ↔ At 126 11 ls (.int (nI 1) :: st) I J Q := A_iconst (ab_io ci126 (by decide +kernel)) ic_1
theorem k126_11 : At 126 11 ls st I J Q ↔ At 126 15 ls st I J Q := A_goto (o := 4) (ab_io ci126 (by decide +kernel)) (by decide)
theorem k126_14 : At 126 14 ls st I J Q ↔ At 126 15 ls (.int (nI 0) :: st) I J Q := A_iconst (ab_io ci126 (by decide +kernel)) ic_0
theorem k126_15 : At 126 15 ls [.int x] I J Q ↔ (x = 0 ∨ x = 1) ∧ Q (some (.int x)) I J := A_zret (ab_io ci126 (by decide +kernel)) rt126
theorem k127_0 : At 127 0 ls st I J Q ↔ At 127 3 ls (.long (-9223372036854775808) :: st) I J Q := A_ldc2_w (j := 91) (q := 1020) (ab_io ci127 (by decide +kernel)) ow127 (by decide +kernel)
theorem k127_3 : At 127 3 [some (.int x)] st I J Q ↔ At 127 4 [some (.int x)] (.int x :: st) I J Q := A_iload_n (q := 0) (ab_io ci127 (by decide +kernel)) rfl
theorem k127_4 : At 127 4 ls (.int x :: st) I J Q ↔ At 127 5 ls (.long x.toInt64 :: st) I J Q := A_i2l (ab_io ci127 (by decide +kernel))
theorem k127_5 : At 127 5 ls (.long u1 :: .long u :: st) I J Q ↔ At 127 6 ls (.long (u - u1) :: st) I J Q := A_lsub (ab_io ci127 (by decide +kernel))
theorem k127_6 : At 127 6 ls [.long u] I J Q ↔ Q (some (.long u)) I J := A_lret (ab_io ci127 (by decide +kernel)) rt127
theorem k128_0 : At 128 0 [some (.long u), a1] st I J Q ↔ At 128 1 [some (.long u), a1] (.long u :: st) I J Q := A_lload_n (q := 0) (ab_io ci128 (by decide +kernel)) rfl
theorem k128_1 : At 128 1 ls st I J Q ↔ At 128 2 ls (.long 0 :: st) I J Q := A_lconst (n := 0) (ab_io ci128 (by decide +kernel)) rfl
theorem k128_2 : At 128 2 ls (.long u1 :: .long u :: st) I J Q ↔ At 128 3 ls (.int (lg_cmp u u1) :: st) I J Q := A_lcmp (ab_io ci128 (by decide +kernel))
theorem k128_3 : At 128 3 ls (.int x :: st) I J Q ↔ if 0 ≤ x then At 128 11 ls st I J Q else At 128 6 ls st I J Q := A_ifCond_ge (o := 8) (ab_io ci128 (by decide +kernel)) (by decide)
theorem k128_6 : At 128 6 [some (.long u), a1] st I J Q ↔ At 128 7 [some (.long u), a1] (.long u :: st) I J Q := A_lload_n (q := 0) (ab_io ci128 (by decide +kernel)) rfl
theorem k128_7 : At 128 7 ls (.long u :: st) I J Q ↔ At 128 8 ls (.long (-u) :: st) I J Q := A_lneg (ab_io ci128 (by decide +kernel))
theorem k128_8 : At 128 8 ls st I J Q ↔ At 128 12 ls st I J Q := A_goto (o := 4) (ab_io ci128 (by decide +kernel)) (by decide)
theorem k128_11 : At 128 11 [some (.long u), a1] st I J Q ↔ At 128 12 [some (.long u), a1] (.long u :: st) I J Q := A_lload_n (q := 0) (ab_io ci128 (by decide +kernel)) rfl
theorem k128_12 : At 128 12 ls [.long u] I J Q ↔ Q (some (.long u)) I J := A_lret (ab_io ci128 (by decide +kernel)) rt128
theorem k129_0 : At 129 0 [some (.long u), a1, a2, a3, a4, a5, a6, a7, a8, a9] st I J Q ↔ At 129 1 [some (.long u), a1, a2, a3, a4, a5, a6, a7, a8, a9] (.long u :: st) I J Q := A_lload_n (q := 0) (ab_io ci129 (by decide +kernel)) rfl
theorem k129_1 : At 129 1 ls [.long pu0] I J Q ↔ Cal 128 [.long pu0] I J (fun v I' J' => At 129 4 ls (v.toList ++ []) I' J' Q) := A_cal (kd := 1) (j := 93) (na := 1) (ea := 2) (rk := 0) (by decide +kernel) rfl rfl rfl (Or.inl rfl) (Nat.le_of_ble_eq_true rfl)
theorem k129_4 : At 129 4 [a0, a1, a2, a3, a4, a5, a6, a7, a8, a9] (.long u :: st) I J Q ↔ At 129 6 [a0, a1, a2, ab_nv a3, some (.long u), none, a6, a7, a8, a9] st I J Q := A_lstore (q := 4) (ab_io ci129 (by decide +kernel)) (Nat.le_of_ble_eq_true rfl) rfl
theorem k129_6 : At 129 6 [a0, a1, some (.long u), a3, a4, a5, a6, a7, a8, a9] st I J Q ↔ At 129 7 [a0, a1, some (.long u), a3, a4, a5, a6, a7, a8, a9] (.long u :: st) I J Q := A_lload_n (q := 2) (ab_io ci129 (by decide +kernel)) rfl
theorem k129_7 : At 129 7 ls [.long pu0] I J Q ↔ Cal 128 [.long pu0] I J (fun v I' J' => At 129 10 ls (v.toList ++ []) I' J' Q) := A_cal (kd := 1) (j := 93) (na := 1) (ea := 2) (rk := 0) (by decide +kernel) rfl rfl rfl (Or.inl rfl) (Nat.le_of_ble_eq_true rfl)
theorem k129_10 : At 129 10 [a0, a1, a2, a3, a4, a5, a6, a7, a8, a9] (.long u :: st) I J Q ↔ At 129 12 [a0, a1, a2, a3, a4, ab_nv a5, some (.long u), none, a8, a9] st I J Q := A_lstore (q := 6) (ab_io ci129 (by decide +kernel)) (Nat.le_of_ble_eq_true rfl) rfl
theorem k129_12 : At 129 12 [a0, a1, a2, a3, a4, a5, some (.long u), a7, a8, a9] st I J Q ↔ At 129 14 [a0, a1, a2, a3, a4, a5, some (.long u), a7, a8, a9] (.long u :: st) I J Q := A_lload (q := 6) (ab_io ci129 (by decide +kernel)) rfl
theorem k129_14 : At 129 14 ls st I J Q ↔ At 129 15 ls (.long 0 :: st) I J Q := A_lconst (n := 0) (ab_io ci129 (by decide +kernel)) rfl
theorem k129_15 : At 129 15 ls (.long u1 :: .long u :: st) I J Q ↔ At 129 16 ls (.int (lg_cmp u u1) :: st) I J Q := A_lcmp (ab_io ci129 (by decide +kernel))
theorem k129_16 : At 129 16 ls (.int x :: st) I J Q ↔ if x = 0 then At 129 37 ls st I J Q else At 129 19 ls st I J Q := A_ifCond_eq (o := 21) (ab_io ci129 (by decide +kernel)) (by decide)
theorem k129_19 : At 129 19 [a0, a1, a2, a3, some (.long u), a5, a6, a7, a8, a9] st I J Q ↔ At 129 21 [a0, a1, a2, a3, some (.long u), a5, a6, a7, a8, a9] (.long u :: st) I J Q := A_lload (q := 4) (ab_io ci129 (by decide +kernel)) rfl
theorem k129_21 : At 129 21 [a0, a1, a2, a3, a4, a5, some (.long u), a7, a8, a9] st I J Q ↔ At 129 23 [a0, a1, a2, a3, a4, a5, some (.long u), a7, a8, a9] (.long u :: st) I J Q := A_lload (q := 6) (ab_io ci129 (by decide +kernel)) rfl
theorem k129_23 : At 129 23 ls (.long u1 :: .long u :: st) I J Q ↔ ¬ u1 = 0 ∧ At 129 24 ls (.long (u - u / u1 * u1) :: st) I J Q := A_lrem (ab_io ci129 (by decide +kernel))
theorem k129_24 : At 129 24 [a0, a1, a2, a3, a4, a5, a6, a7, a8, a9] (.long u :: st) I J Q ↔ At 129 26 [a0, a1, a2, a3, a4, a5, a6, ab_nv a7, some (.long u), none] st I J Q := A_lstore (q := 8) (ab_io ci129 (by decide +kernel)) (Nat.le_of_ble_eq_true rfl) rfl
theorem k129_26 : At 129 26 [a0, a1, a2, a3, a4, a5, some (.long u), a7, a8, a9] st I J Q ↔ At 129 28 [a0, a1, a2, a3, a4, a5, some (.long u), a7, a8, a9] (.long u :: st) I J Q := A_lload (q := 6) (ab_io ci129 (by decide +kernel)) rfl
theorem k129_28 : At 129 28 [a0, a1, a2, a3, a4, a5, a6, a7, a8, a9] (.long u :: st) I J Q ↔ At 129 30 [a0, a1, a2, ab_nv a3, some (.long u), none, a6, a7, a8, a9] st I J Q := A_lstore (q := 4) (ab_io ci129 (by decide +kernel)) (Nat.le_of_ble_eq_true rfl) rfl
theorem k129_30 : At 129 30 [a0, a1, a2, a3, a4, a5, a6, a7, some (.long u), a9] st I J Q ↔ At 129 32 [a0, a1, a2, a3, a4, a5, a6, a7, some (.long u), a9] (.long u :: st) I J Q := A_lload (q := 8) (ab_io ci129 (by decide +kernel)) rfl
theorem k129_32 : At 129 32 [a0, a1, a2, a3, a4, a5, a6, a7, a8, a9] (.long u :: st) I J Q ↔ At 129 34 [a0, a1, a2, a3, a4, ab_nv a5, some (.long u), none, a8, a9] st I J Q := A_lstore (q := 6) (ab_io ci129 (by decide +kernel)) (Nat.le_of_ble_eq_true rfl) rfl
theorem k129_34 : At 129 34 ls st I J Q ↔ At 129 12 ls st I J Q := A_goto (o := (-22)) (ab_io ci129 (by decide +kernel)) (by decide)
theorem k129_37 : At 129 37 [a0, a1, a2, a3, some (.long u), a5, a6, a7, a8, a9] st I J Q ↔ At 129 39 [a0, a1, a2, a3, some (.long u), a5, a6, a7, a8, a9] (.long u :: st) I J Q := A_lload (q := 4) (ab_io ci129 (by decide +kernel)) rfl
theorem k129_39 : At 129 39 ls [.long u] I J Q ↔ Q (some (.long u)) I J := A_lret (ab_io ci129 (by decide +kernel)) rt129
theorem k130_0 : At 130 0 [some (.long u), a1, a2, a3, a4, a5, a6] st I J Q ↔ At 130 1 [some (.long u), a1, a2, a3, a4, a5, a6] (.long u :: st) I J Q := A_lload_n (q := 0) (ab_io ci130 (by decide +kernel)) rfl
theorem k130_1 : At 130 1 [a0, a1, some (.long u), a3, a4, a5, a6] st I J Q ↔ At 130 2 [a0, a1, some (.long u), a3, a4, a5, a6] (.long u :: st) I J Q := A_lload_n (q := 2) (ab_io ci130 (by decide +kernel)) rfl
theorem k130_2 : At 130 2 ls [.long pu0, .long pu1] I J Q ↔ Cal 129 [.long pu1, .long pu0] I J (fun v I' J' => At 130 5 ls (v.toList ++ []) I' J' Q) := A_cal (kd := 1) (j := 97) (na := 2) (ea := 4) (rk := 0) (by decide +kernel) rfl rfl rfl (Or.inl rfl) (Nat.le_of_ble_eq_true rfl)
theorem k130_5 : At 130 5 [a0, a1, a2, a3, a4, a5, a6] (.long u :: st) I J Q ↔ At 130 7 [a0, a1, a2, a3, ab_nv a4, some (.long u), none] st I J Q := A_lstore (q := 5) (ab_io ci130 (by decide +kernel)) (Nat.le_of_ble_eq_true rfl) rfl
theorem k130_7 : At 130 7 [a0, a1, a2, a3, some (.int x), a5, a6] st I J Q ↔ At 130 9 [a0, a1, a2, a3, some (.int x), a5, a6] (.int x :: st) I J Q := A_iload (q := 4) (ab_io ci130 (by decide +kernel)) rfl
theorem k130_9 : At 130 9 ls (.int x :: st) I J Q ↔ if ¬ x = 0 then At 130 19 ls st I J Q else At 130 12 ls st I J Q := A_ifCond_ne (o := 10) (ab_io ci130 (by decide +kernel)) (by decide)
theorem k130_12 : At 130 12 [some (.long u), a1, a2, a3, a4, a5, a6] st I J Q ↔ At 130 13 [some (.long u), a1, a2, a3, a4, a5, a6] (.long u :: st) I J Q := A_lload_n (q := 0) (ab_io ci130 (by decide +kernel)) rfl
theorem k130_13 : At 130 13 [a0, a1, a2, a3, a4, some (.long u), a6] st I J Q ↔ At 130 15 [a0, a1, a2, a3, a4, some (.long u), a6] (.long u :: st) I J Q := A_lload (q := 5) (ab_io ci130 (by decide +kernel)) rfl
theorem k130_15 : At 130 15 ls (.long u1 :: .long u :: st) I J Q ↔ ¬ u1 = 0 ∧ At 130 16 ls (.long (u / u1) :: st) I J Q := A_ldiv (ab_io ci130 (by decide +kernel))
theorem k130_16 : At 130 16 ls st I J Q ↔ At 130 23 ls st I J Q := A_goto (o := 7) (ab_io ci130 (by decide +kernel)) (by decide)
theorem k130_19 : At 130 19 [a0, a1, some (.long u), a3, a4, a5, a6] st I J Q ↔ At 130 20 [a0, a1, some (.long u), a3, a4, a5, a6] (.long u :: st) I J Q := A_lload_n (q := 2) (ab_io ci130 (by decide +kernel)) rfl
theorem k130_20 : At 130 20 [a0, a1, a2, a3, a4, some (.long u), a6] st I J Q ↔ At 130 22 [a0, a1, a2, a3, a4, some (.long u), a6] (.long u :: st) I J Q := A_lload (q := 5) (ab_io ci130 (by decide +kernel)) rfl
theorem k130_22 : At 130 22 ls (.long u1 :: .long u :: st) I J Q ↔ ¬ u1 = 0 ∧ At 130 23 ls (.long (u / u1) :: st) I J Q := A_ldiv (ab_io ci130 (by decide +kernel))
theorem k130_23 : At 130 23 ls [.long u] I J Q ↔ Q (some (.long u)) I J := A_lret (ab_io ci130 (by decide +kernel)) rt130
theorem k131_0 : At 131 0 [some (.int x)] st I J Q ↔ At 131 1 [some (.int x)] (.int x :: st) I J Q := A_iload_n (q := 0) (ab_io ci131 (by decide +kernel)) rfl
theorem k131_1 : At 131 1 ls st I J Q ↔ At 131 2 ls (.int (nI 0) :: st) I J Q := A_iconst (ab_io ci131 (by decide +kernel)) ic_0
theorem k131_2 : At 131 2 ls st I J Q ↔ At 131 4 ls (.int (nI 11) :: st) I J Q := A_bipush (ab_io ci131 (by decide +kernel)) bc_11
theorem k131_4 : At 131 4 ls [.int p0, .int p1, .int p2] I J Q ↔ Cal 126 [.int p2, .int p1, .int p0] I J (fun v I' J' => At 131 7 ls (v.toList ++ []) I' J' Q) := A_cal (kd := 1) (j := 101) (na := 3) (ea := 3) (rk := 0) (by decide +kernel) rfl rfl rfl (Or.inl rfl) (Nat.le_of_ble_eq_true rfl)
theorem k131_7 : At 131 7 ls [.int x] I J Q ↔ (x = 0 ∨ x = 1) ∧ Q (some (.int x)) I J := A_zret (ab_io ci131 (by decide +kernel)) rt131
theorem k132_0 : At 132 0 [some (.int x)] st I J Q ↔ At 132 1 [some (.int x)] (.int x :: st) I J Q := A_iload_n (q := 0) (ab_io ci132 (by decide +kernel)) rfl
theorem k132_1 : At 132 1 ls st I J Q ↔ At 132 2 ls (.int (nI 0) :: st) I J Q := A_iconst (ab_io ci132 (by decide +kernel)) ic_0
theorem k132_2 : At 132 2 ls st I J Q ↔ At 132 3 ls (.int (nI 3) :: st) I J Q := A_iconst (ab_io ci132 (by decide +kernel)) ic_3
theorem k132_3 : At 132 3 ls [.int p0, .int p1, .int p2] I J Q ↔ Cal 126 [.int p2, .int p1, .int p0] I J (fun v I' J' => At 132 6 ls (v.toList ++ []) I' J' Q) := A_cal (kd := 1) (j := 101) (na := 3) (ea := 3) (rk := 0) (by decide +kernel) rfl rfl rfl (Or.inl rfl) (Nat.le_of_ble_eq_true rfl)
theorem k132_6 : At 132 6 ls [.int x] I J Q ↔ (x = 0 ∨ x = 1) ∧ Q (some (.int x)) I J := A_zret (ab_io ci132 (by decide +kernel)) rt132
theorem k133_0 : At 133 0 [some (.ref r)] st I J Q ↔ At 133 1 [some (.ref r)] (.ref r :: st) I J Q := A_aload_n (q := 0) (ab_io ci133 (by decide +kernel)) rfl
theorem k133_1 : At 133 1 ls (.ref 49 :: st) I J Q ↔ At 133 4 ls (.int (I 49 0) :: st) I J Q := A_getI (ab_io ci133 (by decide +kernel)) ow133 fq8_105_49
theorem k133_4 : At 133 4 ls (.int x :: st) I J Q ↔ if ¬ x = 0 then At 133 11 ls st I J Q else At 133 7 ls st I J Q := A_ifCond_ne (o := 7) (ab_io ci133 (by decide +kernel)) (by decide)
theorem k133_7 : At 133 7 ls st I J Q ↔ At 133 8 ls (.int (nI 0) :: st) I J Q := A_iconst (ab_io ci133 (by decide +kernel)) ic_0
theorem k133_8 : At 133 8 ls st I J Q ↔ At 133 22 ls st I J Q := A_goto (o := 14) (ab_io ci133 (by decide +kernel)) (by decide)
theorem k133_11 : At 133 11 [some (.ref r)] st I J Q ↔ At 133 12 [some (.ref r)] (.ref r :: st) I J Q := A_aload_n (q := 0) (ab_io ci133 (by decide +kernel)) rfl
theorem k133_12 : At 133 12 ls (.ref 49 :: st) I J Q ↔ At 133 15 ls (.ref 53 :: st) I J Q := A_getR (ab_io ci133 (by decide +kernel)) ow133 fq8_19_49
theorem k133_15 : At 133 15 [some (.ref r)] st I J Q ↔ At 133 16 [some (.ref r)] (.ref r :: st) I J Q := A_aload_n (q := 0) (ab_io ci133 (by decide +kernel)) rfl
theorem k133_16 : At 133 16 ls (.ref 49 :: st) I J Q ↔ At 133 19 ls (.int (I 49 0) :: st) I J Q := A_getI (ab_io ci133 (by decide +kernel)) ow133 fq8_105_49
theorem k133_19 : At 133 19 ls st I J Q ↔ At 133 20 ls (.int (nI 1) :: st) I J Q := A_iconst (ab_io ci133 (by decide +kernel)) ic_1
theorem k133_20 : At 133 20 ls (.int x1 :: .int x :: st) I J Q ↔ At 133 21 ls (.int (x - x1) :: st) I J Q := A_isub (ab_io ci133 (by decide +kernel))
theorem k133_21 : At 133 21 ls (.int x :: .ref r :: st) I J Q ↔ ((ab_ly r).1 = 1 ∧ r < 75 ∧ 0 ≤ x.toInt ∧ x.toInt < (ab_ly r).2) ∧ At 133 22 ls (.int (I r x.toNatClampNeg) :: st) I J Q := A_iaload (ab_io ci133 (by decide +kernel))
theorem k133_22 : At 133 22 ls [.int x] I J Q ↔ Q (some (.int x)) I J := A_iret (ab_io ci133 (by decide +kernel)) rt133
theorem k134_0 : At 134 0 [a0, some (.int x), a2, a3, a4] st I J Q ↔ At 134 1 [a0, some (.int x), a2, a3, a4] (.int x :: st) I J Q := A_iload_n (q := 1) (ab_io ci134 (by decide +kernel)) rfl
theorem k134_1 : At 134 1 ls [.int p0] I J Q ↔ Cal 131 [.int p0] I J (fun v I' J' => At 134 4 ls (v.toList ++ []) I' J' Q) := A_cal (kd := 1) (j := 108) (na := 1) (ea := 1) (rk := 0) (by decide +kernel) rfl rfl rfl (Or.inl rfl) (Nat.le_of_ble_eq_true rfl)
theorem k134_4 : At 134 4 ls (.int x :: st) I J Q ↔ if x = 0 then At 134 39 ls st I J Q else At 134 7 ls st I J Q := A_ifCond_eq (o := 35) (ab_io ci134 (by decide +kernel)) (by decide)
theorem k134_7 : At 134 7 [a0, a1, some (.int x), a3, a4] st I J Q ↔ At 134 8 [a0, a1, some (.int x), a3, a4] (.int x :: st) I J Q := A_iload_n (q := 2) (ab_io ci134 (by decide +kernel)) rfl
theorem k134_8 : At 134 8 ls [.int p0] I J Q ↔ Cal 132 [.int p0] I J (fun v I' J' => At 134 11 ls (v.toList ++ []) I' J' Q) := A_cal (kd := 1) (j := 112) (na := 1) (ea := 1) (rk := 0) (by decide +kernel) rfl rfl rfl (Or.inl rfl) (Nat.le_of_ble_eq_true rfl)
theorem k134_11 : At 134 11 ls (.int x :: st) I J Q ↔ if x = 0 then At 134 39 ls st I J Q else At 134 14 ls st I J Q := A_ifCond_eq (o := 28) (ab_io ci134 (by decide +kernel)) (by decide)
theorem k134_14 : At 134 14 [a0, a1, a2, some (.int x), a4] st I J Q ↔ At 134 15 [a0, a1, a2, some (.int x), a4] (.int x :: st) I J Q := A_iload_n (q := 3) (ab_io ci134 (by decide +kernel)) rfl
theorem k134_15 : At 134 15 ls st I J Q ↔ At 134 16 ls (.int (-1) :: st) I J Q := A_iconst (ab_io ci134 (by decide +kernel)) ic_m1
theorem k134_16 : At 134 16 ls st I J Q ↔ At 134 18 ls (.int (nI 100) :: st) I J Q := A_bipush (ab_io ci134 (by decide +kernel)) bc_100
theorem k134_18 : At 134 18 ls [.int p0, .int p1, .int p2] I J Q ↔ Cal 126 [.int p2, .int p1, .int p0] I J (fun v I' J' => At 134 21 ls (v.toList ++ []) I' J' Q) := A_cal (kd := 1) (j := 101) (na := 3) (ea := 3) (rk := 0) (by decide +kernel) rfl rfl rfl (Or.inl rfl) (Nat.le_of_ble_eq_true rfl)
theorem k134_21 : At 134 21 ls (.int x :: st) I J Q ↔ if x = 0 then At 134 39 ls st I J Q else At 134 24 ls st I J Q := A_ifCond_eq (o := 18) (ab_io ci134 (by decide +kernel)) (by decide)
theorem k134_24 : At 134 24 [a0, a1, a2, a3, some (.int x)] st I J Q ↔ At 134 26 [a0, a1, a2, a3, some (.int x)] (.int x :: st) I J Q := A_iload (q := 4) (ab_io ci134 (by decide +kernel)) rfl
theorem k134_26 : At 134 26 [some (.ref r), a1, a2, a3, a4] st I J Q ↔ At 134 27 [some (.ref r), a1, a2, a3, a4] (.ref r :: st) I J Q := A_aload_n (q := 0) (ab_io ci134 (by decide +kernel)) rfl
theorem k134_27 : At 134 27 ls [.ref 49, .int q0] I J Q ↔ Cal 133 [.ref 49] I J (fun v I' J' => At 134 30 ls (v.toList ++ [.int q0]) I' J' Q) := A_cal (kd := 0) (j := 115) (na := 1) (ea := 1) (rk := 49) (by decide +kernel) rfl rfl rfl (Or.inr rfl) (Nat.le_of_ble_eq_true rfl)
theorem k134_30 : At 134 30 ls st I J Q ↔ At 134 33 ls (.int (nI 999) :: st) I J Q := A_sipush (ab_io ci134 (by decide +kernel)) sc_999
theorem k134_33 : At 134 33 ls [.int p0, .int p1, .int p2] I J Q ↔ Cal 126 [.int p2, .int p1, .int p0] I J (fun v I' J' => At 134 36 ls (v.toList ++ []) I' J' Q) := A_cal (kd := 1) (j := 101) (na := 3) (ea := 3) (rk := 0) (by decide +kernel) rfl rfl rfl (Or.inl rfl) (Nat.le_of_ble_eq_true rfl)
theorem k134_36 : At 134 36 ls (.int x :: st) I J Q ↔ if ¬ x = 0 then At 134 42 ls st I J Q else At 134 39 ls st I J Q := A_ifCond_ne (o := 6) (ab_io ci134 (by decide +kernel)) (by decide)
theorem k134_39 : At 134 39 ls st I J Q ↔ At 134 41 ls (.int (-2) :: st) I J Q := A_bipush (ab_io ci134 (by decide +kernel)) bc_m2
theorem k134_41 : At 134 41 ls [.int x] I J Q ↔ Q (some (.int x)) I J := A_iret (ab_io ci134 (by decide +kernel)) rt134
theorem k134_42 : At 134 42 [some (.ref r), a1, a2, a3, a4] st I J Q ↔ At 134 43 [some (.ref r), a1, a2, a3, a4] (.ref r :: st) I J Q := A_aload_n (q := 0) (ab_io ci134 (by decide +kernel)) rfl
theorem k134_43 : At 134 43 ls (.ref 49 :: st) I J Q ↔ At 134 46 ls (.int (I 49 0) :: st) I J Q := A_getI (ab_io ci134 (by decide +kernel)) ow134 fq8_105_49
theorem k134_46 : At 134 46 ls st I J Q ↔ At 134 48 ls (.int (nI 100) :: st) I J Q := A_bipush (ab_io ci134 (by decide +kernel)) bc_100
theorem k134_48 : At 134 48 ls (.int x1 :: .int x :: st) I J Q ↔ if ¬ x = x1 then At 134 54 ls st I J Q else At 134 51 ls st I J Q := A_if_icmp_ne (o := 6) (ab_io ci134 (by decide +kernel)) (by decide)
theorem k134_51 : At 134 51 ls st I J Q ↔ At 134 53 ls (.int (-4) :: st) I J Q := A_bipush (ab_io ci134 (by decide +kernel)) bc_m4
theorem k134_53 : At 134 53 ls [.int x] I J Q ↔ Q (some (.int x)) I J := A_iret (ab_io ci134 (by decide +kernel)) rt134
theorem k134_54 : At 134 54 [some (.ref r), a1, a2, a3, a4] st I J Q ↔ At 134 55 [some (.ref r), a1, a2, a3, a4] (.ref r :: st) I J Q := A_aload_n (q := 0) (ab_io ci134 (by decide +kernel)) rfl
theorem k134_55 : At 134 55 ls (.ref 49 :: st) I J Q ↔ At 134 58 ls (.ref 50 :: st) I J Q := A_getR (ab_io ci134 (by decide +kernel)) ow134 fq8_7_49
theorem k134_58 : At 134 58 [some (.ref r), a1, a2, a3, a4] st I J Q ↔ At 134 59 [some (.ref r), a1, a2, a3, a4] (.ref r :: st) I J Q := A_aload_n (q := 0) (ab_io ci134 (by decide +kernel)) rfl
theorem k134_59 : At 134 59 ls (.ref 49 :: st) I J Q ↔ At 134 62 ls (.int (I 49 0) :: st) I J Q := A_getI (ab_io ci134 (by decide +kernel)) ow134 fq8_105_49
theorem k134_62 : At 134 62 [a0, some (.int x), a2, a3, a4] st I J Q ↔ At 134 63 [a0, some (.int x), a2, a3, a4] (.int x :: st) I J Q := A_iload_n (q := 1) (ab_io ci134 (by decide +kernel)) rfl
theorem k134_63 : At 134 63 ls (.int x1 :: .int x :: .ref r :: st) I J Q ↔ ((ab_ly r).1 = 1 ∧ r < 75 ∧ 0 ≤ x.toInt ∧ x.toInt < (ab_ly r).2) ∧ At 134 64 ls st (va_up I r (va_up (I r) x.toNatClampNeg x1)) J Q := A_iastore (ab_io ci134 (by decide +kernel))
theorem k134_64 : At 134 64 [some (.ref r), a1, a2, a3, a4] st I J Q ↔ At 134 65 [some (.ref r), a1, a2, a3, a4] (.ref r :: st) I J Q := A_aload_n (q := 0) (ab_io ci134 (by decide +kernel)) rfl
theorem k134_65 : At 134 65 ls (.ref 49 :: st) I J Q ↔ At 134 68 ls (.ref 51 :: st) I J Q := A_getR (ab_io ci134 (by decide +kernel)) ow134 fq8_13_49
theorem k134_68 : At 134 68 [some (.ref r), a1, a2, a3, a4] st I J Q ↔ At 134 69 [some (.ref r), a1, a2, a3, a4] (.ref r :: st) I J Q := A_aload_n (q := 0) (ab_io ci134 (by decide +kernel)) rfl
theorem k134_69 : At 134 69 ls (.ref 49 :: st) I J Q ↔ At 134 72 ls (.int (I 49 0) :: st) I J Q := A_getI (ab_io ci134 (by decide +kernel)) ow134 fq8_105_49
theorem k134_72 : At 134 72 [a0, a1, some (.int x), a3, a4] st I J Q ↔ At 134 73 [a0, a1, some (.int x), a3, a4] (.int x :: st) I J Q := A_iload_n (q := 2) (ab_io ci134 (by decide +kernel)) rfl
theorem k134_73 : At 134 73 ls (.int x1 :: .int x :: .ref r :: st) I J Q ↔ ((ab_ly r).1 = 1 ∧ r < 75 ∧ 0 ≤ x.toInt ∧ x.toInt < (ab_ly r).2) ∧ At 134 74 ls st (va_up I r (va_up (I r) x.toNatClampNeg x1)) J Q := A_iastore (ab_io ci134 (by decide +kernel))
theorem k134_74 : At 134 74 [some (.ref r), a1, a2, a3, a4] st I J Q ↔ At 134 75 [some (.ref r), a1, a2, a3, a4] (.ref r :: st) I J Q := A_aload_n (q := 0) (ab_io ci134 (by decide +kernel)) rfl
theorem k134_75 : At 134 75 ls (.ref 49 :: st) I J Q ↔ At 134 78 ls (.ref 52 :: st) I J Q := A_getR (ab_io ci134 (by decide +kernel)) ow134 fq8_16_49
theorem k134_78 : At 134 78 [some (.ref r), a1, a2, a3, a4] st I J Q ↔ At 134 79 [some (.ref r), a1, a2, a3, a4] (.ref r :: st) I J Q := A_aload_n (q := 0) (ab_io ci134 (by decide +kernel)) rfl
theorem k134_79 : At 134 79 ls (.ref 49 :: st) I J Q ↔ At 134 82 ls (.int (I 49 0) :: st) I J Q := A_getI (ab_io ci134 (by decide +kernel)) ow134 fq8_105_49
theorem k134_82 : At 134 82 [a0, a1, a2, some (.int x), a4] st I J Q ↔ At 134 83 [a0, a1, a2, some (.int x), a4] (.int x :: st) I J Q := A_iload_n (q := 3) (ab_io ci134 (by decide +kernel)) rfl
theorem k134_83 : At 134 83 ls (.int x1 :: .int x :: .ref r :: st) I J Q ↔ ((ab_ly r).1 = 1 ∧ r < 75 ∧ 0 ≤ x.toInt ∧ x.toInt < (ab_ly r).2) ∧ At 134 84 ls st (va_up I r (va_up (I r) x.toNatClampNeg x1)) J Q := A_iastore (ab_io ci134 (by decide +kernel))
theorem k134_84 : At 134 84 [some (.ref r), a1, a2, a3, a4] st I J Q ↔ At 134 85 [some (.ref r), a1, a2, a3, a4] (.ref r :: st) I J Q := A_aload_n (q := 0) (ab_io ci134 (by decide +kernel)) rfl
theorem k134_85 : At 134 85 ls (.ref 49 :: st) I J Q ↔ At 134 88 ls (.ref 53 :: st) I J Q := A_getR (ab_io ci134 (by decide +kernel)) ow134 fq8_19_49
theorem k134_88 : At 134 88 [some (.ref r), a1, a2, a3, a4] st I J Q ↔ At 134 89 [some (.ref r), a1, a2, a3, a4] (.ref r :: st) I J Q := A_aload_n (q := 0) (ab_io ci134 (by decide +kernel)) rfl
theorem k134_89 : At 134 89 ls (.ref 49 :: st) I J Q ↔ At 134 92 ls (.int (I 49 0) :: st) I J Q := A_getI (ab_io ci134 (by decide +kernel)) ow134 fq8_105_49
theorem k134_92 : At 134 92 [a0, a1, a2, a3, some (.int x)] st I J Q ↔ At 134 94 [a0, a1, a2, a3, some (.int x)] (.int x :: st) I J Q := A_iload (q := 4) (ab_io ci134 (by decide +kernel)) rfl
theorem k134_94 : At 134 94 ls (.int x1 :: .int x :: .ref r :: st) I J Q ↔ ((ab_ly r).1 = 1 ∧ r < 75 ∧ 0 ≤ x.toInt ∧ x.toInt < (ab_ly r).2) ∧ At 134 95 ls st (va_up I r (va_up (I r) x.toNatClampNeg x1)) J Q := A_iastore (ab_io ci134 (by decide +kernel))
theorem k134_95 : At 134 95 [some (.ref r), a1, a2, a3, a4] st I J Q ↔ At 134 96 [some (.ref r), a1, a2, a3, a4] (.ref r :: st) I J Q := A_aload_n (q := 0) (ab_io ci134 (by decide +kernel)) rfl
theorem k134_96 : At 134 96 ls (.ref r :: st) I J Q ↔ At 134 97 ls (.ref r :: .ref r :: st) I J Q := A_dupA (ab_io ci134 (by decide +kernel))
theorem k134_97 : At 134 97 ls (.ref 49 :: st) I J Q ↔ At 134 100 ls (.int (I 49 0) :: st) I J Q := A_getI (ab_io ci134 (by decide +kernel)) ow134 fq8_105_49
theorem k134_100 : At 134 100 ls st I J Q ↔ At 134 101 ls (.int (nI 1) :: st) I J Q := A_iconst (ab_io ci134 (by decide +kernel)) ic_1
theorem k134_101 : At 134 101 ls (.int x1 :: .int x :: st) I J Q ↔ At 134 102 ls (.int (x + x1) :: st) I J Q := A_iadd (ab_io ci134 (by decide +kernel))
theorem k134_102 : At 134 102 ls (.int x :: .ref 49 :: st) I J Q ↔ At 134 105 ls st (va_up I 49 (va_up (I 49) 0 x)) J Q := A_putI (ab_io ci134 (by decide +kernel)) ow134 fq8_105_49
theorem k134_105 : At 134 105 [some (.ref r), a1, a2, a3, a4] st I J Q ↔ At 134 106 [some (.ref r), a1, a2, a3, a4] (.ref r :: st) I J Q := A_aload_n (q := 0) (ab_io ci134 (by decide +kernel)) rfl
theorem k134_106 : At 134 106 ls (.ref 49 :: st) I J Q ↔ At 134 109 ls (.int (I 49 0) :: st) I J Q := A_getI (ab_io ci134 (by decide +kernel)) ow134 fq8_105_49
theorem k134_109 : At 134 109 ls [.int x] I J Q ↔ Q (some (.int x)) I J := A_iret (ab_io ci134 (by decide +kernel)) rt134
theorem k135_0 : At 135 0 [some (.ref r), a1, a2, a3, a4] st I J Q ↔ At 135 1 [some (.ref r), a1, a2, a3, a4] (.ref r :: st) I J Q := A_aload_n (q := 0) (ab_io ci135 (by decide +kernel)) rfl
theorem k135_1 : At 135 1 [a0, some (.int x), a2, a3, a4] st I J Q ↔ At 135 2 [a0, some (.int x), a2, a3, a4] (.int x :: st) I J Q := A_iload_n (q := 1) (ab_io ci135 (by decide +kernel)) rfl
theorem k135_2 : At 135 2 [a0, a1, some (.int x), a3, a4] st I J Q ↔ At 135 3 [a0, a1, some (.int x), a3, a4] (.int x :: st) I J Q := A_iload_n (q := 2) (ab_io ci135 (by decide +kernel)) rfl
theorem k135_3 : At 135 3 [a0, a1, a2, some (.int x), a4] st I J Q ↔ At 135 4 [a0, a1, a2, some (.int x), a4] (.int x :: st) I J Q := A_iload_n (q := 3) (ab_io ci135 (by decide +kernel)) rfl
theorem k135_4 : At 135 4 [a0, a1, a2, a3, some (.int x)] st I J Q ↔ At 135 6 [a0, a1, a2, a3, some (.int x)] (.int x :: st) I J Q := A_iload (q := 4) (ab_io ci135 (by decide +kernel)) rfl
theorem k135_6 : At 135 6 ls [.int p0, .int p1, .int p2, .int p3, .ref 49] I J Q ↔ Cal 134 [.ref 49, .int p3, .int p2, .int p1, .int p0] I J (fun v I' J' => At 135 9 ls (v.toList ++ []) I' J' Q) := A_cal (kd := 0) (j := 119) (na := 5) (ea := 5) (rk := 49) (by decide +kernel) rfl rfl rfl (Or.inr rfl) (Nat.le_of_ble_eq_true rfl)
theorem k135_9 : At 135 9 ls [.int x] I J Q ↔ Q (some (.int x)) I J := A_iret (ab_io ci135 (by decide +kernel)) rt135
theorem k136_0 : At 136 0 [a0, some (.int x), a2, a3] st I J Q ↔ At 136 1 [a0, some (.int x), a2, a3] (.int x :: st) I J Q := A_iload_n (q := 1) (ab_io ci136 (by decide +kernel)) rfl
theorem k136_1 : At 136 1 ls [.int p0] I J Q ↔ Cal 189 [.int p0] I J (fun v I' J' => At 136 4 ls (v.toList ++ []) I' J' Q) := A_cal (kd := 1) (j := 123) (na := 1) (ea := 1) (rk := 0) (by decide +kernel) rfl rfl rfl (Or.inl rfl) (Nat.le_of_ble_eq_true rfl)
theorem k136_4 : At 136 4 ls (.int x :: st) I J Q ↔ if x = 0 then At 136 21 ls st I J Q else At 136 7 ls st I J Q := A_ifCond_eq (o := 17) (ab_io ci136 (by decide +kernel)) (by decide)
theorem k136_7 : At 136 7 [a0, a1, some (.int x), a3] st I J Q ↔ At 136 8 [a0, a1, some (.int x), a3] (.int x :: st) I J Q := A_iload_n (q := 2) (ab_io ci136 (by decide +kernel)) rfl
theorem k136_8 : At 136 8 [some (.ref r), a1, a2, a3] st I J Q ↔ At 136 9 [some (.ref r), a1, a2, a3] (.ref r :: st) I J Q := A_aload_n (q := 0) (ab_io ci136 (by decide +kernel)) rfl
theorem k136_9 : At 136 9 ls [.ref 49, .int q0] I J Q ↔ Cal 133 [.ref 49] I J (fun v I' J' => At 136 12 ls (v.toList ++ [.int q0]) I' J' Q) := A_cal (kd := 0) (j := 115) (na := 1) (ea := 1) (rk := 49) (by decide +kernel) rfl rfl rfl (Or.inr rfl) (Nat.le_of_ble_eq_true rfl)
theorem k136_12 : At 136 12 ls st I J Q ↔ At 136 15 ls (.int (nI 999) :: st) I J Q := A_sipush (ab_io ci136 (by decide +kernel)) sc_999
theorem k136_15 : At 136 15 ls [.int p0, .int p1, .int p2] I J Q ↔ Cal 126 [.int p2, .int p1, .int p0] I J (fun v I' J' => At 136 18 ls (v.toList ++ []) I' J' Q) := A_cal (kd := 1) (j := 101) (na := 3) (ea := 3) (rk := 0) (by decide +kernel) rfl rfl rfl (Or.inl rfl) (Nat.le_of_ble_eq_true rfl)
theorem k136_18 : At 136 18 ls (.int x :: st) I J Q ↔ if ¬ x = 0 then At 136 24 ls st I J Q else At 136 21 ls st I J Q := A_ifCond_ne (o := 6) (ab_io ci136 (by decide +kernel)) (by decide)
theorem k136_21 : At 136 21 ls st I J Q ↔ At 136 23 ls (.int (-2) :: st) I J Q := A_bipush (ab_io ci136 (by decide +kernel)) bc_m2
theorem k136_23 : At 136 23 ls [.int x] I J Q ↔ Q (some (.int x)) I J := A_iret (ab_io ci136 (by decide +kernel)) rt136
theorem k136_24 : At 136 24 [some (.ref r), a1, a2, a3] st I J Q ↔ At 136 25 [some (.ref r), a1, a2, a3] (.ref r :: st) I J Q := A_aload_n (q := 0) (ab_io ci136 (by decide +kernel)) rfl
theorem k136_25 : At 136 25 ls (.ref 49 :: st) I J Q ↔ At 136 28 ls (.ref 70 :: st) I J Q := A_getR (ab_io ci136 (by decide +kernel)) ow136 fq8_75_49
theorem k136_28 : At 136 28 [a0, some (.int x), a2, a3] st I J Q ↔ At 136 29 [a0, some (.int x), a2, a3] (.int x :: st) I J Q := A_iload_n (q := 1) (ab_io ci136 (by decide +kernel)) rfl
theorem k136_29 : At 136 29 ls (.int x :: .ref r :: st) I J Q ↔ ((ab_ly r).1 = 3 ∧ r < 75 ∧ 0 ≤ x.toInt ∧ x.toInt < (ab_ly r).2) ∧ At 136 30 ls (.int (I r x.toNatClampNeg) :: st) I J Q := A_baload (ab_io ci136 (by decide +kernel))
theorem k136_30 : At 136 30 ls (.int x :: st) I J Q ↔ if ¬ x = 0 then At 136 39 ls st I J Q else At 136 33 ls st I J Q := A_ifCond_ne (o := 9) (ab_io ci136 (by decide +kernel)) (by decide)
theorem k136_33 : At 136 33 [some (.ref r), a1, a2, a3] st I J Q ↔ At 136 34 [some (.ref r), a1, a2, a3] (.ref r :: st) I J Q := A_aload_n (q := 0) (ab_io ci136 (by decide +kernel)) rfl
theorem k136_34 : At 136 34 ls st I J Q ↔ At 136 35 ls (.int (nI 1) :: st) I J Q := A_iconst (ab_io ci136 (by decide +kernel)) ic_1
theorem k136_35 : At 136 35 ls [.int p0, .ref 49] I J Q ↔ Cal 188 [.ref 49, .int p0] I J (fun v I' J' => At 136 38 ls (v.toList ++ []) I' J' Q) := A_cal (kd := 0) (j := 126) (na := 2) (ea := 2) (rk := 49) (by decide +kernel) rfl rfl rfl (Or.inr rfl) (Nat.le_of_ble_eq_true rfl)
theorem k136_38 : At 136 38 ls [.int x] I J Q ↔ Q (some (.int x)) I J := A_iret (ab_io ci136 (by decide +kernel)) rt136
theorem k136_39 : At 136 39 ls st I J Q ↔ At 136 40 ls (.int (nI 0) :: st) I J Q := A_iconst (ab_io ci136 (by decide +kernel)) ic_0
theorem k136_40 : At 136 40 [a0, a1, a2, a3] (.int x :: st) I J Q ↔ At 136 41 [a0, a1, ab_nv a2, some (.int x)] st I J Q := A_istore_n (q := 3) (ab_io ci136 (by decide +kernel)) (Nat.le_of_ble_eq_true rfl) rfl
theorem k136_41 : At 136 41 ls st I J Q ↔ At 136 42 ls (.int (nI 3) :: st) I J Q := A_iconst (ab_io ci136 (by decide +kernel)) ic_3
theorem k136_42 : At 136 42 [a0, a1, a2, some (.int x)] st I J Q ↔ At 136 43 [a0, a1, a2, some (.int x)] (.int x :: st) I J Q := A_iload_n (q := 3) (ab_io ci136 (by decide +kernel)) rfl
theorem k136_43 : At 136 43 ls (.int x1 :: .int x :: st) I J Q ↔ At 136 44 ls (.int (x * x1) :: st) I J Q := A_imul (ab_io ci136 (by decide +kernel))
theorem k136_44 : At 136 44 ls st I J Q ↔ At 136 45 ls (.int (nI 2) :: st) I J Q := A_iconst (ab_io ci136 (by decide +kernel)) ic_2
theorem k136_45 : At 136 45 ls (.int x1 :: .int x :: st) I J Q ↔ At 136 46 ls (.int (x + x1) :: st) I J Q := A_iadd (ab_io ci136 (by decide +kernel))
theorem k136_46 : At 136 46 [some (.ref r), a1, a2, a3] st I J Q ↔ At 136 47 [some (.ref r), a1, a2, a3] (.ref r :: st) I J Q := A_aload_n (q := 0) (ab_io ci136 (by decide +kernel)) rfl
theorem k136_47 : At 136 47 ls (.ref 49 :: st) I J Q ↔ At 136 50 ls (.ref 72 :: st) I J Q := A_getR (ab_io ci136 (by decide +kernel)) ow136 fq8_82_49
theorem k136_50 : At 136 50 [a0, some (.int x), a2, a3] st I J Q ↔ At 136 51 [a0, some (.int x), a2, a3] (.int x :: st) I J Q := A_iload_n (q := 1) (ab_io ci136 (by decide +kernel)) rfl
theorem k136_51 : At 136 51 ls (.int x :: .ref r :: st) I J Q ↔ ((ab_ly r).1 = 1 ∧ r < 75 ∧ 0 ≤ x.toInt ∧ x.toInt < (ab_ly r).2) ∧ At 136 52 ls (.int (I r x.toNatClampNeg) :: st) I J Q := A_iaload (ab_io ci136 (by decide +kernel))
theorem k136_52 : At 136 52 ls (.int x1 :: .int x :: st) I J Q ↔ if x1 ≤ x then At 136 112 ls st I J Q else At 136 55 ls st I J Q := A_if_icmp_ge (o := 60) (ab_io ci136 (by decide +kernel)) (by decide)
theorem k136_55 : At 136 55 [some (.ref r), a1, a2, a3] st I J Q ↔ At 136 56 [some (.ref r), a1, a2, a3] (.ref r :: st) I J Q := A_aload_n (q := 0) (ab_io ci136 (by decide +kernel)) rfl
theorem k136_56 : At 136 56 [some (.ref r), a1, a2, a3] st I J Q ↔ At 136 57 [some (.ref r), a1, a2, a3] (.ref r :: st) I J Q := A_aload_n (q := 0) (ab_io ci136 (by decide +kernel)) rfl
theorem k136_57 : At 136 57 ls (.ref 49 :: st) I J Q ↔ At 136 60 ls (.ref 73 :: st) I J Q := A_getR (ab_io ci136 (by decide +kernel)) ow136 fq8_85_49
theorem k136_60 : At 136 60 ls st I J Q ↔ At 136 62 ls (.int (nI 48) :: st) I J Q := A_bipush (ab_io ci136 (by decide +kernel)) bc_48
theorem k136_62 : At 136 62 [a0, some (.int x), a2, a3] st I J Q ↔ At 136 63 [a0, some (.int x), a2, a3] (.int x :: st) I J Q := A_iload_n (q := 1) (ab_io ci136 (by decide +kernel)) rfl
theorem k136_63 : At 136 63 ls (.int x1 :: .int x :: st) I J Q ↔ At 136 64 ls (.int (x * x1) :: st) I J Q := A_imul (ab_io ci136 (by decide +kernel))
theorem k136_64 : At 136 64 ls st I J Q ↔ At 136 65 ls (.int (nI 3) :: st) I J Q := A_iconst (ab_io ci136 (by decide +kernel)) ic_3
theorem k136_65 : At 136 65 [a0, a1, a2, some (.int x)] st I J Q ↔ At 136 66 [a0, a1, a2, some (.int x)] (.int x :: st) I J Q := A_iload_n (q := 3) (ab_io ci136 (by decide +kernel)) rfl
theorem k136_66 : At 136 66 ls (.int x1 :: .int x :: st) I J Q ↔ At 136 67 ls (.int (x * x1) :: st) I J Q := A_imul (ab_io ci136 (by decide +kernel))
theorem k136_67 : At 136 67 ls (.int x1 :: .int x :: st) I J Q ↔ At 136 68 ls (.int (x + x1) :: st) I J Q := A_iadd (ab_io ci136 (by decide +kernel))
theorem k136_68 : At 136 68 ls (.int x :: .ref r :: st) I J Q ↔ ((ab_ly r).1 = 1 ∧ r < 75 ∧ 0 ≤ x.toInt ∧ x.toInt < (ab_ly r).2) ∧ At 136 69 ls (.int (I r x.toNatClampNeg) :: st) I J Q := A_iaload (ab_io ci136 (by decide +kernel))
theorem k136_69 : At 136 69 [some (.ref r), a1, a2, a3] st I J Q ↔ At 136 70 [some (.ref r), a1, a2, a3] (.ref r :: st) I J Q := A_aload_n (q := 0) (ab_io ci136 (by decide +kernel)) rfl
theorem k136_70 : At 136 70 ls (.ref 49 :: st) I J Q ↔ At 136 73 ls (.ref 73 :: st) I J Q := A_getR (ab_io ci136 (by decide +kernel)) ow136 fq8_85_49
theorem k136_73 : At 136 73 ls st I J Q ↔ At 136 75 ls (.int (nI 48) :: st) I J Q := A_bipush (ab_io ci136 (by decide +kernel)) bc_48
theorem k136_75 : At 136 75 [a0, some (.int x), a2, a3] st I J Q ↔ At 136 76 [a0, some (.int x), a2, a3] (.int x :: st) I J Q := A_iload_n (q := 1) (ab_io ci136 (by decide +kernel)) rfl
theorem k136_76 : At 136 76 ls (.int x1 :: .int x :: st) I J Q ↔ At 136 77 ls (.int (x * x1) :: st) I J Q := A_imul (ab_io ci136 (by decide +kernel))
theorem k136_77 : At 136 77 ls st I J Q ↔ At 136 78 ls (.int (nI 3) :: st) I J Q := A_iconst (ab_io ci136 (by decide +kernel)) ic_3
theorem k136_78 : At 136 78 [a0, a1, a2, some (.int x)] st I J Q ↔ At 136 79 [a0, a1, a2, some (.int x)] (.int x :: st) I J Q := A_iload_n (q := 3) (ab_io ci136 (by decide +kernel)) rfl
theorem k136_79 : At 136 79 ls (.int x1 :: .int x :: st) I J Q ↔ At 136 80 ls (.int (x * x1) :: st) I J Q := A_imul (ab_io ci136 (by decide +kernel))
theorem k136_80 : At 136 80 ls (.int x1 :: .int x :: st) I J Q ↔ At 136 81 ls (.int (x + x1) :: st) I J Q := A_iadd (ab_io ci136 (by decide +kernel))
theorem k136_81 : At 136 81 ls st I J Q ↔ At 136 82 ls (.int (nI 1) :: st) I J Q := A_iconst (ab_io ci136 (by decide +kernel)) ic_1
theorem k136_82 : At 136 82 ls (.int x1 :: .int x :: st) I J Q ↔ At 136 83 ls (.int (x + x1) :: st) I J Q := A_iadd (ab_io ci136 (by decide +kernel))
theorem k136_83 : At 136 83 ls (.int x :: .ref r :: st) I J Q ↔ ((ab_ly r).1 = 1 ∧ r < 75 ∧ 0 ≤ x.toInt ∧ x.toInt < (ab_ly r).2) ∧ At 136 84 ls (.int (I r x.toNatClampNeg) :: st) I J Q := A_iaload (ab_io ci136 (by decide +kernel))
theorem k136_84 : At 136 84 [some (.ref r), a1, a2, a3] st I J Q ↔ At 136 85 [some (.ref r), a1, a2, a3] (.ref r :: st) I J Q := A_aload_n (q := 0) (ab_io ci136 (by decide +kernel)) rfl
theorem k136_85 : At 136 85 ls (.ref 49 :: st) I J Q ↔ At 136 88 ls (.ref 73 :: st) I J Q := A_getR (ab_io ci136 (by decide +kernel)) ow136 fq8_85_49
theorem k136_88 : At 136 88 ls st I J Q ↔ At 136 90 ls (.int (nI 48) :: st) I J Q := A_bipush (ab_io ci136 (by decide +kernel)) bc_48
theorem k136_90 : At 136 90 [a0, some (.int x), a2, a3] st I J Q ↔ At 136 91 [a0, some (.int x), a2, a3] (.int x :: st) I J Q := A_iload_n (q := 1) (ab_io ci136 (by decide +kernel)) rfl
theorem k136_91 : At 136 91 ls (.int x1 :: .int x :: st) I J Q ↔ At 136 92 ls (.int (x * x1) :: st) I J Q := A_imul (ab_io ci136 (by decide +kernel))
theorem k136_92 : At 136 92 ls st I J Q ↔ At 136 93 ls (.int (nI 3) :: st) I J Q := A_iconst (ab_io ci136 (by decide +kernel)) ic_3
theorem k136_93 : At 136 93 [a0, a1, a2, some (.int x)] st I J Q ↔ At 136 94 [a0, a1, a2, some (.int x)] (.int x :: st) I J Q := A_iload_n (q := 3) (ab_io ci136 (by decide +kernel)) rfl
theorem k136_94 : At 136 94 ls (.int x1 :: .int x :: st) I J Q ↔ At 136 95 ls (.int (x * x1) :: st) I J Q := A_imul (ab_io ci136 (by decide +kernel))
theorem k136_95 : At 136 95 ls (.int x1 :: .int x :: st) I J Q ↔ At 136 96 ls (.int (x + x1) :: st) I J Q := A_iadd (ab_io ci136 (by decide +kernel))
theorem k136_96 : At 136 96 ls st I J Q ↔ At 136 97 ls (.int (nI 2) :: st) I J Q := A_iconst (ab_io ci136 (by decide +kernel)) ic_2
theorem k136_97 : At 136 97 ls (.int x1 :: .int x :: st) I J Q ↔ At 136 98 ls (.int (x + x1) :: st) I J Q := A_iadd (ab_io ci136 (by decide +kernel))
theorem k136_98 : At 136 98 ls (.int x :: .ref r :: st) I J Q ↔ ((ab_ly r).1 = 1 ∧ r < 75 ∧ 0 ≤ x.toInt ∧ x.toInt < (ab_ly r).2) ∧ At 136 99 ls (.int (I r x.toNatClampNeg) :: st) I J Q := A_iaload (ab_io ci136 (by decide +kernel))
theorem k136_99 : At 136 99 [a0, a1, some (.int x), a3] st I J Q ↔ At 136 100 [a0, a1, some (.int x), a3] (.int x :: st) I J Q := A_iload_n (q := 2) (ab_io ci136 (by decide +kernel)) rfl
theorem k136_100 : At 136 100 ls [.int p0, .int p1, .int p2, .int p3, .ref 49] I J Q ↔ Cal 134 [.ref 49, .int p3, .int p2, .int p1, .int p0] I J (fun v I' J' => At 136 103 ls (v.toList ++ []) I' J' Q) := A_cal (kd := 0) (j := 119) (na := 5) (ea := 5) (rk := 49) (by decide +kernel) rfl rfl rfl (Or.inr rfl) (Nat.le_of_ble_eq_true rfl)
theorem k136_103 : At 136 103 ls (.int x :: st) I J Q ↔ if x ≤ 0 then At 136 112 ls st I J Q else At 136 106 ls st I J Q := A_ifCond_le (o := 9) (ab_io ci136 (by decide +kernel)) (by decide)
theorem k136_106 : At 136 106 [a0, a1, a2, some (.int x)] st I J Q ↔ At 136 109 [a0, a1, ab_nv a2, some (.int (x + (nI 1)))] st I J Q := A_iinc (q := 3) (ab_io ci136 (by decide +kernel)) ic_1 (Nat.le_of_ble_eq_true rfl) rfl rfl
theorem k136_109 : At 136 109 ls st I J Q ↔ At 136 41 ls st I J Q := A_goto (o := (-68)) (ab_io ci136 (by decide +kernel)) (by decide)
theorem k136_112 : At 136 112 [a0, a1, a2, some (.int x)] st I J Q ↔ At 136 113 [a0, a1, a2, some (.int x)] (.int x :: st) I J Q := A_iload_n (q := 3) (ab_io ci136 (by decide +kernel)) rfl
theorem k136_113 : At 136 113 ls [.int x] I J Q ↔ Q (some (.int x)) I J := A_iret (ab_io ci136 (by decide +kernel)) rt136
theorem k137_0 : At 137 0 [a0, some (.int x), a2] st I J Q ↔ At 137 1 [a0, some (.int x), a2] (.int x :: st) I J Q := A_iload_n (q := 1) (ab_io ci137 (by decide +kernel)) rfl
theorem k137_1 : At 137 1 ls st I J Q ↔ At 137 2 ls (.int (nI 0) :: st) I J Q := A_iconst (ab_io ci137 (by decide +kernel)) ic_0
theorem k137_2 : At 137 2 ls st I J Q ↔ At 137 5 ls (.int (nI 999) :: st) I J Q := A_sipush (ab_io ci137 (by decide +kernel)) sc_999
theorem k137_5 : At 137 5 ls [.int p0, .int p1, .int p2] I J Q ↔ Cal 126 [.int p2, .int p1, .int p0] I J (fun v I' J' => At 137 8 ls (v.toList ++ []) I' J' Q) := A_cal (kd := 1) (j := 101) (na := 3) (ea := 3) (rk := 0) (by decide +kernel) rfl rfl rfl (Or.inl rfl) (Nat.le_of_ble_eq_true rfl)
theorem k137_8 : At 137 8 ls (.int x :: st) I J Q ↔ if ¬ x = 0 then At 137 14 ls st I J Q else At 137 11 ls st I J Q := A_ifCond_ne (o := 6) (ab_io ci137 (by decide +kernel)) (by decide)
theorem k137_11 : At 137 11 ls st I J Q ↔ At 137 13 ls (.int (-2) :: st) I J Q := A_bipush (ab_io ci137 (by decide +kernel)) bc_m2
theorem k137_13 : At 137 13 ls [.int x] I J Q ↔ Q (some (.int x)) I J := A_iret (ab_io ci137 (by decide +kernel)) rt137
theorem k137_14 : At 137 14 [some (.ref r), a1, a2] st I J Q ↔ At 137 15 [some (.ref r), a1, a2] (.ref r :: st) I J Q := A_aload_n (q := 0) (ab_io ci137 (by decide +kernel)) rfl
theorem k137_15 : At 137 15 ls (.ref 49 :: st) I J Q ↔ At 137 18 ls (.int (I 49 5) :: st) I J Q := A_getI (ab_io ci137 (by decide +kernel)) ow137 fq8_22_49
theorem k137_18 : At 137 18 [a0, a1, a2] (.int x :: st) I J Q ↔ At 137 19 [a0, ab_nv a1, some (.int x)] st I J Q := A_istore_n (q := 2) (ab_io ci137 (by decide +kernel)) (Nat.le_of_ble_eq_true rfl) rfl
theorem k137_19 : At 137 19 [some (.ref r), a1, a2] st I J Q ↔ At 137 20 [some (.ref r), a1, a2] (.ref r :: st) I J Q := A_aload_n (q := 0) (ab_io ci137 (by decide +kernel)) rfl
theorem k137_20 : At 137 20 [a0, some (.int x), a2] st I J Q ↔ At 137 21 [a0, some (.int x), a2] (.int x :: st) I J Q := A_iload_n (q := 1) (ab_io ci137 (by decide +kernel)) rfl
theorem k137_21 : At 137 21 ls (.int x :: .ref 49 :: st) I J Q ↔ At 137 24 ls st (va_up I 49 (va_up (I 49) 5 x)) J Q := A_putI (ab_io ci137 (by decide +kernel)) ow137 fq8_22_49
theorem k137_24 : At 137 24 [a0, a1, some (.int x)] st I J Q ↔ At 137 25 [a0, a1, some (.int x)] (.int x :: st) I J Q := A_iload_n (q := 2) (ab_io ci137 (by decide +kernel)) rfl
theorem k137_25 : At 137 25 ls [.int x] I J Q ↔ Q (some (.int x)) I J := A_iret (ab_io ci137 (by decide +kernel)) rt137
theorem k138_0 : At 138 0 ls st I J Q ↔ At 138 1 ls (.int (nI 0) :: st) I J Q := A_iconst (ab_io ci138 (by decide +kernel)) ic_0
theorem k138_1 : At 138 1 [a0, a1] (.int x :: st) I J Q ↔ At 138 2 [ab_nv a0, some (.int x)] st I J Q := A_istore_n (q := 1) (ab_io ci138 (by decide +kernel)) (Nat.le_of_ble_eq_true rfl) rfl
theorem k138_2 : At 138 2 [a0, some (.int x)] st I J Q ↔ At 138 3 [a0, some (.int x)] (.int x :: st) I J Q := A_iload_n (q := 1) (ab_io ci138 (by decide +kernel)) rfl
theorem k138_3 : At 138 3 ls st I J Q ↔ At 138 5 ls (.int (nI 48) :: st) I J Q := A_bipush (ab_io ci138 (by decide +kernel)) bc_48
theorem k138_5 : At 138 5 ls (.int x1 :: .int x :: st) I J Q ↔ if x1 ≤ x then At 138 28 ls st I J Q else At 138 8 ls st I J Q := A_if_icmp_ge (o := 23) (ab_io ci138 (by decide +kernel)) (by decide)
theorem k138_8 : At 138 8 [some (.ref r), a1] st I J Q ↔ At 138 9 [some (.ref r), a1] (.ref r :: st) I J Q := A_aload_n (q := 0) (ab_io ci138 (by decide +kernel)) rfl
theorem k138_9 : At 138 9 ls (.ref 49 :: st) I J Q ↔ At 138 12 ls (.ref 55 :: st) I J Q := A_getR (ab_io ci138 (by decide +kernel)) ow138 fq8_29_49
theorem k138_12 : At 138 12 [a0, some (.int x)] st I J Q ↔ At 138 13 [a0, some (.int x)] (.int x :: st) I J Q := A_iload_n (q := 1) (ab_io ci138 (by decide +kernel)) rfl
theorem k138_13 : At 138 13 ls st I J Q ↔ At 138 14 ls (.int (-1) :: st) I J Q := A_iconst (ab_io ci138 (by decide +kernel)) ic_m1
theorem k138_14 : At 138 14 ls (.int x1 :: .int x :: .ref r :: st) I J Q ↔ ((ab_ly r).1 = 1 ∧ r < 75 ∧ 0 ≤ x.toInt ∧ x.toInt < (ab_ly r).2) ∧ At 138 15 ls st (va_up I r (va_up (I r) x.toNatClampNeg x1)) J Q := A_iastore (ab_io ci138 (by decide +kernel))
theorem k138_15 : At 138 15 [some (.ref r), a1] st I J Q ↔ At 138 16 [some (.ref r), a1] (.ref r :: st) I J Q := A_aload_n (q := 0) (ab_io ci138 (by decide +kernel)) rfl
theorem k138_16 : At 138 16 ls (.ref 49 :: st) I J Q ↔ At 138 19 ls (.ref 56 :: st) I J Q := A_getR (ab_io ci138 (by decide +kernel)) ow138 fq8_32_49
theorem k138_19 : At 138 19 [a0, some (.int x)] st I J Q ↔ At 138 20 [a0, some (.int x)] (.int x :: st) I J Q := A_iload_n (q := 1) (ab_io ci138 (by decide +kernel)) rfl
theorem k138_20 : At 138 20 ls st I J Q ↔ At 138 21 ls (.int (-1) :: st) I J Q := A_iconst (ab_io ci138 (by decide +kernel)) ic_m1
theorem k138_21 : At 138 21 ls (.int x1 :: .int x :: .ref r :: st) I J Q ↔ ((ab_ly r).1 = 1 ∧ r < 75 ∧ 0 ≤ x.toInt ∧ x.toInt < (ab_ly r).2) ∧ At 138 22 ls st (va_up I r (va_up (I r) x.toNatClampNeg x1)) J Q := A_iastore (ab_io ci138 (by decide +kernel))
theorem k138_22 : At 138 22 [a0, some (.int x)] st I J Q ↔ At 138 25 [ab_nv a0, some (.int (x + (nI 1)))] st I J Q := A_iinc (q := 1) (ab_io ci138 (by decide +kernel)) ic_1 (Nat.le_of_ble_eq_true rfl) rfl rfl
theorem k138_25 : At 138 25 ls st I J Q ↔ At 138 2 ls st I J Q := A_goto (o := (-23)) (ab_io ci138 (by decide +kernel)) (by decide)
theorem k138_28 : At 138 28 ls st I J Q ↔ At 138 29 ls (.int (nI 0) :: st) I J Q := A_iconst (ab_io ci138 (by decide +kernel)) ic_0
theorem k138_29 : At 138 29 [a0, a1] (.int x :: st) I J Q ↔ At 138 30 [ab_nv a0, some (.int x)] st I J Q := A_istore_n (q := 1) (ab_io ci138 (by decide +kernel)) (Nat.le_of_ble_eq_true rfl) rfl
theorem k138_30 : At 138 30 [a0, some (.int x)] st I J Q ↔ At 138 31 [a0, some (.int x)] (.int x :: st) I J Q := A_iload_n (q := 1) (ab_io ci138 (by decide +kernel)) rfl
theorem k138_31 : At 138 31 [some (.ref r), a1] st I J Q ↔ At 138 32 [some (.ref r), a1] (.ref r :: st) I J Q := A_aload_n (q := 0) (ab_io ci138 (by decide +kernel)) rfl
theorem k138_32 : At 138 32 ls (.ref 49 :: st) I J Q ↔ At 138 35 ls (.int (I 49 0) :: st) I J Q := A_getI (ab_io ci138 (by decide +kernel)) ow138 fq8_105_49
theorem k138_35 : At 138 35 ls (.int x1 :: .int x :: st) I J Q ↔ if x1 ≤ x then At 138 104 ls st I J Q else At 138 38 ls st I J Q := A_if_icmp_ge (o := 69) (ab_io ci138 (by decide +kernel)) (by decide)
theorem k138_38 : At 138 38 [some (.ref r), a1] st I J Q ↔ At 138 39 [some (.ref r), a1] (.ref r :: st) I J Q := A_aload_n (q := 0) (ab_io ci138 (by decide +kernel)) rfl
theorem k138_39 : At 138 39 ls (.ref 49 :: st) I J Q ↔ At 138 42 ls (.ref 53 :: st) I J Q := A_getR (ab_io ci138 (by decide +kernel)) ow138 fq8_19_49
theorem k138_42 : At 138 42 [a0, some (.int x)] st I J Q ↔ At 138 43 [a0, some (.int x)] (.int x :: st) I J Q := A_iload_n (q := 1) (ab_io ci138 (by decide +kernel)) rfl
theorem k138_43 : At 138 43 ls (.int x :: .ref r :: st) I J Q ↔ ((ab_ly r).1 = 1 ∧ r < 75 ∧ 0 ≤ x.toInt ∧ x.toInt < (ab_ly r).2) ∧ At 138 44 ls (.int (I r x.toNatClampNeg) :: st) I J Q := A_iaload (ab_io ci138 (by decide +kernel))
theorem k138_44 : At 138 44 [some (.ref r), a1] st I J Q ↔ At 138 45 [some (.ref r), a1] (.ref r :: st) I J Q := A_aload_n (q := 0) (ab_io ci138 (by decide +kernel)) rfl
theorem k138_45 : At 138 45 ls (.ref 49 :: st) I J Q ↔ At 138 48 ls (.int (I 49 5) :: st) I J Q := A_getI (ab_io ci138 (by decide +kernel)) ow138 fq8_22_49
theorem k138_48 : At 138 48 ls (.int x1 :: .int x :: st) I J Q ↔ if x1 < x then At 138 98 ls st I J Q else At 138 51 ls st I J Q := A_if_icmp_gt (o := 50) (ab_io ci138 (by decide +kernel)) (by decide)
theorem k138_51 : At 138 51 [some (.ref r), a1] st I J Q ↔ At 138 52 [some (.ref r), a1] (.ref r :: st) I J Q := A_aload_n (q := 0) (ab_io ci138 (by decide +kernel)) rfl
theorem k138_52 : At 138 52 ls (.ref 49 :: st) I J Q ↔ At 138 55 ls (.ref 55 :: st) I J Q := A_getR (ab_io ci138 (by decide +kernel)) ow138 fq8_29_49
theorem k138_55 : At 138 55 ls st I J Q ↔ At 138 56 ls (.int (nI 4) :: st) I J Q := A_iconst (ab_io ci138 (by decide +kernel)) ic_4
theorem k138_56 : At 138 56 [some (.ref r), a1] st I J Q ↔ At 138 57 [some (.ref r), a1] (.ref r :: st) I J Q := A_aload_n (q := 0) (ab_io ci138 (by decide +kernel)) rfl
theorem k138_57 : At 138 57 ls (.ref 49 :: st) I J Q ↔ At 138 60 ls (.ref 50 :: st) I J Q := A_getR (ab_io ci138 (by decide +kernel)) ow138 fq8_7_49
theorem k138_60 : At 138 60 [a0, some (.int x)] st I J Q ↔ At 138 61 [a0, some (.int x)] (.int x :: st) I J Q := A_iload_n (q := 1) (ab_io ci138 (by decide +kernel)) rfl
theorem k138_61 : At 138 61 ls (.int x :: .ref r :: st) I J Q ↔ ((ab_ly r).1 = 1 ∧ r < 75 ∧ 0 ≤ x.toInt ∧ x.toInt < (ab_ly r).2) ∧ At 138 62 ls (.int (I r x.toNatClampNeg) :: st) I J Q := A_iaload (ab_io ci138 (by decide +kernel))
theorem k138_62 : At 138 62 ls (.int x1 :: .int x :: st) I J Q ↔ At 138 63 ls (.int (x * x1) :: st) I J Q := A_imul (ab_io ci138 (by decide +kernel))
theorem k138_63 : At 138 63 [some (.ref r), a1] st I J Q ↔ At 138 64 [some (.ref r), a1] (.ref r :: st) I J Q := A_aload_n (q := 0) (ab_io ci138 (by decide +kernel)) rfl
theorem k138_64 : At 138 64 ls (.ref 49 :: st) I J Q ↔ At 138 67 ls (.ref 51 :: st) I J Q := A_getR (ab_io ci138 (by decide +kernel)) ow138 fq8_13_49
theorem k138_67 : At 138 67 [a0, some (.int x)] st I J Q ↔ At 138 68 [a0, some (.int x)] (.int x :: st) I J Q := A_iload_n (q := 1) (ab_io ci138 (by decide +kernel)) rfl
theorem k138_68 : At 138 68 ls (.int x :: .ref r :: st) I J Q ↔ ((ab_ly r).1 = 1 ∧ r < 75 ∧ 0 ≤ x.toInt ∧ x.toInt < (ab_ly r).2) ∧ At 138 69 ls (.int (I r x.toNatClampNeg) :: st) I J Q := A_iaload (ab_io ci138 (by decide +kernel))
theorem k138_69 : At 138 69 ls (.int x1 :: .int x :: st) I J Q ↔ At 138 70 ls (.int (x + x1) :: st) I J Q := A_iadd (ab_io ci138 (by decide +kernel))
theorem k138_70 : At 138 70 [some (.ref r), a1] st I J Q ↔ At 138 71 [some (.ref r), a1] (.ref r :: st) I J Q := A_aload_n (q := 0) (ab_io ci138 (by decide +kernel)) rfl
theorem k138_71 : At 138 71 ls (.ref 49 :: st) I J Q ↔ At 138 74 ls (.ref 52 :: st) I J Q := A_getR (ab_io ci138 (by decide +kernel)) ow138 fq8_16_49
theorem k138_74 : At 138 74 [a0, some (.int x)] st I J Q ↔ At 138 75 [a0, some (.int x)] (.int x :: st) I J Q := A_iload_n (q := 1) (ab_io ci138 (by decide +kernel)) rfl
theorem k138_75 : At 138 75 ls (.int x :: .ref r :: st) I J Q ↔ ((ab_ly r).1 = 1 ∧ r < 75 ∧ 0 ≤ x.toInt ∧ x.toInt < (ab_ly r).2) ∧ At 138 76 ls (.int (I r x.toNatClampNeg) :: st) I J Q := A_iaload (ab_io ci138 (by decide +kernel))
theorem k138_76 : At 138 76 ls (.int x1 :: .int x :: .ref r :: st) I J Q ↔ ((ab_ly r).1 = 1 ∧ r < 75 ∧ 0 ≤ x.toInt ∧ x.toInt < (ab_ly r).2) ∧ At 138 77 ls st (va_up I r (va_up (I r) x.toNatClampNeg x1)) J Q := A_iastore (ab_io ci138 (by decide +kernel))
theorem k138_77 : At 138 77 [some (.ref r), a1] st I J Q ↔ At 138 78 [some (.ref r), a1] (.ref r :: st) I J Q := A_aload_n (q := 0) (ab_io ci138 (by decide +kernel)) rfl
theorem k138_78 : At 138 78 ls (.ref 49 :: st) I J Q ↔ At 138 81 ls (.ref 56 :: st) I J Q := A_getR (ab_io ci138 (by decide +kernel)) ow138 fq8_32_49
theorem k138_81 : At 138 81 ls st I J Q ↔ At 138 82 ls (.int (nI 4) :: st) I J Q := A_iconst (ab_io ci138 (by decide +kernel)) ic_4
theorem k138_82 : At 138 82 [some (.ref r), a1] st I J Q ↔ At 138 83 [some (.ref r), a1] (.ref r :: st) I J Q := A_aload_n (q := 0) (ab_io ci138 (by decide +kernel)) rfl
theorem k138_83 : At 138 83 ls (.ref 49 :: st) I J Q ↔ At 138 86 ls (.ref 50 :: st) I J Q := A_getR (ab_io ci138 (by decide +kernel)) ow138 fq8_7_49
theorem k138_86 : At 138 86 [a0, some (.int x)] st I J Q ↔ At 138 87 [a0, some (.int x)] (.int x :: st) I J Q := A_iload_n (q := 1) (ab_io ci138 (by decide +kernel)) rfl
theorem k138_87 : At 138 87 ls (.int x :: .ref r :: st) I J Q ↔ ((ab_ly r).1 = 1 ∧ r < 75 ∧ 0 ≤ x.toInt ∧ x.toInt < (ab_ly r).2) ∧ At 138 88 ls (.int (I r x.toNatClampNeg) :: st) I J Q := A_iaload (ab_io ci138 (by decide +kernel))
theorem k138_88 : At 138 88 ls (.int x1 :: .int x :: st) I J Q ↔ At 138 89 ls (.int (x * x1) :: st) I J Q := A_imul (ab_io ci138 (by decide +kernel))
theorem k138_89 : At 138 89 [some (.ref r), a1] st I J Q ↔ At 138 90 [some (.ref r), a1] (.ref r :: st) I J Q := A_aload_n (q := 0) (ab_io ci138 (by decide +kernel)) rfl
theorem k138_90 : At 138 90 ls (.ref 49 :: st) I J Q ↔ At 138 93 ls (.ref 51 :: st) I J Q := A_getR (ab_io ci138 (by decide +kernel)) ow138 fq8_13_49
theorem k138_93 : At 138 93 [a0, some (.int x)] st I J Q ↔ At 138 94 [a0, some (.int x)] (.int x :: st) I J Q := A_iload_n (q := 1) (ab_io ci138 (by decide +kernel)) rfl
theorem k138_94 : At 138 94 ls (.int x :: .ref r :: st) I J Q ↔ ((ab_ly r).1 = 1 ∧ r < 75 ∧ 0 ≤ x.toInt ∧ x.toInt < (ab_ly r).2) ∧ At 138 95 ls (.int (I r x.toNatClampNeg) :: st) I J Q := A_iaload (ab_io ci138 (by decide +kernel))
theorem k138_95 : At 138 95 ls (.int x1 :: .int x :: st) I J Q ↔ At 138 96 ls (.int (x + x1) :: st) I J Q := A_iadd (ab_io ci138 (by decide +kernel))
theorem k138_96 : At 138 96 [a0, some (.int x)] st I J Q ↔ At 138 97 [a0, some (.int x)] (.int x :: st) I J Q := A_iload_n (q := 1) (ab_io ci138 (by decide +kernel)) rfl
theorem k138_97 : At 138 97 ls (.int x1 :: .int x :: .ref r :: st) I J Q ↔ ((ab_ly r).1 = 1 ∧ r < 75 ∧ 0 ≤ x.toInt ∧ x.toInt < (ab_ly r).2) ∧ At 138 98 ls st (va_up I r (va_up (I r) x.toNatClampNeg x1)) J Q := A_iastore (ab_io ci138 (by decide +kernel))
theorem k138_98 : At 138 98 [a0, some (.int x)] st I J Q ↔ At 138 101 [ab_nv a0, some (.int (x + (nI 1)))] st I J Q := A_iinc (q := 1) (ab_io ci138 (by decide +kernel)) ic_1 (Nat.le_of_ble_eq_true rfl) rfl rfl
theorem k138_101 : At 138 101 ls st I J Q ↔ At 138 30 ls st I J Q := A_goto (o := (-71)) (ab_io ci138 (by decide +kernel)) (by decide)
theorem k138_104 : At 138 104 [some (.ref r), a1] st I J Q ↔ At 138 105 [some (.ref r), a1] (.ref r :: st) I J Q := A_aload_n (q := 0) (ab_io ci138 (by decide +kernel)) rfl
theorem k138_105 : At 138 105 ls [.ref 49] I J Q ↔ Cal 139 [.ref 49] I J (fun v I' J' => At 138 108 ls (v.toList ++ []) I' J' Q) := A_cal (kd := 0) (j := 130) (na := 1) (ea := 1) (rk := 49) (by decide +kernel) rfl rfl rfl (Or.inr rfl) (Nat.le_of_ble_eq_true rfl)
theorem k138_108 : At 138 108 ls [] I J Q ↔ Q none I J := A_vret (ab_io ci138 (by decide +kernel)) rt138
theorem k139_0 : At 139 0 ls st I J Q ↔ At 139 1 ls (.int (nI 0) :: st) I J Q := A_iconst (ab_io ci139 (by decide +kernel)) ic_0
theorem k139_1 : At 139 1 [a0, a1, a2, a3, a4, a5] (.int x :: st) I J Q ↔ At 139 2 [ab_nv a0, some (.int x), a2, a3, a4, a5] st I J Q := A_istore_n (q := 1) (ab_io ci139 (by decide +kernel)) (Nat.le_of_ble_eq_true rfl) rfl
theorem k139_2 : At 139 2 [a0, some (.int x), a2, a3, a4, a5] st I J Q ↔ At 139 3 [a0, some (.int x), a2, a3, a4, a5] (.int x :: st) I J Q := A_iload_n (q := 1) (ab_io ci139 (by decide +kernel)) rfl
theorem k139_3 : At 139 3 ls st I J Q ↔ At 139 5 ls (.int (nI 16) :: st) I J Q := A_bipush (ab_io ci139 (by decide +kernel)) bc_16
theorem k139_5 : At 139 5 ls (.int x1 :: .int x :: st) I J Q ↔ if x1 ≤ x then At 139 21 ls st I J Q else At 139 8 ls st I J Q := A_if_icmp_ge (o := 16) (ab_io ci139 (by decide +kernel)) (by decide)
theorem k139_8 : At 139 8 [some (.ref r), a1, a2, a3, a4, a5] st I J Q ↔ At 139 9 [some (.ref r), a1, a2, a3, a4, a5] (.ref r :: st) I J Q := A_aload_n (q := 0) (ab_io ci139 (by decide +kernel)) rfl
theorem k139_9 : At 139 9 ls (.ref 49 :: st) I J Q ↔ At 139 12 ls (.ref 57 :: st) I J Q := A_getR (ab_io ci139 (by decide +kernel)) ow139 fq8_35_49
theorem k139_12 : At 139 12 [a0, some (.int x), a2, a3, a4, a5] st I J Q ↔ At 139 13 [a0, some (.int x), a2, a3, a4, a5] (.int x :: st) I J Q := A_iload_n (q := 1) (ab_io ci139 (by decide +kernel)) rfl
theorem k139_13 : At 139 13 ls st I J Q ↔ At 139 14 ls (.int (-1) :: st) I J Q := A_iconst (ab_io ci139 (by decide +kernel)) ic_m1
theorem k139_14 : At 139 14 ls (.int x1 :: .int x :: .ref r :: st) I J Q ↔ ((ab_ly r).1 = 1 ∧ r < 75 ∧ 0 ≤ x.toInt ∧ x.toInt < (ab_ly r).2) ∧ At 139 15 ls st (va_up I r (va_up (I r) x.toNatClampNeg x1)) J Q := A_iastore (ab_io ci139 (by decide +kernel))
theorem k139_15 : At 139 15 [a0, some (.int x), a2, a3, a4, a5] st I J Q ↔ At 139 18 [ab_nv a0, some (.int (x + (nI 1))), a2, a3, a4, a5] st I J Q := A_iinc (q := 1) (ab_io ci139 (by decide +kernel)) ic_1 (Nat.le_of_ble_eq_true rfl) rfl rfl
theorem k139_18 : At 139 18 ls st I J Q ↔ At 139 2 ls st I J Q := A_goto (o := (-16)) (ab_io ci139 (by decide +kernel)) (by decide)
theorem k139_21 : At 139 21 ls st I J Q ↔ At 139 22 ls (.int (nI 0) :: st) I J Q := A_iconst (ab_io ci139 (by decide +kernel)) ic_0
theorem k139_22 : At 139 22 [a0, a1, a2, a3, a4, a5] (.int x :: st) I J Q ↔ At 139 23 [ab_nv a0, some (.int x), a2, a3, a4, a5] st I J Q := A_istore_n (q := 1) (ab_io ci139 (by decide +kernel)) (Nat.le_of_ble_eq_true rfl) rfl
theorem k139_23 : At 139 23 [a0, some (.int x), a2, a3, a4, a5] st I J Q ↔ At 139 24 [a0, some (.int x), a2, a3, a4, a5] (.int x :: st) I J Q := A_iload_n (q := 1) (ab_io ci139 (by decide +kernel)) rfl
theorem k139_24 : At 139 24 ls st I J Q ↔ At 139 26 ls (.int (nI 48) :: st) I J Q := A_bipush (ab_io ci139 (by decide +kernel)) bc_48
theorem k139_26 : At 139 26 ls (.int x1 :: .int x :: st) I J Q ↔ if x1 ≤ x then At 139 59 ls st I J Q else At 139 29 ls st I J Q := A_if_icmp_ge (o := 33) (ab_io ci139 (by decide +kernel)) (by decide)
theorem k139_29 : At 139 29 [some (.ref r), a1, a2, a3, a4, a5] st I J Q ↔ At 139 30 [some (.ref r), a1, a2, a3, a4, a5] (.ref r :: st) I J Q := A_aload_n (q := 0) (ab_io ci139 (by decide +kernel)) rfl
theorem k139_30 : At 139 30 ls (.ref 49 :: st) I J Q ↔ At 139 33 ls (.ref 55 :: st) I J Q := A_getR (ab_io ci139 (by decide +kernel)) ow139 fq8_29_49
theorem k139_33 : At 139 33 [a0, some (.int x), a2, a3, a4, a5] st I J Q ↔ At 139 34 [a0, some (.int x), a2, a3, a4, a5] (.int x :: st) I J Q := A_iload_n (q := 1) (ab_io ci139 (by decide +kernel)) rfl
theorem k139_34 : At 139 34 ls (.int x :: .ref r :: st) I J Q ↔ ((ab_ly r).1 = 1 ∧ r < 75 ∧ 0 ≤ x.toInt ∧ x.toInt < (ab_ly r).2) ∧ At 139 35 ls (.int (I r x.toNatClampNeg) :: st) I J Q := A_iaload (ab_io ci139 (by decide +kernel))
theorem k139_35 : At 139 35 ls st I J Q ↔ At 139 36 ls (.int (-1) :: st) I J Q := A_iconst (ab_io ci139 (by decide +kernel)) ic_m1
theorem k139_36 : At 139 36 ls (.int x1 :: .int x :: st) I J Q ↔ if x = x1 then At 139 53 ls st I J Q else At 139 39 ls st I J Q := A_if_icmp_eq (o := 17) (ab_io ci139 (by decide +kernel)) (by decide)
theorem k139_39 : At 139 39 [some (.ref r), a1, a2, a3, a4, a5] st I J Q ↔ At 139 40 [some (.ref r), a1, a2, a3, a4, a5] (.ref r :: st) I J Q := A_aload_n (q := 0) (ab_io ci139 (by decide +kernel)) rfl
theorem k139_40 : At 139 40 ls (.ref 49 :: st) I J Q ↔ At 139 43 ls (.ref 57 :: st) I J Q := A_getR (ab_io ci139 (by decide +kernel)) ow139 fq8_35_49
theorem k139_43 : At 139 43 ls st I J Q ↔ At 139 45 ls (.int (nI 12) :: st) I J Q := A_bipush (ab_io ci139 (by decide +kernel)) bc_12
theorem k139_45 : At 139 45 [a0, some (.int x), a2, a3, a4, a5] st I J Q ↔ At 139 46 [a0, some (.int x), a2, a3, a4, a5] (.int x :: st) I J Q := A_iload_n (q := 1) (ab_io ci139 (by decide +kernel)) rfl
theorem k139_46 : At 139 46 ls st I J Q ↔ At 139 47 ls (.int (nI 4) :: st) I J Q := A_iconst (ab_io ci139 (by decide +kernel)) ic_4
theorem k139_47 : At 139 47 ls (.int x1 :: .int x :: st) I J Q ↔ ¬ x1 = 0 ∧ At 139 48 ls (.int (x - x / x1 * x1) :: st) I J Q := A_irem (ab_io ci139 (by decide +kernel))
theorem k139_48 : At 139 48 ls (.int x1 :: .int x :: st) I J Q ↔ At 139 49 ls (.int (x + x1) :: st) I J Q := A_iadd (ab_io ci139 (by decide +kernel))
theorem k139_49 : At 139 49 [a0, some (.int x), a2, a3, a4, a5] st I J Q ↔ At 139 50 [a0, some (.int x), a2, a3, a4, a5] (.int x :: st) I J Q := A_iload_n (q := 1) (ab_io ci139 (by decide +kernel)) rfl
theorem k139_50 : At 139 50 ls st I J Q ↔ At 139 51 ls (.int (nI 4) :: st) I J Q := A_iconst (ab_io ci139 (by decide +kernel)) ic_4
theorem k139_51 : At 139 51 ls (.int x1 :: .int x :: st) I J Q ↔ ¬ x1 = 0 ∧ At 139 52 ls (.int (x - x / x1 * x1) :: st) I J Q := A_irem (ab_io ci139 (by decide +kernel))
theorem k139_52 : At 139 52 ls (.int x1 :: .int x :: .ref r :: st) I J Q ↔ ((ab_ly r).1 = 1 ∧ r < 75 ∧ 0 ≤ x.toInt ∧ x.toInt < (ab_ly r).2) ∧ At 139 53 ls st (va_up I r (va_up (I r) x.toNatClampNeg x1)) J Q := A_iastore (ab_io ci139 (by decide +kernel))
theorem k139_53 : At 139 53 [a0, some (.int x), a2, a3, a4, a5] st I J Q ↔ At 139 56 [ab_nv a0, some (.int (x + (nI 1))), a2, a3, a4, a5] st I J Q := A_iinc (q := 1) (ab_io ci139 (by decide +kernel)) ic_1 (Nat.le_of_ble_eq_true rfl) rfl rfl
theorem k139_56 : At 139 56 ls st I J Q ↔ At 139 23 ls st I J Q := A_goto (o := (-33)) (ab_io ci139 (by decide +kernel)) (by decide)
theorem k139_59 : At 139 59 ls st I J Q ↔ At 139 60 ls (.int (nI 1) :: st) I J Q := A_iconst (ab_io ci139 (by decide +kernel)) ic_1
theorem k139_60 : At 139 60 [a0, a1, a2, a3, a4, a5] (.int x :: st) I J Q ↔ At 139 61 [ab_nv a0, some (.int x), a2, a3, a4, a5] st I J Q := A_istore_n (q := 1) (ab_io ci139 (by decide +kernel)) (Nat.le_of_ble_eq_true rfl) rfl
theorem k139_61 : At 139 61 [a0, some (.int x), a2, a3, a4, a5] st I J Q ↔ At 139 62 [a0, some (.int x), a2, a3, a4, a5] (.int x :: st) I J Q := A_iload_n (q := 1) (ab_io ci139 (by decide +kernel)) rfl
theorem k139_62 : At 139 62 ls (.int x :: st) I J Q ↔ if x = 0 then At 139 185 ls st I J Q else At 139 65 ls st I J Q := A_ifCond_eq (o := 123) (ab_io ci139 (by decide +kernel)) (by decide)
theorem k139_65 : At 139 65 ls st I J Q ↔ At 139 66 ls (.int (nI 0) :: st) I J Q := A_iconst (ab_io ci139 (by decide +kernel)) ic_0
theorem k139_66 : At 139 66 [a0, a1, a2, a3, a4, a5] (.int x :: st) I J Q ↔ At 139 67 [ab_nv a0, some (.int x), a2, a3, a4, a5] st I J Q := A_istore_n (q := 1) (ab_io ci139 (by decide +kernel)) (Nat.le_of_ble_eq_true rfl) rfl
theorem k139_67 : At 139 67 ls st I J Q ↔ At 139 68 ls (.int (nI 0) :: st) I J Q := A_iconst (ab_io ci139 (by decide +kernel)) ic_0
theorem k139_68 : At 139 68 [a0, a1, a2, a3, a4, a5] (.int x :: st) I J Q ↔ At 139 69 [a0, ab_nv a1, some (.int x), a3, a4, a5] st I J Q := A_istore_n (q := 2) (ab_io ci139 (by decide +kernel)) (Nat.le_of_ble_eq_true rfl) rfl
theorem k139_69 : At 139 69 [a0, a1, some (.int x), a3, a4, a5] st I J Q ↔ At 139 70 [a0, a1, some (.int x), a3, a4, a5] (.int x :: st) I J Q := A_iload_n (q := 2) (ab_io ci139 (by decide +kernel)) rfl
theorem k139_70 : At 139 70 ls st I J Q ↔ At 139 72 ls (.int (nI 48) :: st) I J Q := A_bipush (ab_io ci139 (by decide +kernel)) bc_48
theorem k139_72 : At 139 72 ls (.int x1 :: .int x :: st) I J Q ↔ if x1 ≤ x then At 139 182 ls st I J Q else At 139 75 ls st I J Q := A_if_icmp_ge (o := 110) (ab_io ci139 (by decide +kernel)) (by decide)
theorem k139_75 : At 139 75 [a0, a1, some (.int x), a3, a4, a5] st I J Q ↔ At 139 76 [a0, a1, some (.int x), a3, a4, a5] (.int x :: st) I J Q := A_iload_n (q := 2) (ab_io ci139 (by decide +kernel)) rfl
theorem k139_76 : At 139 76 ls st I J Q ↔ At 139 77 ls (.int (nI 4) :: st) I J Q := A_iconst (ab_io ci139 (by decide +kernel)) ic_4
theorem k139_77 : At 139 77 ls (.int x1 :: .int x :: st) I J Q ↔ ¬ x1 = 0 ∧ At 139 78 ls (.int (x / x1) :: st) I J Q := A_idiv (ab_io ci139 (by decide +kernel))
theorem k139_78 : At 139 78 [a0, a1, a2, a3, a4, a5] (.int x :: st) I J Q ↔ At 139 79 [a0, a1, ab_nv a2, some (.int x), a4, a5] st I J Q := A_istore_n (q := 3) (ab_io ci139 (by decide +kernel)) (Nat.le_of_ble_eq_true rfl) rfl
theorem k139_79 : At 139 79 ls st I J Q ↔ At 139 81 ls (.int (nI 12) :: st) I J Q := A_bipush (ab_io ci139 (by decide +kernel)) bc_12
theorem k139_81 : At 139 81 [a0, a1, some (.int x), a3, a4, a5] st I J Q ↔ At 139 82 [a0, a1, some (.int x), a3, a4, a5] (.int x :: st) I J Q := A_iload_n (q := 2) (ab_io ci139 (by decide +kernel)) rfl
theorem k139_82 : At 139 82 ls st I J Q ↔ At 139 83 ls (.int (nI 4) :: st) I J Q := A_iconst (ab_io ci139 (by decide +kernel)) ic_4
theorem k139_83 : At 139 83 ls (.int x1 :: .int x :: st) I J Q ↔ ¬ x1 = 0 ∧ At 139 84 ls (.int (x - x / x1 * x1) :: st) I J Q := A_irem (ab_io ci139 (by decide +kernel))
theorem k139_84 : At 139 84 ls (.int x1 :: .int x :: st) I J Q ↔ At 139 85 ls (.int (x + x1) :: st) I J Q := A_iadd (ab_io ci139 (by decide +kernel))
theorem k139_85 : At 139 85 [a0, a1, a2, a3, a4, a5] (.int x :: st) I J Q ↔ At 139 87 [a0, a1, a2, ab_nv a3, some (.int x), a5] st I J Q := A_istore (q := 4) (ab_io ci139 (by decide +kernel)) (Nat.le_of_ble_eq_true rfl) rfl
theorem k139_87 : At 139 87 [some (.ref r), a1, a2, a3, a4, a5] st I J Q ↔ At 139 88 [some (.ref r), a1, a2, a3, a4, a5] (.ref r :: st) I J Q := A_aload_n (q := 0) (ab_io ci139 (by decide +kernel)) rfl
theorem k139_88 : At 139 88 ls (.ref 49 :: st) I J Q ↔ At 139 91 ls (.ref 55 :: st) I J Q := A_getR (ab_io ci139 (by decide +kernel)) ow139 fq8_29_49
theorem k139_91 : At 139 91 [a0, a1, some (.int x), a3, a4, a5] st I J Q ↔ At 139 92 [a0, a1, some (.int x), a3, a4, a5] (.int x :: st) I J Q := A_iload_n (q := 2) (ab_io ci139 (by decide +kernel)) rfl
theorem k139_92 : At 139 92 ls (.int x :: .ref r :: st) I J Q ↔ ((ab_ly r).1 = 1 ∧ r < 75 ∧ 0 ≤ x.toInt ∧ x.toInt < (ab_ly r).2) ∧ At 139 93 ls (.int (I r x.toNatClampNeg) :: st) I J Q := A_iaload (ab_io ci139 (by decide +kernel))
theorem k139_93 : At 139 93 ls st I J Q ↔ At 139 94 ls (.int (-1) :: st) I J Q := A_iconst (ab_io ci139 (by decide +kernel)) ic_m1
theorem k139_94 : At 139 94 ls (.int x1 :: .int x :: st) I J Q ↔ if x = x1 then At 139 176 ls st I J Q else At 139 97 ls st I J Q := A_if_icmp_eq (o := 82) (ab_io ci139 (by decide +kernel)) (by decide)
theorem k139_97 : At 139 97 [some (.ref r), a1, a2, a3, a4, a5] st I J Q ↔ At 139 98 [some (.ref r), a1, a2, a3, a4, a5] (.ref r :: st) I J Q := A_aload_n (q := 0) (ab_io ci139 (by decide +kernel)) rfl
theorem k139_98 : At 139 98 ls (.ref 49 :: st) I J Q ↔ At 139 101 ls (.ref 57 :: st) I J Q := A_getR (ab_io ci139 (by decide +kernel)) ow139 fq8_35_49
theorem k139_101 : At 139 101 [a0, a1, a2, some (.int x), a4, a5] st I J Q ↔ At 139 102 [a0, a1, a2, some (.int x), a4, a5] (.int x :: st) I J Q := A_iload_n (q := 3) (ab_io ci139 (by decide +kernel)) rfl
theorem k139_102 : At 139 102 ls (.int x :: .ref r :: st) I J Q ↔ ((ab_ly r).1 = 1 ∧ r < 75 ∧ 0 ≤ x.toInt ∧ x.toInt < (ab_ly r).2) ∧ At 139 103 ls (.int (I r x.toNatClampNeg) :: st) I J Q := A_iaload (ab_io ci139 (by decide +kernel))
theorem k139_103 : At 139 103 [some (.ref r), a1, a2, a3, a4, a5] st I J Q ↔ At 139 104 [some (.ref r), a1, a2, a3, a4, a5] (.ref r :: st) I J Q := A_aload_n (q := 0) (ab_io ci139 (by decide +kernel)) rfl
theorem k139_104 : At 139 104 ls (.ref 49 :: st) I J Q ↔ At 139 107 ls (.ref 57 :: st) I J Q := A_getR (ab_io ci139 (by decide +kernel)) ow139 fq8_35_49
theorem k139_107 : At 139 107 [a0, a1, a2, a3, some (.int x), a5] st I J Q ↔ At 139 109 [a0, a1, a2, a3, some (.int x), a5] (.int x :: st) I J Q := A_iload (q := 4) (ab_io ci139 (by decide +kernel)) rfl
theorem k139_109 : At 139 109 ls (.int x :: .ref r :: st) I J Q ↔ ((ab_ly r).1 = 1 ∧ r < 75 ∧ 0 ≤ x.toInt ∧ x.toInt < (ab_ly r).2) ∧ At 139 110 ls (.int (I r x.toNatClampNeg) :: st) I J Q := A_iaload (ab_io ci139 (by decide +kernel))
theorem k139_110 : At 139 110 ls (.int x1 :: .int x :: st) I J Q ↔ if x = x1 then At 139 176 ls st I J Q else At 139 113 ls st I J Q := A_if_icmp_eq (o := 66) (ab_io ci139 (by decide +kernel)) (by decide)
theorem k139_113 : At 139 113 [some (.ref r), a1, a2, a3, a4, a5] st I J Q ↔ At 139 114 [some (.ref r), a1, a2, a3, a4, a5] (.ref r :: st) I J Q := A_aload_n (q := 0) (ab_io ci139 (by decide +kernel)) rfl
theorem k139_114 : At 139 114 ls (.ref 49 :: st) I J Q ↔ At 139 117 ls (.ref 57 :: st) I J Q := A_getR (ab_io ci139 (by decide +kernel)) ow139 fq8_35_49
theorem k139_117 : At 139 117 [a0, a1, a2, some (.int x), a4, a5] st I J Q ↔ At 139 118 [a0, a1, a2, some (.int x), a4, a5] (.int x :: st) I J Q := A_iload_n (q := 3) (ab_io ci139 (by decide +kernel)) rfl
theorem k139_118 : At 139 118 ls (.int x :: .ref r :: st) I J Q ↔ ((ab_ly r).1 = 1 ∧ r < 75 ∧ 0 ≤ x.toInt ∧ x.toInt < (ab_ly r).2) ∧ At 139 119 ls (.int (I r x.toNatClampNeg) :: st) I J Q := A_iaload (ab_io ci139 (by decide +kernel))
theorem k139_119 : At 139 119 ls st I J Q ↔ At 139 120 ls (.int (-1) :: st) I J Q := A_iconst (ab_io ci139 (by decide +kernel)) ic_m1
theorem k139_120 : At 139 120 ls (.int x1 :: .int x :: st) I J Q ↔ if x = x1 then At 139 139 ls st I J Q else At 139 123 ls st I J Q := A_if_icmp_eq (o := 19) (ab_io ci139 (by decide +kernel)) (by decide)
theorem k139_123 : At 139 123 [some (.ref r), a1, a2, a3, a4, a5] st I J Q ↔ At 139 124 [some (.ref r), a1, a2, a3, a4, a5] (.ref r :: st) I J Q := A_aload_n (q := 0) (ab_io ci139 (by decide +kernel)) rfl
theorem k139_124 : At 139 124 ls (.ref 49 :: st) I J Q ↔ At 139 127 ls (.ref 57 :: st) I J Q := A_getR (ab_io ci139 (by decide +kernel)) ow139 fq8_35_49
theorem k139_127 : At 139 127 [a0, a1, a2, a3, some (.int x), a5] st I J Q ↔ At 139 129 [a0, a1, a2, a3, some (.int x), a5] (.int x :: st) I J Q := A_iload (q := 4) (ab_io ci139 (by decide +kernel)) rfl
theorem k139_129 : At 139 129 ls (.int x :: .ref r :: st) I J Q ↔ ((ab_ly r).1 = 1 ∧ r < 75 ∧ 0 ≤ x.toInt ∧ x.toInt < (ab_ly r).2) ∧ At 139 130 ls (.int (I r x.toNatClampNeg) :: st) I J Q := A_iaload (ab_io ci139 (by decide +kernel))
theorem k139_130 : At 139 130 [some (.ref r), a1, a2, a3, a4, a5] st I J Q ↔ At 139 131 [some (.ref r), a1, a2, a3, a4, a5] (.ref r :: st) I J Q := A_aload_n (q := 0) (ab_io ci139 (by decide +kernel)) rfl
theorem k139_131 : At 139 131 ls (.ref 49 :: st) I J Q ↔ At 139 134 ls (.ref 57 :: st) I J Q := A_getR (ab_io ci139 (by decide +kernel)) ow139 fq8_35_49
theorem k139_134 : At 139 134 [a0, a1, a2, some (.int x), a4, a5] st I J Q ↔ At 139 135 [a0, a1, a2, some (.int x), a4, a5] (.int x :: st) I J Q := A_iload_n (q := 3) (ab_io ci139 (by decide +kernel)) rfl
theorem k139_135 : At 139 135 ls (.int x :: .ref r :: st) I J Q ↔ ((ab_ly r).1 = 1 ∧ r < 75 ∧ 0 ≤ x.toInt ∧ x.toInt < (ab_ly r).2) ∧ At 139 136 ls (.int (I r x.toNatClampNeg) :: st) I J Q := A_iaload (ab_io ci139 (by decide +kernel))
theorem k139_136 : At 139 136 ls (.int x1 :: .int x :: st) I J Q ↔ if x1 ≤ x then At 139 149 ls st I J Q else At 139 139 ls st I J Q := A_if_icmp_ge (o := 13) (ab_io ci139 (by decide +kernel)) (by decide)
theorem k139_139 : At 139 139 [some (.ref r), a1, a2, a3, a4, a5] st I J Q ↔ At 139 140 [some (.ref r), a1, a2, a3, a4, a5] (.ref r :: st) I J Q := A_aload_n (q := 0) (ab_io ci139 (by decide +kernel)) rfl
theorem k139_140 : At 139 140 ls (.ref 49 :: st) I J Q ↔ At 139 143 ls (.ref 57 :: st) I J Q := A_getR (ab_io ci139 (by decide +kernel)) ow139 fq8_35_49
theorem k139_143 : At 139 143 [a0, a1, a2, a3, some (.int x), a5] st I J Q ↔ At 139 145 [a0, a1, a2, a3, some (.int x), a5] (.int x :: st) I J Q := A_iload (q := 4) (ab_io ci139 (by decide +kernel)) rfl
theorem k139_145 : At 139 145 ls (.int x :: .ref r :: st) I J Q ↔ ((ab_ly r).1 = 1 ∧ r < 75 ∧ 0 ≤ x.toInt ∧ x.toInt < (ab_ly r).2) ∧ At 139 146 ls (.int (I r x.toNatClampNeg) :: st) I J Q := A_iaload (ab_io ci139 (by decide +kernel))
theorem k139_146 : At 139 146 ls st I J Q ↔ At 139 155 ls st I J Q := A_goto (o := 9) (ab_io ci139 (by decide +kernel)) (by decide)
theorem k139_149 : At 139 149 [some (.ref r), a1, a2, a3, a4, a5] st I J Q ↔ At 139 150 [some (.ref r), a1, a2, a3, a4, a5] (.ref r :: st) I J Q := A_aload_n (q := 0) (ab_io ci139 (by decide +kernel)) rfl
theorem k139_150 : At 139 150 ls (.ref 49 :: st) I J Q ↔ At 139 153 ls (.ref 57 :: st) I J Q := A_getR (ab_io ci139 (by decide +kernel)) ow139 fq8_35_49
theorem k139_153 : At 139 153 [a0, a1, a2, some (.int x), a4, a5] st I J Q ↔ At 139 154 [a0, a1, a2, some (.int x), a4, a5] (.int x :: st) I J Q := A_iload_n (q := 3) (ab_io ci139 (by decide +kernel)) rfl
theorem k139_154 : At 139 154 ls (.int x :: .ref r :: st) I J Q ↔ ((ab_ly r).1 = 1 ∧ r < 75 ∧ 0 ≤ x.toInt ∧ x.toInt < (ab_ly r).2) ∧ At 139 155 ls (.int (I r x.toNatClampNeg) :: st) I J Q := A_iaload (ab_io ci139 (by decide +kernel))
theorem k139_155 : At 139 155 [a0, a1, a2, a3, a4, a5] (.int x :: st) I J Q ↔ At 139 157 [a0, a1, a2, a3, ab_nv a4, some (.int x)] st I J Q := A_istore (q := 5) (ab_io ci139 (by decide +kernel)) (Nat.le_of_ble_eq_true rfl) rfl
theorem k139_157 : At 139 157 [some (.ref r), a1, a2, a3, a4, a5] st I J Q ↔ At 139 158 [some (.ref r), a1, a2, a3, a4, a5] (.ref r :: st) I J Q := A_aload_n (q := 0) (ab_io ci139 (by decide +kernel)) rfl
theorem k139_158 : At 139 158 ls (.ref 49 :: st) I J Q ↔ At 139 161 ls (.ref 57 :: st) I J Q := A_getR (ab_io ci139 (by decide +kernel)) ow139 fq8_35_49
theorem k139_161 : At 139 161 [a0, a1, a2, some (.int x), a4, a5] st I J Q ↔ At 139 162 [a0, a1, a2, some (.int x), a4, a5] (.int x :: st) I J Q := A_iload_n (q := 3) (ab_io ci139 (by decide +kernel)) rfl
theorem k139_162 : At 139 162 [a0, a1, a2, a3, a4, some (.int x)] st I J Q ↔ At 139 164 [a0, a1, a2, a3, a4, some (.int x)] (.int x :: st) I J Q := A_iload (q := 5) (ab_io ci139 (by decide +kernel)) rfl
theorem k139_164 : At 139 164 ls (.int x1 :: .int x :: .ref r :: st) I J Q ↔ ((ab_ly r).1 = 1 ∧ r < 75 ∧ 0 ≤ x.toInt ∧ x.toInt < (ab_ly r).2) ∧ At 139 165 ls st (va_up I r (va_up (I r) x.toNatClampNeg x1)) J Q := A_iastore (ab_io ci139 (by decide +kernel))
theorem k139_165 : At 139 165 [some (.ref r), a1, a2, a3, a4, a5] st I J Q ↔ At 139 166 [some (.ref r), a1, a2, a3, a4, a5] (.ref r :: st) I J Q := A_aload_n (q := 0) (ab_io ci139 (by decide +kernel)) rfl
theorem k139_166 : At 139 166 ls (.ref 49 :: st) I J Q ↔ At 139 169 ls (.ref 57 :: st) I J Q := A_getR (ab_io ci139 (by decide +kernel)) ow139 fq8_35_49
theorem k139_169 : At 139 169 [a0, a1, a2, a3, some (.int x), a5] st I J Q ↔ At 139 171 [a0, a1, a2, a3, some (.int x), a5] (.int x :: st) I J Q := A_iload (q := 4) (ab_io ci139 (by decide +kernel)) rfl
theorem k139_171 : At 139 171 [a0, a1, a2, a3, a4, some (.int x)] st I J Q ↔ At 139 173 [a0, a1, a2, a3, a4, some (.int x)] (.int x :: st) I J Q := A_iload (q := 5) (ab_io ci139 (by decide +kernel)) rfl
theorem k139_173 : At 139 173 ls (.int x1 :: .int x :: .ref r :: st) I J Q ↔ ((ab_ly r).1 = 1 ∧ r < 75 ∧ 0 ≤ x.toInt ∧ x.toInt < (ab_ly r).2) ∧ At 139 174 ls st (va_up I r (va_up (I r) x.toNatClampNeg x1)) J Q := A_iastore (ab_io ci139 (by decide +kernel))
theorem k139_174 : At 139 174 ls st I J Q ↔ At 139 175 ls (.int (nI 1) :: st) I J Q := A_iconst (ab_io ci139 (by decide +kernel)) ic_1
theorem k139_175 : At 139 175 [a0, a1, a2, a3, a4, a5] (.int x :: st) I J Q ↔ At 139 176 [ab_nv a0, some (.int x), a2, a3, a4, a5] st I J Q := A_istore_n (q := 1) (ab_io ci139 (by decide +kernel)) (Nat.le_of_ble_eq_true rfl) rfl
theorem k139_176 : At 139 176 [a0, a1, some (.int x), a3, a4, a5] st I J Q ↔ At 139 179 [a0, ab_nv a1, some (.int (x + (nI 1))), a3, a4, a5] st I J Q := A_iinc (q := 2) (ab_io ci139 (by decide +kernel)) ic_1 (Nat.le_of_ble_eq_true rfl) rfl rfl
theorem k139_179 : At 139 179 ls st I J Q ↔ At 139 69 ls st I J Q := A_goto (o := (-110)) (ab_io ci139 (by decide +kernel)) (by decide)
theorem k139_182 : At 139 182 ls st I J Q ↔ At 139 61 ls st I J Q := A_goto (o := (-121)) (ab_io ci139 (by decide +kernel)) (by decide)
theorem k139_185 : At 139 185 ls [] I J Q ↔ Q none I J := A_vret (ab_io ci139 (by decide +kernel)) rt139
theorem k140_0 : At 140 0 [some (.ref r), a1, a2] st I J Q ↔ At 140 1 [some (.ref r), a1, a2] (.ref r :: st) I J Q := A_aload_n (q := 0) (ab_io ci140 (by decide +kernel)) rfl
theorem k140_1 : At 140 1 ls (.ref 49 :: st) I J Q ↔ At 140 4 ls (.ref 55 :: st) I J Q := A_getR (ab_io ci140 (by decide +kernel)) ow140 fq8_29_49
theorem k140_4 : At 140 4 ls st I J Q ↔ At 140 5 ls (.int (nI 4) :: st) I J Q := A_iconst (ab_io ci140 (by decide +kernel)) ic_4
theorem k140_5 : At 140 5 [a0, some (.int x), a2] st I J Q ↔ At 140 6 [a0, some (.int x), a2] (.int x :: st) I J Q := A_iload_n (q := 1) (ab_io ci140 (by decide +kernel)) rfl
theorem k140_6 : At 140 6 ls (.int x1 :: .int x :: st) I J Q ↔ At 140 7 ls (.int (x * x1) :: st) I J Q := A_imul (ab_io ci140 (by decide +kernel))
theorem k140_7 : At 140 7 [a0, a1, some (.int x)] st I J Q ↔ At 140 8 [a0, a1, some (.int x)] (.int x :: st) I J Q := A_iload_n (q := 2) (ab_io ci140 (by decide +kernel)) rfl
theorem k140_8 : At 140 8 ls (.int x1 :: .int x :: st) I J Q ↔ At 140 9 ls (.int (x + x1) :: st) I J Q := A_iadd (ab_io ci140 (by decide +kernel))
theorem k140_9 : At 140 9 ls (.int x :: .ref r :: st) I J Q ↔ ((ab_ly r).1 = 1 ∧ r < 75 ∧ 0 ≤ x.toInt ∧ x.toInt < (ab_ly r).2) ∧ At 140 10 ls (.int (I r x.toNatClampNeg) :: st) I J Q := A_iaload (ab_io ci140 (by decide +kernel))
theorem k140_10 : At 140 10 ls [.int x] I J Q ↔ Q (some (.int x)) I J := A_iret (ab_io ci140 (by decide +kernel)) rt140
theorem k141_0 : At 141 0 [a0, some (.int x), a2] st I J Q ↔ At 141 1 [a0, some (.int x), a2] (.int x :: st) I J Q := A_iload_n (q := 1) (ab_io ci141 (by decide +kernel)) rfl
theorem k141_1 : At 141 1 ls [.int p0] I J Q ↔ Cal 131 [.int p0] I J (fun v I' J' => At 141 4 ls (v.toList ++ []) I' J' Q) := A_cal (kd := 1) (j := 108) (na := 1) (ea := 1) (rk := 0) (by decide +kernel) rfl rfl rfl (Or.inl rfl) (Nat.le_of_ble_eq_true rfl)
theorem k141_4 : At 141 4 ls (.int x :: st) I J Q ↔ if x = 0 then At 141 14 ls st I J Q else At 141 7 ls st I J Q := A_ifCond_eq (o := 10) (ab_io ci141 (by decide +kernel)) (by decide)
theorem k141_7 : At 141 7 [a0, a1, some (.int x)] st I J Q ↔ At 141 8 [a0, a1, some (.int x)] (.int x :: st) I J Q := A_iload_n (q := 2) (ab_io ci141 (by decide +kernel)) rfl
theorem k141_8 : At 141 8 ls [.int p0] I J Q ↔ Cal 132 [.int p0] I J (fun v I' J' => At 141 11 ls (v.toList ++ []) I' J' Q) := A_cal (kd := 1) (j := 112) (na := 1) (ea := 1) (rk := 0) (by decide +kernel) rfl rfl rfl (Or.inl rfl) (Nat.le_of_ble_eq_true rfl)
theorem k141_11 : At 141 11 ls (.int x :: st) I J Q ↔ if ¬ x = 0 then At 141 17 ls st I J Q else At 141 14 ls st I J Q := A_ifCond_ne (o := 6) (ab_io ci141 (by decide +kernel)) (by decide)
theorem k141_14 : At 141 14 ls st I J Q ↔ At 141 16 ls (.int (-2) :: st) I J Q := A_bipush (ab_io ci141 (by decide +kernel)) bc_m2
theorem k141_16 : At 141 16 ls [.int x] I J Q ↔ Q (some (.int x)) I J := A_iret (ab_io ci141 (by decide +kernel)) rt141
theorem k141_17 : At 141 17 [some (.ref r), a1, a2] st I J Q ↔ At 141 18 [some (.ref r), a1, a2] (.ref r :: st) I J Q := A_aload_n (q := 0) (ab_io ci141 (by decide +kernel)) rfl
theorem k141_18 : At 141 18 ls [.ref 49] I J Q ↔ Cal 138 [.ref 49] I J (fun v I' J' => At 141 21 ls (v.toList ++ []) I' J' Q) := A_cal (kd := 0) (j := 133) (na := 1) (ea := 1) (rk := 49) (by decide +kernel) rfl rfl rfl (Or.inr rfl) (Nat.le_of_ble_eq_true rfl)
theorem k141_21 : At 141 21 [some (.ref r), a1, a2] st I J Q ↔ At 141 22 [some (.ref r), a1, a2] (.ref r :: st) I J Q := A_aload_n (q := 0) (ab_io ci141 (by decide +kernel)) rfl
theorem k141_22 : At 141 22 [a0, some (.int x), a2] st I J Q ↔ At 141 23 [a0, some (.int x), a2] (.int x :: st) I J Q := A_iload_n (q := 1) (ab_io ci141 (by decide +kernel)) rfl
theorem k141_23 : At 141 23 [a0, a1, some (.int x)] st I J Q ↔ At 141 24 [a0, a1, some (.int x)] (.int x :: st) I J Q := A_iload_n (q := 2) (ab_io ci141 (by decide +kernel)) rfl
theorem k141_24 : At 141 24 ls [.int p0, .int p1, .ref 49] I J Q ↔ Cal 140 [.ref 49, .int p1, .int p0] I J (fun v I' J' => At 141 27 ls (v.toList ++ []) I' J' Q) := A_cal (kd := 0) (j := 136) (na := 3) (ea := 3) (rk := 49) (by decide +kernel) rfl rfl rfl (Or.inr rfl) (Nat.le_of_ble_eq_true rfl)
theorem k141_27 : At 141 27 ls [.int x] I J Q ↔ Q (some (.int x)) I J := A_iret (ab_io ci141 (by decide +kernel)) rt141
theorem k142_0 : At 142 0 [a0, some (.int x), a2] st I J Q ↔ At 142 1 [a0, some (.int x), a2] (.int x :: st) I J Q := A_iload_n (q := 1) (ab_io ci142 (by decide +kernel)) rfl
theorem k142_1 : At 142 1 ls st I J Q ↔ At 142 2 ls (.int (nI 0) :: st) I J Q := A_iconst (ab_io ci142 (by decide +kernel)) ic_0
theorem k142_2 : At 142 2 ls st I J Q ↔ At 142 3 ls (.int (nI 1) :: st) I J Q := A_iconst (ab_io ci142 (by decide +kernel)) ic_1
theorem k142_3 : At 142 3 ls [.int p0, .int p1, .int p2] I J Q ↔ Cal 126 [.int p2, .int p1, .int p0] I J (fun v I' J' => At 142 6 ls (v.toList ++ []) I' J' Q) := A_cal (kd := 1) (j := 101) (na := 3) (ea := 3) (rk := 0) (by decide +kernel) rfl rfl rfl (Or.inl rfl) (Nat.le_of_ble_eq_true rfl)
theorem k142_6 : At 142 6 ls (.int x :: st) I J Q ↔ if x = 0 then At 142 30 ls st I J Q else At 142 9 ls st I J Q := A_ifCond_eq (o := 24) (ab_io ci142 (by decide +kernel)) (by decide)
theorem k142_9 : At 142 9 [a0, some (.int x), a2] st I J Q ↔ At 142 10 [a0, some (.int x), a2] (.int x :: st) I J Q := A_iload_n (q := 1) (ab_io ci142 (by decide +kernel)) rfl
theorem k142_10 : At 142 10 ls (.int x :: st) I J Q ↔ if ¬ x = 0 then At 142 23 ls st I J Q else At 142 13 ls st I J Q := A_ifCond_ne (o := 13) (ab_io ci142 (by decide +kernel)) (by decide)
theorem k142_13 : At 142 13 [a0, a1, some (.int x)] st I J Q ↔ At 142 14 [a0, a1, some (.int x)] (.int x :: st) I J Q := A_iload_n (q := 2) (ab_io ci142 (by decide +kernel)) rfl
theorem k142_14 : At 142 14 ls [.int p0] I J Q ↔ Cal 131 [.int p0] I J (fun v I' J' => At 142 17 ls (v.toList ++ []) I' J' Q) := A_cal (kd := 1) (j := 108) (na := 1) (ea := 1) (rk := 0) (by decide +kernel) rfl rfl rfl (Or.inl rfl) (Nat.le_of_ble_eq_true rfl)
theorem k142_17 : At 142 17 ls (.int x :: st) I J Q ↔ if x = 0 then At 142 30 ls st I J Q else At 142 20 ls st I J Q := A_ifCond_eq (o := 13) (ab_io ci142 (by decide +kernel)) (by decide)
theorem k142_20 : At 142 20 ls st I J Q ↔ At 142 33 ls st I J Q := A_goto (o := 13) (ab_io ci142 (by decide +kernel)) (by decide)
theorem k142_23 : At 142 23 [a0, a1, some (.int x)] st I J Q ↔ At 142 24 [a0, a1, some (.int x)] (.int x :: st) I J Q := A_iload_n (q := 2) (ab_io ci142 (by decide +kernel)) rfl
theorem k142_24 : At 142 24 ls [.int p0] I J Q ↔ Cal 132 [.int p0] I J (fun v I' J' => At 142 27 ls (v.toList ++ []) I' J' Q) := A_cal (kd := 1) (j := 112) (na := 1) (ea := 1) (rk := 0) (by decide +kernel) rfl rfl rfl (Or.inl rfl) (Nat.le_of_ble_eq_true rfl)
theorem k142_27 : At 142 27 ls (.int x :: st) I J Q ↔ if ¬ x = 0 then At 142 33 ls st I J Q else At 142 30 ls st I J Q := A_ifCond_ne (o := 6) (ab_io ci142 (by decide +kernel)) (by decide)
theorem k142_30 : At 142 30 ls st I J Q ↔ At 142 32 ls (.int (-2) :: st) I J Q := A_bipush (ab_io ci142 (by decide +kernel)) bc_m2
theorem k142_32 : At 142 32 ls [.int x] I J Q ↔ Q (some (.int x)) I J := A_iret (ab_io ci142 (by decide +kernel)) rt142
theorem k142_33 : At 142 33 [some (.ref r), a1, a2] st I J Q ↔ At 142 34 [some (.ref r), a1, a2] (.ref r :: st) I J Q := A_aload_n (q := 0) (ab_io ci142 (by decide +kernel)) rfl
theorem k142_34 : At 142 34 ls [.ref 49] I J Q ↔ Cal 138 [.ref 49] I J (fun v I' J' => At 142 37 ls (v.toList ++ []) I' J' Q) := A_cal (kd := 0) (j := 133) (na := 1) (ea := 1) (rk := 49) (by decide +kernel) rfl rfl rfl (Or.inr rfl) (Nat.le_of_ble_eq_true rfl)
theorem k142_37 : At 142 37 [some (.ref r), a1, a2] st I J Q ↔ At 142 38 [some (.ref r), a1, a2] (.ref r :: st) I J Q := A_aload_n (q := 0) (ab_io ci142 (by decide +kernel)) rfl
theorem k142_38 : At 142 38 ls (.ref 49 :: st) I J Q ↔ At 142 41 ls (.ref 57 :: st) I J Q := A_getR (ab_io ci142 (by decide +kernel)) ow142 fq8_35_49
theorem k142_41 : At 142 41 ls st I J Q ↔ At 142 43 ls (.int (nI 12) :: st) I J Q := A_bipush (ab_io ci142 (by decide +kernel)) bc_12
theorem k142_43 : At 142 43 [a0, some (.int x), a2] st I J Q ↔ At 142 44 [a0, some (.int x), a2] (.int x :: st) I J Q := A_iload_n (q := 1) (ab_io ci142 (by decide +kernel)) rfl
theorem k142_44 : At 142 44 ls (.int x1 :: .int x :: st) I J Q ↔ At 142 45 ls (.int (x * x1) :: st) I J Q := A_imul (ab_io ci142 (by decide +kernel))
theorem k142_45 : At 142 45 [a0, a1, some (.int x)] st I J Q ↔ At 142 46 [a0, a1, some (.int x)] (.int x :: st) I J Q := A_iload_n (q := 2) (ab_io ci142 (by decide +kernel)) rfl
theorem k142_46 : At 142 46 ls (.int x1 :: .int x :: st) I J Q ↔ At 142 47 ls (.int (x + x1) :: st) I J Q := A_iadd (ab_io ci142 (by decide +kernel))
theorem k142_47 : At 142 47 ls (.int x :: .ref r :: st) I J Q ↔ ((ab_ly r).1 = 1 ∧ r < 75 ∧ 0 ≤ x.toInt ∧ x.toInt < (ab_ly r).2) ∧ At 142 48 ls (.int (I r x.toNatClampNeg) :: st) I J Q := A_iaload (ab_io ci142 (by decide +kernel))
theorem k142_48 : At 142 48 ls [.int x] I J Q ↔ Q (some (.int x)) I J := A_iret (ab_io ci142 (by decide +kernel)) rt142
theorem k143_0 : At 143 0 ls st I J Q ↔ At 143 1 ls (.int (nI 0) :: st) I J Q := A_iconst (ab_io ci143 (by decide +kernel)) ic_0
theorem k143_1 : At 143 1 [a0, a1, a2, a3] (.int x :: st) I J Q ↔ At 143 2 [a0, ab_nv a1, some (.int x), a3] st I J Q := A_istore_n (q := 2) (ab_io ci143 (by decide +kernel)) (Nat.le_of_ble_eq_true rfl) rfl
theorem k143_2 : At 143 2 ls st I J Q ↔ At 143 3 ls (.int (nI 0) :: st) I J Q := A_iconst (ab_io ci143 (by decide +kernel)) ic_0
theorem k143_3 : At 143 3 [a0, a1, a2, a3] (.int x :: st) I J Q ↔ At 143 4 [a0, a1, ab_nv a2, some (.int x)] st I J Q := A_istore_n (q := 3) (ab_io ci143 (by decide +kernel)) (Nat.le_of_ble_eq_true rfl) rfl
theorem k143_4 : At 143 4 [a0, a1, a2, some (.int x)] st I J Q ↔ At 143 5 [a0, a1, a2, some (.int x)] (.int x :: st) I J Q := A_iload_n (q := 3) (ab_io ci143 (by decide +kernel)) rfl
theorem k143_5 : At 143 5 ls st I J Q ↔ At 143 6 ls (.int (nI 4) :: st) I J Q := A_iconst (ab_io ci143 (by decide +kernel)) ic_4
theorem k143_6 : At 143 6 ls (.int x1 :: .int x :: st) I J Q ↔ if x1 ≤ x then At 143 33 ls st I J Q else At 143 9 ls st I J Q := A_if_icmp_ge (o := 27) (ab_io ci143 (by decide +kernel)) (by decide)
theorem k143_9 : At 143 9 [a0, a1, some (.int x), a3] st I J Q ↔ At 143 10 [a0, a1, some (.int x), a3] (.int x :: st) I J Q := A_iload_n (q := 2) (ab_io ci143 (by decide +kernel)) rfl
theorem k143_10 : At 143 10 [some (.ref r), a1, a2, a3] st I J Q ↔ At 143 11 [some (.ref r), a1, a2, a3] (.ref r :: st) I J Q := A_aload_n (q := 0) (ab_io ci143 (by decide +kernel)) rfl
theorem k143_11 : At 143 11 [a0, some (.int x), a2, a3] st I J Q ↔ At 143 12 [a0, some (.int x), a2, a3] (.int x :: st) I J Q := A_iload_n (q := 1) (ab_io ci143 (by decide +kernel)) rfl
theorem k143_12 : At 143 12 [a0, a1, a2, some (.int x)] st I J Q ↔ At 143 13 [a0, a1, a2, some (.int x)] (.int x :: st) I J Q := A_iload_n (q := 3) (ab_io ci143 (by decide +kernel)) rfl
theorem k143_13 : At 143 13 ls [.int p0, .int p1, .ref 49, .int q0] I J Q ↔ Cal 140 [.ref 49, .int p1, .int p0] I J (fun v I' J' => At 143 16 ls (v.toList ++ [.int q0]) I' J' Q) := A_cal (kd := 0) (j := 136) (na := 3) (ea := 3) (rk := 49) (by decide +kernel) rfl rfl rfl (Or.inr rfl) (Nat.le_of_ble_eq_true rfl)
theorem k143_16 : At 143 16 ls st I J Q ↔ At 143 17 ls (.int (-1) :: st) I J Q := A_iconst (ab_io ci143 (by decide +kernel)) ic_m1
theorem k143_17 : At 143 17 ls (.int x1 :: .int x :: st) I J Q ↔ if ¬ x = x1 then At 143 24 ls st I J Q else At 143 20 ls st I J Q := A_if_icmp_ne (o := 7) (ab_io ci143 (by decide +kernel)) (by decide)
theorem k143_20 : At 143 20 ls st I J Q ↔ At 143 21 ls (.int (nI 0) :: st) I J Q := A_iconst (ab_io ci143 (by decide +kernel)) ic_0
theorem k143_21 : At 143 21 ls st I J Q ↔ At 143 25 ls st I J Q := A_goto (o := 4) (ab_io ci143 (by decide +kernel)) (by decide)
theorem k143_24 : At 143 24 ls st I J Q ↔ At 143 25 ls (.int (nI 1) :: st) I J Q := A_iconst (ab_io ci143 (by decide +kernel)) ic_1
theorem k143_25 : At 143 25 ls (.int x1 :: .int x :: st) I J Q ↔ At 143 26 ls (.int (x + x1) :: st) I J Q := A_iadd (ab_io ci143 (by decide +kernel))
theorem k143_26 : At 143 26 [a0, a1, a2, a3] (.int x :: st) I J Q ↔ At 143 27 [a0, ab_nv a1, some (.int x), a3] st I J Q := A_istore_n (q := 2) (ab_io ci143 (by decide +kernel)) (Nat.le_of_ble_eq_true rfl) rfl
theorem k143_27 : At 143 27 [a0, a1, a2, some (.int x)] st I J Q ↔ At 143 30 [a0, a1, ab_nv a2, some (.int (x + (nI 1)))] st I J Q := A_iinc (q := 3) (ab_io ci143 (by decide +kernel)) ic_1 (Nat.le_of_ble_eq_true rfl) rfl rfl
theorem k143_30 : At 143 30 ls st I J Q ↔ At 143 4 ls st I J Q := A_goto (o := (-26)) (ab_io ci143 (by decide +kernel)) (by decide)
theorem k143_33 : At 143 33 [a0, a1, some (.int x), a3] st I J Q ↔ At 143 34 [a0, a1, some (.int x), a3] (.int x :: st) I J Q := A_iload_n (q := 2) (ab_io ci143 (by decide +kernel)) rfl
theorem k143_34 : At 143 34 ls [.int x] I J Q ↔ Q (some (.int x)) I J := A_iret (ab_io ci143 (by decide +kernel)) rt143
theorem k144_0 : At 144 0 ls st I J Q ↔ At 144 1 ls (.long 1 :: st) I J Q := A_lconst (n := 1) (ab_io ci144 (by decide +kernel)) rfl
theorem k144_1 : At 144 1 [a0, a1, a2, a3, a4, a5, a6] (.long u :: st) I J Q ↔ At 144 2 [a0, ab_nv a1, some (.long u), none, a4, a5, a6] st I J Q := A_lstore_n (q := 2) (ab_io ci144 (by decide +kernel)) (Nat.le_of_ble_eq_true rfl) rfl
theorem k144_2 : At 144 2 ls st I J Q ↔ At 144 3 ls (.int (nI 0) :: st) I J Q := A_iconst (ab_io ci144 (by decide +kernel)) ic_0
theorem k144_3 : At 144 3 [a0, a1, a2, a3, a4, a5, a6] (.int x :: st) I J Q ↔ At 144 5 [a0, a1, a2, ab_nv a3, some (.int x), a5, a6] st I J Q := A_istore (q := 4) (ab_io ci144 (by decide +kernel)) (Nat.le_of_ble_eq_true rfl) rfl
theorem k144_5 : At 144 5 [a0, a1, a2, a3, some (.int x), a5, a6] st I J Q ↔ At 144 7 [a0, a1, a2, a3, some (.int x), a5, a6] (.int x :: st) I J Q := A_iload (q := 4) (ab_io ci144 (by decide +kernel)) rfl
theorem k144_7 : At 144 7 [a0, some (.int x), a2, a3, a4, a5, a6] st I J Q ↔ At 144 8 [a0, some (.int x), a2, a3, a4, a5, a6] (.int x :: st) I J Q := A_iload_n (q := 1) (ab_io ci144 (by decide +kernel)) rfl
theorem k144_8 : At 144 8 ls (.int x1 :: .int x :: st) I J Q ↔ if x1 ≤ x then At 144 167 ls st I J Q else At 144 11 ls st I J Q := A_if_icmp_ge (o := 159) (ab_io ci144 (by decide +kernel)) (by decide)
theorem k144_11 : At 144 11 ls st I J Q ↔ At 144 12 ls (.int (nI 0) :: st) I J Q := A_iconst (ab_io ci144 (by decide +kernel)) ic_0
theorem k144_12 : At 144 12 [a0, a1, a2, a3, a4, a5, a6] (.int x :: st) I J Q ↔ At 144 14 [a0, a1, a2, a3, ab_nv a4, some (.int x), a6] st I J Q := A_istore (q := 5) (ab_io ci144 (by decide +kernel)) (Nat.le_of_ble_eq_true rfl) rfl
theorem k144_14 : At 144 14 [a0, a1, a2, a3, a4, some (.int x), a6] st I J Q ↔ At 144 16 [a0, a1, a2, a3, a4, some (.int x), a6] (.int x :: st) I J Q := A_iload (q := 5) (ab_io ci144 (by decide +kernel)) rfl
theorem k144_16 : At 144 16 [a0, some (.int x), a2, a3, a4, a5, a6] st I J Q ↔ At 144 17 [a0, some (.int x), a2, a3, a4, a5, a6] (.int x :: st) I J Q := A_iload_n (q := 1) (ab_io ci144 (by decide +kernel)) rfl
theorem k144_17 : At 144 17 ls (.int x1 :: .int x :: st) I J Q ↔ if x1 ≤ x then At 144 151 ls st I J Q else At 144 20 ls st I J Q := A_if_icmp_ge (o := 134) (ab_io ci144 (by decide +kernel)) (by decide)
theorem k144_20 : At 144 20 ls st I J Q ↔ At 144 21 ls (.int (nI 3) :: st) I J Q := A_iconst (ab_io ci144 (by decide +kernel)) ic_3
theorem k144_21 : At 144 21 [a0, a1, a2, a3, a4, a5, a6] (.int x :: st) I J Q ↔ At 144 23 [a0, a1, a2, a3, a4, ab_nv a5, some (.int x)] st I J Q := A_istore (q := 6) (ab_io ci144 (by decide +kernel)) (Nat.le_of_ble_eq_true rfl) rfl
theorem k144_23 : At 144 23 [a0, a1, a2, a3, a4, a5, some (.int x)] st I J Q ↔ At 144 25 [a0, a1, a2, a3, a4, a5, some (.int x)] (.int x :: st) I J Q := A_iload (q := 6) (ab_io ci144 (by decide +kernel)) rfl
theorem k144_25 : At 144 25 ls (.int x :: st) I J Q ↔ if x < 0 then At 144 110 ls st I J Q else At 144 28 ls st I J Q := A_ifCond_lt (o := 85) (ab_io ci144 (by decide +kernel)) (by decide)
theorem k144_28 : At 144 28 [a0, a1, a2, a3, a4, some (.int x), a6] st I J Q ↔ At 144 30 [a0, a1, a2, a3, a4, some (.int x), a6] (.int x :: st) I J Q := A_iload (q := 5) (ab_io ci144 (by decide +kernel)) rfl
theorem k144_30 : At 144 30 [a0, a1, a2, a3, some (.int x), a5, a6] st I J Q ↔ At 144 32 [a0, a1, a2, a3, some (.int x), a5, a6] (.int x :: st) I J Q := A_iload (q := 4) (ab_io ci144 (by decide +kernel)) rfl
theorem k144_32 : At 144 32 ls (.int x1 :: .int x :: st) I J Q ↔ if x = x1 then At 144 110 ls st I J Q else At 144 35 ls st I J Q := A_if_icmp_eq (o := 78) (ab_io ci144 (by decide +kernel)) (by decide)
theorem k144_35 : At 144 35 [a0, a1, a2, a3, a4, a5, some (.int x)] st I J Q ↔ At 144 37 [a0, a1, a2, a3, a4, a5, some (.int x)] (.int x :: st) I J Q := A_iload (q := 6) (ab_io ci144 (by decide +kernel)) rfl
theorem k144_37 : At 144 37 [a0, a1, a2, a3, some (.int x), a5, a6] st I J Q ↔ At 144 39 [a0, a1, a2, a3, some (.int x), a5, a6] (.int x :: st) I J Q := A_iload (q := 4) (ab_io ci144 (by decide +kernel)) rfl
theorem k144_39 : At 144 39 ls (.int x1 :: .int x :: st) I J Q ↔ if x = x1 then At 144 104 ls st I J Q else At 144 42 ls st I J Q := A_if_icmp_eq (o := 65) (ab_io ci144 (by decide +kernel)) (by decide)
theorem k144_42 : At 144 42 [some (.ref r), a1, a2, a3, a4, a5, a6] st I J Q ↔ At 144 43 [some (.ref r), a1, a2, a3, a4, a5, a6] (.ref r :: st) I J Q := A_aload_n (q := 0) (ab_io ci144 (by decide +kernel)) rfl
theorem k144_43 : At 144 43 ls (.ref 49 :: st) I J Q ↔ At 144 46 ls (.ref 59 :: st) I J Q := A_getR (ab_io ci144 (by decide +kernel)) ow144 fq8_41_49
theorem k144_46 : At 144 46 ls st I J Q ↔ At 144 47 ls (.int (nI 4) :: st) I J Q := A_iconst (ab_io ci144 (by decide +kernel)) ic_4
theorem k144_47 : At 144 47 [a0, a1, a2, a3, a4, some (.int x), a6] st I J Q ↔ At 144 49 [a0, a1, a2, a3, a4, some (.int x), a6] (.int x :: st) I J Q := A_iload (q := 5) (ab_io ci144 (by decide +kernel)) rfl
theorem k144_49 : At 144 49 ls (.int x1 :: .int x :: st) I J Q ↔ At 144 50 ls (.int (x * x1) :: st) I J Q := A_imul (ab_io ci144 (by decide +kernel))
theorem k144_50 : At 144 50 [a0, a1, a2, a3, a4, a5, some (.int x)] st I J Q ↔ At 144 52 [a0, a1, a2, a3, a4, a5, some (.int x)] (.int x :: st) I J Q := A_iload (q := 6) (ab_io ci144 (by decide +kernel)) rfl
theorem k144_52 : At 144 52 ls (.int x1 :: .int x :: st) I J Q ↔ At 144 53 ls (.int (x + x1) :: st) I J Q := A_iadd (ab_io ci144 (by decide +kernel))
theorem k144_53 : At 144 53 [some (.ref r), a1, a2, a3, a4, a5, a6] st I J Q ↔ At 144 54 [some (.ref r), a1, a2, a3, a4, a5, a6] (.ref r :: st) I J Q := A_aload_n (q := 0) (ab_io ci144 (by decide +kernel)) rfl
theorem k144_54 : At 144 54 ls (.ref 49 :: st) I J Q ↔ At 144 57 ls (.ref 59 :: st) I J Q := A_getR (ab_io ci144 (by decide +kernel)) ow144 fq8_41_49
theorem k144_57 : At 144 57 ls st I J Q ↔ At 144 58 ls (.int (nI 4) :: st) I J Q := A_iconst (ab_io ci144 (by decide +kernel)) ic_4
theorem k144_58 : At 144 58 [a0, a1, a2, a3, a4, some (.int x), a6] st I J Q ↔ At 144 60 [a0, a1, a2, a3, a4, some (.int x), a6] (.int x :: st) I J Q := A_iload (q := 5) (ab_io ci144 (by decide +kernel)) rfl
theorem k144_60 : At 144 60 ls (.int x1 :: .int x :: st) I J Q ↔ At 144 61 ls (.int (x * x1) :: st) I J Q := A_imul (ab_io ci144 (by decide +kernel))
theorem k144_61 : At 144 61 [a0, a1, a2, a3, a4, a5, some (.int x)] st I J Q ↔ At 144 63 [a0, a1, a2, a3, a4, a5, some (.int x)] (.int x :: st) I J Q := A_iload (q := 6) (ab_io ci144 (by decide +kernel)) rfl
theorem k144_63 : At 144 63 ls (.int x1 :: .int x :: st) I J Q ↔ At 144 64 ls (.int (x + x1) :: st) I J Q := A_iadd (ab_io ci144 (by decide +kernel))
theorem k144_64 : At 144 64 ls (.int x :: .ref r :: st) I J Q ↔ ((ab_ly r).1 = 2 ∧ r < 75 ∧ 0 ≤ x.toInt ∧ x.toInt < (ab_ly r).2) ∧ At 144 65 ls (.long (J r x.toNatClampNeg) :: st) I J Q := A_laload (ab_io ci144 (by decide +kernel))
theorem k144_65 : At 144 65 [some (.ref r), a1, a2, a3, a4, a5, a6] st I J Q ↔ At 144 66 [some (.ref r), a1, a2, a3, a4, a5, a6] (.ref r :: st) I J Q := A_aload_n (q := 0) (ab_io ci144 (by decide +kernel)) rfl
theorem k144_66 : At 144 66 ls (.ref 49 :: st) I J Q ↔ At 144 69 ls (.ref 59 :: st) I J Q := A_getR (ab_io ci144 (by decide +kernel)) ow144 fq8_41_49
theorem k144_69 : At 144 69 ls st I J Q ↔ At 144 70 ls (.int (nI 5) :: st) I J Q := A_iconst (ab_io ci144 (by decide +kernel)) ic_5
theorem k144_70 : At 144 70 [a0, a1, a2, a3, some (.int x), a5, a6] st I J Q ↔ At 144 72 [a0, a1, a2, a3, some (.int x), a5, a6] (.int x :: st) I J Q := A_iload (q := 4) (ab_io ci144 (by decide +kernel)) rfl
theorem k144_72 : At 144 72 ls (.int x1 :: .int x :: st) I J Q ↔ At 144 73 ls (.int (x * x1) :: st) I J Q := A_imul (ab_io ci144 (by decide +kernel))
theorem k144_73 : At 144 73 ls (.int x :: .ref r :: st) I J Q ↔ ((ab_ly r).1 = 2 ∧ r < 75 ∧ 0 ≤ x.toInt ∧ x.toInt < (ab_ly r).2) ∧ At 144 74 ls (.long (J r x.toNatClampNeg) :: st) I J Q := A_laload (ab_io ci144 (by decide +kernel))
theorem k144_74 : At 144 74 ls (.long u1 :: .long u :: st) I J Q ↔ At 144 75 ls (.long (u * u1) :: st) I J Q := A_lmul (ab_io ci144 (by decide +kernel))
theorem k144_75 : At 144 75 [some (.ref r), a1, a2, a3, a4, a5, a6] st I J Q ↔ At 144 76 [some (.ref r), a1, a2, a3, a4, a5, a6] (.ref r :: st) I J Q := A_aload_n (q := 0) (ab_io ci144 (by decide +kernel)) rfl
theorem k144_76 : At 144 76 ls (.ref 49 :: st) I J Q ↔ At 144 79 ls (.ref 59 :: st) I J Q := A_getR (ab_io ci144 (by decide +kernel)) ow144 fq8_41_49
theorem k144_79 : At 144 79 ls st I J Q ↔ At 144 80 ls (.int (nI 4) :: st) I J Q := A_iconst (ab_io ci144 (by decide +kernel)) ic_4
theorem k144_80 : At 144 80 [a0, a1, a2, a3, a4, some (.int x), a6] st I J Q ↔ At 144 82 [a0, a1, a2, a3, a4, some (.int x), a6] (.int x :: st) I J Q := A_iload (q := 5) (ab_io ci144 (by decide +kernel)) rfl
theorem k144_82 : At 144 82 ls (.int x1 :: .int x :: st) I J Q ↔ At 144 83 ls (.int (x * x1) :: st) I J Q := A_imul (ab_io ci144 (by decide +kernel))
theorem k144_83 : At 144 83 [a0, a1, a2, a3, some (.int x), a5, a6] st I J Q ↔ At 144 85 [a0, a1, a2, a3, some (.int x), a5, a6] (.int x :: st) I J Q := A_iload (q := 4) (ab_io ci144 (by decide +kernel)) rfl
theorem k144_85 : At 144 85 ls (.int x1 :: .int x :: st) I J Q ↔ At 144 86 ls (.int (x + x1) :: st) I J Q := A_iadd (ab_io ci144 (by decide +kernel))
theorem k144_86 : At 144 86 ls (.int x :: .ref r :: st) I J Q ↔ ((ab_ly r).1 = 2 ∧ r < 75 ∧ 0 ≤ x.toInt ∧ x.toInt < (ab_ly r).2) ∧ At 144 87 ls (.long (J r x.toNatClampNeg) :: st) I J Q := A_laload (ab_io ci144 (by decide +kernel))
theorem k144_87 : At 144 87 [some (.ref r), a1, a2, a3, a4, a5, a6] st I J Q ↔ At 144 88 [some (.ref r), a1, a2, a3, a4, a5, a6] (.ref r :: st) I J Q := A_aload_n (q := 0) (ab_io ci144 (by decide +kernel)) rfl
theorem k144_88 : At 144 88 ls (.ref 49 :: st) I J Q ↔ At 144 91 ls (.ref 59 :: st) I J Q := A_getR (ab_io ci144 (by decide +kernel)) ow144 fq8_41_49
theorem k144_91 : At 144 91 ls st I J Q ↔ At 144 92 ls (.int (nI 4) :: st) I J Q := A_iconst (ab_io ci144 (by decide +kernel)) ic_4
theorem k144_92 : At 144 92 [a0, a1, a2, a3, some (.int x), a5, a6] st I J Q ↔ At 144 94 [a0, a1, a2, a3, some (.int x), a5, a6] (.int x :: st) I J Q := A_iload (q := 4) (ab_io ci144 (by decide +kernel)) rfl
theorem k144_94 : At 144 94 ls (.int x1 :: .int x :: st) I J Q ↔ At 144 95 ls (.int (x * x1) :: st) I J Q := A_imul (ab_io ci144 (by decide +kernel))
theorem k144_95 : At 144 95 [a0, a1, a2, a3, a4, a5, some (.int x)] st I J Q ↔ At 144 97 [a0, a1, a2, a3, a4, a5, some (.int x)] (.int x :: st) I J Q := A_iload (q := 6) (ab_io ci144 (by decide +kernel)) rfl
theorem k144_97 : At 144 97 ls (.int x1 :: .int x :: st) I J Q ↔ At 144 98 ls (.int (x + x1) :: st) I J Q := A_iadd (ab_io ci144 (by decide +kernel))
theorem k144_98 : At 144 98 ls (.int x :: .ref r :: st) I J Q ↔ ((ab_ly r).1 = 2 ∧ r < 75 ∧ 0 ≤ x.toInt ∧ x.toInt < (ab_ly r).2) ∧ At 144 99 ls (.long (J r x.toNatClampNeg) :: st) I J Q := A_laload (ab_io ci144 (by decide +kernel))
theorem k144_99 : At 144 99 ls (.long u1 :: .long u :: st) I J Q ↔ At 144 100 ls (.long (u * u1) :: st) I J Q := A_lmul (ab_io ci144 (by decide +kernel))
theorem k144_100 : At 144 100 ls (.long u1 :: .long u :: st) I J Q ↔ At 144 101 ls (.long (u - u1) :: st) I J Q := A_lsub (ab_io ci144 (by decide +kernel))
theorem k144_101 : At 144 101 [a0, a1, some (.long u), a3, a4, a5, a6] st I J Q ↔ At 144 102 [a0, a1, some (.long u), a3, a4, a5, a6] (.long u :: st) I J Q := A_lload_n (q := 2) (ab_io ci144 (by decide +kernel)) rfl
theorem k144_102 : At 144 102 ls (.long u1 :: .long u :: st) I J Q ↔ ¬ u1 = 0 ∧ At 144 103 ls (.long (u / u1) :: st) I J Q := A_ldiv (ab_io ci144 (by decide +kernel))
theorem k144_103 : At 144 103 ls (.long u :: .int x :: .ref r :: st) I J Q ↔ ((ab_ly r).1 = 2 ∧ r < 75 ∧ 0 ≤ x.toInt ∧ x.toInt < (ab_ly r).2) ∧ At 144 104 ls st I (va_up J r (va_up (J r) x.toNatClampNeg u)) Q := A_lastore (ab_io ci144 (by decide +kernel))
theorem k144_104 : At 144 104 [a0, a1, a2, a3, a4, a5, some (.int x)] st I J Q ↔ At 144 107 [a0, a1, a2, a3, a4, ab_nv a5, some (.int (x + (-1)))] st I J Q := A_iinc (q := 6) (ab_io ci144 (by decide +kernel)) ic_m1 (Nat.le_of_ble_eq_true rfl) rfl rfl
theorem k144_107 : At 144 107 ls st I J Q ↔ At 144 23 ls st I J Q := A_goto (o := (-84)) (ab_io ci144 (by decide +kernel)) (by decide)
theorem k144_110 : At 144 110 [some (.ref r), a1, a2, a3, a4, a5, a6] st I J Q ↔ At 144 111 [some (.ref r), a1, a2, a3, a4, a5, a6] (.ref r :: st) I J Q := A_aload_n (q := 0) (ab_io ci144 (by decide +kernel)) rfl
theorem k144_111 : At 144 111 ls (.ref 49 :: st) I J Q ↔ At 144 114 ls (.ref 59 :: st) I J Q := A_getR (ab_io ci144 (by decide +kernel)) ow144 fq8_41_49
theorem k144_114 : At 144 114 ls st I J Q ↔ At 144 115 ls (.int (nI 4) :: st) I J Q := A_iconst (ab_io ci144 (by decide +kernel)) ic_4
theorem k144_115 : At 144 115 [a0, a1, a2, a3, a4, some (.int x), a6] st I J Q ↔ At 144 117 [a0, a1, a2, a3, a4, some (.int x), a6] (.int x :: st) I J Q := A_iload (q := 5) (ab_io ci144 (by decide +kernel)) rfl
theorem k144_117 : At 144 117 ls (.int x1 :: .int x :: st) I J Q ↔ At 144 118 ls (.int (x * x1) :: st) I J Q := A_imul (ab_io ci144 (by decide +kernel))
theorem k144_118 : At 144 118 [a0, a1, a2, a3, some (.int x), a5, a6] st I J Q ↔ At 144 120 [a0, a1, a2, a3, some (.int x), a5, a6] (.int x :: st) I J Q := A_iload (q := 4) (ab_io ci144 (by decide +kernel)) rfl
theorem k144_120 : At 144 120 ls (.int x1 :: .int x :: st) I J Q ↔ At 144 121 ls (.int (x + x1) :: st) I J Q := A_iadd (ab_io ci144 (by decide +kernel))
theorem k144_121 : At 144 121 [a0, a1, a2, a3, a4, some (.int x), a6] st I J Q ↔ At 144 123 [a0, a1, a2, a3, a4, some (.int x), a6] (.int x :: st) I J Q := A_iload (q := 5) (ab_io ci144 (by decide +kernel)) rfl
theorem k144_123 : At 144 123 [a0, a1, a2, a3, some (.int x), a5, a6] st I J Q ↔ At 144 125 [a0, a1, a2, a3, some (.int x), a5, a6] (.int x :: st) I J Q := A_iload (q := 4) (ab_io ci144 (by decide +kernel)) rfl
theorem k144_125 : At 144 125 ls (.int x1 :: .int x :: st) I J Q ↔ if ¬ x = x1 then At 144 143 ls st I J Q else At 144 128 ls st I J Q := A_if_icmp_ne (o := 18) (ab_io ci144 (by decide +kernel)) (by decide)
theorem k144_128 : At 144 128 [some (.ref r), a1, a2, a3, a4, a5, a6] st I J Q ↔ At 144 129 [some (.ref r), a1, a2, a3, a4, a5, a6] (.ref r :: st) I J Q := A_aload_n (q := 0) (ab_io ci144 (by decide +kernel)) rfl
theorem k144_129 : At 144 129 ls (.ref 49 :: st) I J Q ↔ At 144 132 ls (.ref 59 :: st) I J Q := A_getR (ab_io ci144 (by decide +kernel)) ow144 fq8_41_49
theorem k144_132 : At 144 132 ls st I J Q ↔ At 144 133 ls (.int (nI 4) :: st) I J Q := A_iconst (ab_io ci144 (by decide +kernel)) ic_4
theorem k144_133 : At 144 133 [a0, a1, a2, a3, a4, some (.int x), a6] st I J Q ↔ At 144 135 [a0, a1, a2, a3, a4, some (.int x), a6] (.int x :: st) I J Q := A_iload (q := 5) (ab_io ci144 (by decide +kernel)) rfl
theorem k144_135 : At 144 135 ls (.int x1 :: .int x :: st) I J Q ↔ At 144 136 ls (.int (x * x1) :: st) I J Q := A_imul (ab_io ci144 (by decide +kernel))
theorem k144_136 : At 144 136 [a0, a1, a2, a3, some (.int x), a5, a6] st I J Q ↔ At 144 138 [a0, a1, a2, a3, some (.int x), a5, a6] (.int x :: st) I J Q := A_iload (q := 4) (ab_io ci144 (by decide +kernel)) rfl
theorem k144_138 : At 144 138 ls (.int x1 :: .int x :: st) I J Q ↔ At 144 139 ls (.int (x + x1) :: st) I J Q := A_iadd (ab_io ci144 (by decide +kernel))
theorem k144_139 : At 144 139 ls (.int x :: .ref r :: st) I J Q ↔ ((ab_ly r).1 = 2 ∧ r < 75 ∧ 0 ≤ x.toInt ∧ x.toInt < (ab_ly r).2) ∧ At 144 140 ls (.long (J r x.toNatClampNeg) :: st) I J Q := A_laload (ab_io ci144 (by decide +kernel))
theorem k144_140 : At 144 140 ls st I J Q ↔ At 144 144 ls st I J Q := A_goto (o := 4) (ab_io ci144 (by decide +kernel)) (by decide)
theorem k144_143 : At 144 143 ls st I J Q ↔ At 144 144 ls (.long 0 :: st) I J Q := A_lconst (n := 0) (ab_io ci144 (by decide +kernel)) rfl
theorem k144_144 : At 144 144 ls (.long u :: .int x :: .ref r :: st) I J Q ↔ ((ab_ly r).1 = 2 ∧ r < 75 ∧ 0 ≤ x.toInt ∧ x.toInt < (ab_ly r).2) ∧ At 144 145 ls st I (va_up J r (va_up (J r) x.toNatClampNeg u)) Q := A_lastore (ab_io ci144 (by decide +kernel))
theorem k144_145 : At 144 145 [a0, a1, a2, a3, a4, some (.int x), a6] st I J Q ↔ At 144 148 [a0, a1, a2, a3, ab_nv a4, some (.int (x + (nI 1))), a6] st I J Q := A_iinc (q := 5) (ab_io ci144 (by decide +kernel)) ic_1 (Nat.le_of_ble_eq_true rfl) rfl rfl
theorem k144_148 : At 144 148 ls st I J Q ↔ At 144 14 ls st I J Q := A_goto (o := (-134)) (ab_io ci144 (by decide +kernel)) (by decide)
theorem k144_151 : At 144 151 [some (.ref r), a1, a2, a3, a4, a5, a6] st I J Q ↔ At 144 152 [some (.ref r), a1, a2, a3, a4, a5, a6] (.ref r :: st) I J Q := A_aload_n (q := 0) (ab_io ci144 (by decide +kernel)) rfl
theorem k144_152 : At 144 152 ls (.ref 49 :: st) I J Q ↔ At 144 155 ls (.ref 59 :: st) I J Q := A_getR (ab_io ci144 (by decide +kernel)) ow144 fq8_41_49
theorem k144_155 : At 144 155 ls st I J Q ↔ At 144 156 ls (.int (nI 5) :: st) I J Q := A_iconst (ab_io ci144 (by decide +kernel)) ic_5
theorem k144_156 : At 144 156 [a0, a1, a2, a3, some (.int x), a5, a6] st I J Q ↔ At 144 158 [a0, a1, a2, a3, some (.int x), a5, a6] (.int x :: st) I J Q := A_iload (q := 4) (ab_io ci144 (by decide +kernel)) rfl
theorem k144_158 : At 144 158 ls (.int x1 :: .int x :: st) I J Q ↔ At 144 159 ls (.int (x * x1) :: st) I J Q := A_imul (ab_io ci144 (by decide +kernel))
theorem k144_159 : At 144 159 ls (.int x :: .ref r :: st) I J Q ↔ ((ab_ly r).1 = 2 ∧ r < 75 ∧ 0 ≤ x.toInt ∧ x.toInt < (ab_ly r).2) ∧ At 144 160 ls (.long (J r x.toNatClampNeg) :: st) I J Q := A_laload (ab_io ci144 (by decide +kernel))
theorem k144_160 : At 144 160 [a0, a1, a2, a3, a4, a5, a6] (.long u :: st) I J Q ↔ At 144 161 [a0, ab_nv a1, some (.long u), none, a4, a5, a6] st I J Q := A_lstore_n (q := 2) (ab_io ci144 (by decide +kernel)) (Nat.le_of_ble_eq_true rfl) rfl
theorem k144_161 : At 144 161 [a0, a1, a2, a3, some (.int x), a5, a6] st I J Q ↔ At 144 164 [a0, a1, a2, ab_nv a3, some (.int (x + (nI 1))), a5, a6] st I J Q := A_iinc (q := 4) (ab_io ci144 (by decide +kernel)) ic_1 (Nat.le_of_ble_eq_true rfl) rfl rfl
theorem k144_164 : At 144 164 ls st I J Q ↔ At 144 5 ls st I J Q := A_goto (o := (-159)) (ab_io ci144 (by decide +kernel)) (by decide)
theorem k144_167 : At 144 167 ls [] I J Q ↔ Q none I J := A_vret (ab_io ci144 (by decide +kernel)) rt144
theorem k145_0 : At 145 0 ls st I J Q ↔ At 145 1 ls (.int (nI 0) :: st) I J Q := A_iconst (ab_io ci145 (by decide +kernel)) ic_0
theorem k145_1 : At 145 1 [a0, a1, a2, a3, a4, a5, a6, a7] (.int x :: st) I J Q ↔ At 145 2 [a0, ab_nv a1, some (.int x), a3, a4, a5, a6, a7] st I J Q := A_istore_n (q := 2) (ab_io ci145 (by decide +kernel)) (Nat.le_of_ble_eq_true rfl) rfl
theorem k145_2 : At 145 2 [a0, some (.int x), a2, a3, a4, a5, a6, a7] st I J Q ↔ At 145 3 [a0, some (.int x), a2, a3, a4, a5, a6, a7] (.int x :: st) I J Q := A_iload_n (q := 1) (ab_io ci145 (by decide +kernel)) rfl
theorem k145_3 : At 145 3 ls st I J Q ↔ At 145 4 ls (.int (nI 1) :: st) I J Q := A_iconst (ab_io ci145 (by decide +kernel)) ic_1
theorem k145_4 : At 145 4 ls (.int x1 :: .int x :: st) I J Q ↔ At 145 5 ls (.int (x + x1) :: st) I J Q := A_iadd (ab_io ci145 (by decide +kernel))
theorem k145_5 : At 145 5 [a0, a1, a2, a3, a4, a5, a6, a7] (.int x :: st) I J Q ↔ At 145 6 [a0, a1, ab_nv a2, some (.int x), a4, a5, a6, a7] st I J Q := A_istore_n (q := 3) (ab_io ci145 (by decide +kernel)) (Nat.le_of_ble_eq_true rfl) rfl
theorem k145_6 : At 145 6 [a0, a1, a2, some (.int x), a4, a5, a6, a7] st I J Q ↔ At 145 7 [a0, a1, a2, some (.int x), a4, a5, a6, a7] (.int x :: st) I J Q := A_iload_n (q := 3) (ab_io ci145 (by decide +kernel)) rfl
theorem k145_7 : At 145 7 ls st I J Q ↔ At 145 8 ls (.int (nI 4) :: st) I J Q := A_iconst (ab_io ci145 (by decide +kernel)) ic_4
theorem k145_8 : At 145 8 ls (.int x1 :: .int x :: st) I J Q ↔ if x1 ≤ x then At 145 40 ls st I J Q else At 145 11 ls st I J Q := A_if_icmp_ge (o := 32) (ab_io ci145 (by decide +kernel)) (by decide)
theorem k145_11 : At 145 11 [some (.ref r), a1, a2, a3, a4, a5, a6, a7] st I J Q ↔ At 145 12 [some (.ref r), a1, a2, a3, a4, a5, a6, a7] (.ref r :: st) I J Q := A_aload_n (q := 0) (ab_io ci145 (by decide +kernel)) rfl
theorem k145_12 : At 145 12 ls (.ref 49 :: st) I J Q ↔ At 145 15 ls (.ref 57 :: st) I J Q := A_getR (ab_io ci145 (by decide +kernel)) ow145 fq8_35_49
theorem k145_15 : At 145 15 ls st I J Q ↔ At 145 17 ls (.int (nI 12) :: st) I J Q := A_bipush (ab_io ci145 (by decide +kernel)) bc_12
theorem k145_17 : At 145 17 [a0, a1, a2, some (.int x), a4, a5, a6, a7] st I J Q ↔ At 145 18 [a0, a1, a2, some (.int x), a4, a5, a6, a7] (.int x :: st) I J Q := A_iload_n (q := 3) (ab_io ci145 (by decide +kernel)) rfl
theorem k145_18 : At 145 18 ls (.int x1 :: .int x :: st) I J Q ↔ At 145 19 ls (.int (x + x1) :: st) I J Q := A_iadd (ab_io ci145 (by decide +kernel))
theorem k145_19 : At 145 19 ls (.int x :: .ref r :: st) I J Q ↔ ((ab_ly r).1 = 1 ∧ r < 75 ∧ 0 ≤ x.toInt ∧ x.toInt < (ab_ly r).2) ∧ At 145 20 ls (.int (I r x.toNatClampNeg) :: st) I J Q := A_iaload (ab_io ci145 (by decide +kernel))
theorem k145_20 : At 145 20 [a0, some (.int x), a2, a3, a4, a5, a6, a7] st I J Q ↔ At 145 21 [a0, some (.int x), a2, a3, a4, a5, a6, a7] (.int x :: st) I J Q := A_iload_n (q := 1) (ab_io ci145 (by decide +kernel)) rfl
theorem k145_21 : At 145 21 ls (.int x1 :: .int x :: st) I J Q ↔ if ¬ x = x1 then At 145 34 ls st I J Q else At 145 24 ls st I J Q := A_if_icmp_ne (o := 13) (ab_io ci145 (by decide +kernel)) (by decide)
theorem k145_24 : At 145 24 [some (.ref r), a1, a2, a3, a4, a5, a6, a7] st I J Q ↔ At 145 25 [some (.ref r), a1, a2, a3, a4, a5, a6, a7] (.ref r :: st) I J Q := A_aload_n (q := 0) (ab_io ci145 (by decide +kernel)) rfl
theorem k145_25 : At 145 25 ls (.ref 49 :: st) I J Q ↔ At 145 28 ls (.ref 58 :: st) I J Q := A_getR (ab_io ci145 (by decide +kernel)) ow145 fq8_38_49
theorem k145_28 : At 145 28 [a0, a1, some (.int x), a3, a4, a5, a6, a7] st I J Q ↔ At 145 29 [a0, a1, some (.int x), a3, a4, a5, a6, a7] (.int x :: st) I J Q := A_iload_n (q := 2) (ab_io ci145 (by decide +kernel)) rfl
theorem k145_29 : At 145 29 [a0, a1, a2, some (.int x), a4, a5, a6, a7] st I J Q ↔ At 145 30 [a0, a1, a2, some (.int x), a4, a5, a6, a7] (.int x :: st) I J Q := A_iload_n (q := 3) (ab_io ci145 (by decide +kernel)) rfl
theorem k145_30 : At 145 30 ls (.int x1 :: .int x :: .ref r :: st) I J Q ↔ ((ab_ly r).1 = 1 ∧ r < 75 ∧ 0 ≤ x.toInt ∧ x.toInt < (ab_ly r).2) ∧ At 145 31 ls st (va_up I r (va_up (I r) x.toNatClampNeg x1)) J Q := A_iastore (ab_io ci145 (by decide +kernel))
theorem k145_31 : At 145 31 [a0, a1, some (.int x), a3, a4, a5, a6, a7] st I J Q ↔ At 145 34 [a0, ab_nv a1, some (.int (x + (nI 1))), a3, a4, a5, a6, a7] st I J Q := A_iinc (q := 2) (ab_io ci145 (by decide +kernel)) ic_1 (Nat.le_of_ble_eq_true rfl) rfl rfl
theorem k145_34 : At 145 34 [a0, a1, a2, some (.int x), a4, a5, a6, a7] st I J Q ↔ At 145 37 [a0, a1, ab_nv a2, some (.int (x + (nI 1))), a4, a5, a6, a7] st I J Q := A_iinc (q := 3) (ab_io ci145 (by decide +kernel)) ic_1 (Nat.le_of_ble_eq_true rfl) rfl rfl
theorem k145_37 : At 145 37 ls st I J Q ↔ At 145 6 ls st I J Q := A_goto (o := (-31)) (ab_io ci145 (by decide +kernel)) (by decide)
theorem k145_40 : At 145 40 ls st I J Q ↔ At 145 41 ls (.int (nI 0) :: st) I J Q := A_iconst (ab_io ci145 (by decide +kernel)) ic_0
theorem k145_41 : At 145 41 [a0, a1, a2, a3, a4, a5, a6, a7] (.int x :: st) I J Q ↔ At 145 42 [a0, a1, ab_nv a2, some (.int x), a4, a5, a6, a7] st I J Q := A_istore_n (q := 3) (ab_io ci145 (by decide +kernel)) (Nat.le_of_ble_eq_true rfl) rfl
theorem k145_42 : At 145 42 [a0, a1, a2, some (.int x), a4, a5, a6, a7] st I J Q ↔ At 145 43 [a0, a1, a2, some (.int x), a4, a5, a6, a7] (.int x :: st) I J Q := A_iload_n (q := 3) (ab_io ci145 (by decide +kernel)) rfl
theorem k145_43 : At 145 43 ls st I J Q ↔ At 145 45 ls (.int (nI 12) :: st) I J Q := A_bipush (ab_io ci145 (by decide +kernel)) bc_12
theorem k145_45 : At 145 45 ls (.int x1 :: .int x :: st) I J Q ↔ if x1 ≤ x then At 145 61 ls st I J Q else At 145 48 ls st I J Q := A_if_icmp_ge (o := 16) (ab_io ci145 (by decide +kernel)) (by decide)
theorem k145_48 : At 145 48 [some (.ref r), a1, a2, a3, a4, a5, a6, a7] st I J Q ↔ At 145 49 [some (.ref r), a1, a2, a3, a4, a5, a6, a7] (.ref r :: st) I J Q := A_aload_n (q := 0) (ab_io ci145 (by decide +kernel)) rfl
theorem k145_49 : At 145 49 ls (.ref 49 :: st) I J Q ↔ At 145 52 ls (.ref 59 :: st) I J Q := A_getR (ab_io ci145 (by decide +kernel)) ow145 fq8_41_49
theorem k145_52 : At 145 52 [a0, a1, a2, some (.int x), a4, a5, a6, a7] st I J Q ↔ At 145 53 [a0, a1, a2, some (.int x), a4, a5, a6, a7] (.int x :: st) I J Q := A_iload_n (q := 3) (ab_io ci145 (by decide +kernel)) rfl
theorem k145_53 : At 145 53 ls st I J Q ↔ At 145 54 ls (.long 0 :: st) I J Q := A_lconst (n := 0) (ab_io ci145 (by decide +kernel)) rfl
theorem k145_54 : At 145 54 ls (.long u :: .int x :: .ref r :: st) I J Q ↔ ((ab_ly r).1 = 2 ∧ r < 75 ∧ 0 ≤ x.toInt ∧ x.toInt < (ab_ly r).2) ∧ At 145 55 ls st I (va_up J r (va_up (J r) x.toNatClampNeg u)) Q := A_lastore (ab_io ci145 (by decide +kernel))
theorem k145_55 : At 145 55 [a0, a1, a2, some (.int x), a4, a5, a6, a7] st I J Q ↔ At 145 58 [a0, a1, ab_nv a2, some (.int (x + (nI 1))), a4, a5, a6, a7] st I J Q := A_iinc (q := 3) (ab_io ci145 (by decide +kernel)) ic_1 (Nat.le_of_ble_eq_true rfl) rfl rfl
theorem k145_58 : At 145 58 ls st I J Q ↔ At 145 42 ls st I J Q := A_goto (o := (-16)) (ab_io ci145 (by decide +kernel)) (by decide)
theorem k145_61 : At 145 61 ls st I J Q ↔ At 145 62 ls (.int (nI 0) :: st) I J Q := A_iconst (ab_io ci145 (by decide +kernel)) ic_0
theorem k145_62 : At 145 62 [a0, a1, a2, a3, a4, a5, a6, a7] (.int x :: st) I J Q ↔ At 145 63 [a0, a1, ab_nv a2, some (.int x), a4, a5, a6, a7] st I J Q := A_istore_n (q := 3) (ab_io ci145 (by decide +kernel)) (Nat.le_of_ble_eq_true rfl) rfl
theorem k145_63 : At 145 63 [a0, a1, a2, some (.int x), a4, a5, a6, a7] st I J Q ↔ At 145 64 [a0, a1, a2, some (.int x), a4, a5, a6, a7] (.int x :: st) I J Q := A_iload_n (q := 3) (ab_io ci145 (by decide +kernel)) rfl
theorem k145_64 : At 145 64 ls st I J Q ↔ At 145 66 ls (.int (nI 12) :: st) I J Q := A_bipush (ab_io ci145 (by decide +kernel)) bc_12
theorem k145_66 : At 145 66 ls (.int x1 :: .int x :: st) I J Q ↔ if x1 ≤ x then At 145 215 ls st I J Q else At 145 69 ls st I J Q := A_if_icmp_ge (o := 149) (ab_io ci145 (by decide +kernel)) (by decide)
theorem k145_69 : At 145 69 [some (.ref r), a1, a2, a3, a4, a5, a6, a7] st I J Q ↔ At 145 70 [some (.ref r), a1, a2, a3, a4, a5, a6, a7] (.ref r :: st) I J Q := A_aload_n (q := 0) (ab_io ci145 (by decide +kernel)) rfl
theorem k145_70 : At 145 70 ls (.ref 49 :: st) I J Q ↔ At 145 73 ls (.ref 57 :: st) I J Q := A_getR (ab_io ci145 (by decide +kernel)) ow145 fq8_35_49
theorem k145_73 : At 145 73 [a0, a1, a2, some (.int x), a4, a5, a6, a7] st I J Q ↔ At 145 74 [a0, a1, a2, some (.int x), a4, a5, a6, a7] (.int x :: st) I J Q := A_iload_n (q := 3) (ab_io ci145 (by decide +kernel)) rfl
theorem k145_74 : At 145 74 ls (.int x :: .ref r :: st) I J Q ↔ ((ab_ly r).1 = 1 ∧ r < 75 ∧ 0 ≤ x.toInt ∧ x.toInt < (ab_ly r).2) ∧ At 145 75 ls (.int (I r x.toNatClampNeg) :: st) I J Q := A_iaload (ab_io ci145 (by decide +kernel))
theorem k145_75 : At 145 75 [a0, some (.int x), a2, a3, a4, a5, a6, a7] st I J Q ↔ At 145 76 [a0, some (.int x), a2, a3, a4, a5, a6, a7] (.int x :: st) I J Q := A_iload_n (q := 1) (ab_io ci145 (by decide +kernel)) rfl
theorem k145_76 : At 145 76 ls (.int x1 :: .int x :: st) I J Q ↔ if ¬ x = x1 then At 145 87 ls st I J Q else At 145 79 ls st I J Q := A_if_icmp_ne (o := 11) (ab_io ci145 (by decide +kernel)) (by decide)
theorem k145_79 : At 145 79 [some (.ref r), a1, a2, a3, a4, a5, a6, a7] st I J Q ↔ At 145 80 [some (.ref r), a1, a2, a3, a4, a5, a6, a7] (.ref r :: st) I J Q := A_aload_n (q := 0) (ab_io ci145 (by decide +kernel)) rfl
theorem k145_80 : At 145 80 [a0, a1, a2, some (.int x), a4, a5, a6, a7] st I J Q ↔ At 145 81 [a0, a1, a2, some (.int x), a4, a5, a6, a7] (.int x :: st) I J Q := A_iload_n (q := 3) (ab_io ci145 (by decide +kernel)) rfl
theorem k145_81 : At 145 81 ls [.int p0, .ref 49] I J Q ↔ Cal 143 [.ref 49, .int p0] I J (fun v I' J' => At 145 84 ls (v.toList ++ []) I' J' Q) := A_cal (kd := 0) (j := 140) (na := 2) (ea := 2) (rk := 49) (by decide +kernel) rfl rfl rfl (Or.inr rfl) (Nat.le_of_ble_eq_true rfl)
theorem k145_84 : At 145 84 ls st I J Q ↔ At 145 88 ls st I J Q := A_goto (o := 4) (ab_io ci145 (by decide +kernel)) (by decide)
theorem k145_87 : At 145 87 ls st I J Q ↔ At 145 88 ls (.int (nI 0) :: st) I J Q := A_iconst (ab_io ci145 (by decide +kernel)) ic_0
theorem k145_88 : At 145 88 [a0, a1, a2, a3, a4, a5, a6, a7] (.int x :: st) I J Q ↔ At 145 90 [a0, a1, a2, ab_nv a3, some (.int x), a5, a6, a7] st I J Q := A_istore (q := 4) (ab_io ci145 (by decide +kernel)) (Nat.le_of_ble_eq_true rfl) rfl
theorem k145_90 : At 145 90 ls st I J Q ↔ At 145 91 ls (.int (nI 0) :: st) I J Q := A_iconst (ab_io ci145 (by decide +kernel)) ic_0
theorem k145_91 : At 145 91 [a0, a1, a2, a3, a4, a5, a6, a7] (.int x :: st) I J Q ↔ At 145 93 [a0, a1, a2, a3, ab_nv a4, some (.int x), a6, a7] st I J Q := A_istore (q := 5) (ab_io ci145 (by decide +kernel)) (Nat.le_of_ble_eq_true rfl) rfl
theorem k145_93 : At 145 93 [a0, a1, a2, a3, a4, some (.int x), a6, a7] st I J Q ↔ At 145 95 [a0, a1, a2, a3, a4, some (.int x), a6, a7] (.int x :: st) I J Q := A_iload (q := 5) (ab_io ci145 (by decide +kernel)) rfl
theorem k145_95 : At 145 95 [a0, a1, some (.int x), a3, a4, a5, a6, a7] st I J Q ↔ At 145 96 [a0, a1, some (.int x), a3, a4, a5, a6, a7] (.int x :: st) I J Q := A_iload_n (q := 2) (ab_io ci145 (by decide +kernel)) rfl
theorem k145_96 : At 145 96 ls (.int x1 :: .int x :: st) I J Q ↔ if x1 ≤ x then At 145 209 ls st I J Q else At 145 99 ls st I J Q := A_if_icmp_ge (o := 113) (ab_io ci145 (by decide +kernel)) (by decide)
theorem k145_99 : At 145 99 [a0, a1, a2, a3, some (.int x), a5, a6, a7] st I J Q ↔ At 145 101 [a0, a1, a2, a3, some (.int x), a5, a6, a7] (.int x :: st) I J Q := A_iload (q := 4) (ab_io ci145 (by decide +kernel)) rfl
theorem k145_101 : At 145 101 ls (.int x :: st) I J Q ↔ if x ≤ 0 then At 145 209 ls st I J Q else At 145 104 ls st I J Q := A_ifCond_le (o := 108) (ab_io ci145 (by decide +kernel)) (by decide)
theorem k145_104 : At 145 104 ls st I J Q ↔ At 145 105 ls (.int (nI 0) :: st) I J Q := A_iconst (ab_io ci145 (by decide +kernel)) ic_0
theorem k145_105 : At 145 105 [a0, a1, a2, a3, a4, a5, a6, a7] (.int x :: st) I J Q ↔ At 145 107 [a0, a1, a2, a3, a4, ab_nv a5, some (.int x), a7] st I J Q := A_istore (q := 6) (ab_io ci145 (by decide +kernel)) (Nat.le_of_ble_eq_true rfl) rfl
theorem k145_107 : At 145 107 [a0, a1, a2, a3, a4, a5, some (.int x), a7] st I J Q ↔ At 145 109 [a0, a1, a2, a3, a4, a5, some (.int x), a7] (.int x :: st) I J Q := A_iload (q := 6) (ab_io ci145 (by decide +kernel)) rfl
theorem k145_109 : At 145 109 [a0, a1, some (.int x), a3, a4, a5, a6, a7] st I J Q ↔ At 145 110 [a0, a1, some (.int x), a3, a4, a5, a6, a7] (.int x :: st) I J Q := A_iload_n (q := 2) (ab_io ci145 (by decide +kernel)) rfl
theorem k145_110 : At 145 110 ls (.int x1 :: .int x :: st) I J Q ↔ if x1 ≤ x then At 145 203 ls st I J Q else At 145 113 ls st I J Q := A_if_icmp_ge (o := 93) (ab_io ci145 (by decide +kernel)) (by decide)
theorem k145_113 : At 145 113 [some (.ref r), a1, a2, a3, a4, a5, a6, a7] st I J Q ↔ At 145 114 [some (.ref r), a1, a2, a3, a4, a5, a6, a7] (.ref r :: st) I J Q := A_aload_n (q := 0) (ab_io ci145 (by decide +kernel)) rfl
theorem k145_114 : At 145 114 [a0, a1, a2, some (.int x), a4, a5, a6, a7] st I J Q ↔ At 145 115 [a0, a1, a2, some (.int x), a4, a5, a6, a7] (.int x :: st) I J Q := A_iload_n (q := 3) (ab_io ci145 (by decide +kernel)) rfl
theorem k145_115 : At 145 115 [some (.ref r), a1, a2, a3, a4, a5, a6, a7] st I J Q ↔ At 145 116 [some (.ref r), a1, a2, a3, a4, a5, a6, a7] (.ref r :: st) I J Q := A_aload_n (q := 0) (ab_io ci145 (by decide +kernel)) rfl
theorem k145_116 : At 145 116 ls (.ref 49 :: st) I J Q ↔ At 145 119 ls (.ref 58 :: st) I J Q := A_getR (ab_io ci145 (by decide +kernel)) ow145 fq8_38_49
theorem k145_119 : At 145 119 [a0, a1, a2, a3, a4, some (.int x), a6, a7] st I J Q ↔ At 145 121 [a0, a1, a2, a3, a4, some (.int x), a6, a7] (.int x :: st) I J Q := A_iload (q := 5) (ab_io ci145 (by decide +kernel)) rfl
theorem k145_121 : At 145 121 ls (.int x :: .ref r :: st) I J Q ↔ ((ab_ly r).1 = 1 ∧ r < 75 ∧ 0 ≤ x.toInt ∧ x.toInt < (ab_ly r).2) ∧ At 145 122 ls (.int (I r x.toNatClampNeg) :: st) I J Q := A_iaload (ab_io ci145 (by decide +kernel))
theorem k145_122 : At 145 122 ls [.int p0, .int p1, .ref 49] I J Q ↔ Cal 140 [.ref 49, .int p1, .int p0] I J (fun v I' J' => At 145 125 ls (v.toList ++ []) I' J' Q) := A_cal (kd := 0) (j := 136) (na := 3) (ea := 3) (rk := 49) (by decide +kernel) rfl rfl rfl (Or.inr rfl) (Nat.le_of_ble_eq_true rfl)
theorem k145_125 : At 145 125 ls st I J Q ↔ At 145 126 ls (.int (-1) :: st) I J Q := A_iconst (ab_io ci145 (by decide +kernel)) ic_m1
theorem k145_126 : At 145 126 ls (.int x1 :: .int x :: st) I J Q ↔ if x = x1 then At 145 149 ls st I J Q else At 145 129 ls st I J Q := A_if_icmp_eq (o := 23) (ab_io ci145 (by decide +kernel)) (by decide)
theorem k145_129 : At 145 129 [some (.ref r), a1, a2, a3, a4, a5, a6, a7] st I J Q ↔ At 145 130 [some (.ref r), a1, a2, a3, a4, a5, a6, a7] (.ref r :: st) I J Q := A_aload_n (q := 0) (ab_io ci145 (by decide +kernel)) rfl
theorem k145_130 : At 145 130 [a0, a1, a2, some (.int x), a4, a5, a6, a7] st I J Q ↔ At 145 131 [a0, a1, a2, some (.int x), a4, a5, a6, a7] (.int x :: st) I J Q := A_iload_n (q := 3) (ab_io ci145 (by decide +kernel)) rfl
theorem k145_131 : At 145 131 [some (.ref r), a1, a2, a3, a4, a5, a6, a7] st I J Q ↔ At 145 132 [some (.ref r), a1, a2, a3, a4, a5, a6, a7] (.ref r :: st) I J Q := A_aload_n (q := 0) (ab_io ci145 (by decide +kernel)) rfl
theorem k145_132 : At 145 132 ls (.ref 49 :: st) I J Q ↔ At 145 135 ls (.ref 58 :: st) I J Q := A_getR (ab_io ci145 (by decide +kernel)) ow145 fq8_38_49
theorem k145_135 : At 145 135 [a0, a1, a2, a3, a4, a5, some (.int x), a7] st I J Q ↔ At 145 137 [a0, a1, a2, a3, a4, a5, some (.int x), a7] (.int x :: st) I J Q := A_iload (q := 6) (ab_io ci145 (by decide +kernel)) rfl
theorem k145_137 : At 145 137 ls (.int x :: .ref r :: st) I J Q ↔ ((ab_ly r).1 = 1 ∧ r < 75 ∧ 0 ≤ x.toInt ∧ x.toInt < (ab_ly r).2) ∧ At 145 138 ls (.int (I r x.toNatClampNeg) :: st) I J Q := A_iaload (ab_io ci145 (by decide +kernel))
theorem k145_138 : At 145 138 ls [.int p0, .int p1, .ref 49] I J Q ↔ Cal 140 [.ref 49, .int p1, .int p0] I J (fun v I' J' => At 145 141 ls (v.toList ++ []) I' J' Q) := A_cal (kd := 0) (j := 136) (na := 3) (ea := 3) (rk := 49) (by decide +kernel) rfl rfl rfl (Or.inr rfl) (Nat.le_of_ble_eq_true rfl)
theorem k145_141 : At 145 141 ls st I J Q ↔ At 145 142 ls (.int (-1) :: st) I J Q := A_iconst (ab_io ci145 (by decide +kernel)) ic_m1
theorem k145_142 : At 145 142 ls (.int x1 :: .int x :: st) I J Q ↔ if x = x1 then At 145 149 ls st I J Q else At 145 145 ls st I J Q := A_if_icmp_eq (o := 7) (ab_io ci145 (by decide +kernel)) (by decide)
theorem k145_145 : At 145 145 ls st I J Q ↔ At 145 146 ls (.int (nI 1) :: st) I J Q := A_iconst (ab_io ci145 (by decide +kernel)) ic_1
theorem k145_146 : At 145 146 ls st I J Q ↔ At 145 150 ls st I J Q := A_goto (o := 4) (ab_io ci145 (by decide +kernel)) (by decide)
theorem k145_149 : At 145 149 ls st I J Q ↔ At 145 150 ls (.int (nI 0) :: st) I J Q := A_iconst (ab_io ci145 (by decide +kernel)) ic_0
theorem k145_150 : At 145 150 [a0, a1, a2, a3, a4, a5, a6, a7] (.int x :: st) I J Q ↔ At 145 152 [a0, a1, a2, a3, a4, a5, ab_nv a6, some (.int x)] st I J Q := A_istore (q := 7) (ab_io ci145 (by decide +kernel)) (Nat.le_of_ble_eq_true rfl) rfl
theorem k145_152 : At 145 152 [some (.ref r), a1, a2, a3, a4, a5, a6, a7] st I J Q ↔ At 145 153 [some (.ref r), a1, a2, a3, a4, a5, a6, a7] (.ref r :: st) I J Q := A_aload_n (q := 0) (ab_io ci145 (by decide +kernel)) rfl
theorem k145_153 : At 145 153 ls (.ref 49 :: st) I J Q ↔ At 145 156 ls (.ref 59 :: st) I J Q := A_getR (ab_io ci145 (by decide +kernel)) ow145 fq8_41_49
theorem k145_156 : At 145 156 ls st I J Q ↔ At 145 157 ls (.int (nI 4) :: st) I J Q := A_iconst (ab_io ci145 (by decide +kernel)) ic_4
theorem k145_157 : At 145 157 [a0, a1, a2, a3, a4, some (.int x), a6, a7] st I J Q ↔ At 145 159 [a0, a1, a2, a3, a4, some (.int x), a6, a7] (.int x :: st) I J Q := A_iload (q := 5) (ab_io ci145 (by decide +kernel)) rfl
theorem k145_159 : At 145 159 ls (.int x1 :: .int x :: st) I J Q ↔ At 145 160 ls (.int (x * x1) :: st) I J Q := A_imul (ab_io ci145 (by decide +kernel))
theorem k145_160 : At 145 160 [a0, a1, a2, a3, a4, a5, some (.int x), a7] st I J Q ↔ At 145 162 [a0, a1, a2, a3, a4, a5, some (.int x), a7] (.int x :: st) I J Q := A_iload (q := 6) (ab_io ci145 (by decide +kernel)) rfl
theorem k145_162 : At 145 162 ls (.int x1 :: .int x :: st) I J Q ↔ At 145 163 ls (.int (x + x1) :: st) I J Q := A_iadd (ab_io ci145 (by decide +kernel))
theorem k145_163 : At 145 163 ls (.int x :: .ref r :: st) I J Q ↔ At 145 164 ls (.int x :: .ref r :: .int x :: .ref r :: st) I J Q := A_dup2 (ab_io ci145 (by decide +kernel))
theorem k145_164 : At 145 164 ls (.int x :: .ref r :: st) I J Q ↔ ((ab_ly r).1 = 2 ∧ r < 75 ∧ 0 ≤ x.toInt ∧ x.toInt < (ab_ly r).2) ∧ At 145 165 ls (.long (J r x.toNatClampNeg) :: st) I J Q := A_laload (ab_io ci145 (by decide +kernel))
theorem k145_165 : At 145 165 [a0, a1, a2, a3, a4, a5, a6, some (.int x)] st I J Q ↔ At 145 167 [a0, a1, a2, a3, a4, a5, a6, some (.int x)] (.int x :: st) I J Q := A_iload (q := 7) (ab_io ci145 (by decide +kernel)) rfl
theorem k145_167 : At 145 167 ls (.int x :: st) I J Q ↔ if x = 0 then At 145 194 ls st I J Q else At 145 170 ls st I J Q := A_ifCond_eq (o := 27) (ab_io ci145 (by decide +kernel)) (by decide)
theorem k145_170 : At 145 170 [a0, a1, a2, a3, a4, some (.int x), a6, a7] st I J Q ↔ At 145 172 [a0, a1, a2, a3, a4, some (.int x), a6, a7] (.int x :: st) I J Q := A_iload (q := 5) (ab_io ci145 (by decide +kernel)) rfl
theorem k145_172 : At 145 172 [a0, a1, a2, a3, a4, a5, some (.int x), a7] st I J Q ↔ At 145 174 [a0, a1, a2, a3, a4, a5, some (.int x), a7] (.int x :: st) I J Q := A_iload (q := 6) (ab_io ci145 (by decide +kernel)) rfl
theorem k145_174 : At 145 174 ls (.int x1 :: .int x :: st) I J Q ↔ if ¬ x = x1 then At 145 183 ls st I J Q else At 145 177 ls st I J Q := A_if_icmp_ne (o := 9) (ab_io ci145 (by decide +kernel)) (by decide)
theorem k145_177 : At 145 177 ls st I J Q ↔ At 145 180 ls (.long 12 :: st) I J Q := A_ldc2_w (j := 143) (q := 1029) (ab_io ci145 (by decide +kernel)) ow145 (by decide +kernel)
theorem k145_180 : At 145 180 ls st I J Q ↔ At 145 184 ls st I J Q := A_goto (o := 4) (ab_io ci145 (by decide +kernel)) (by decide)
theorem k145_183 : At 145 183 ls st I J Q ↔ At 145 184 ls (.long 0 :: st) I J Q := A_lconst (n := 0) (ab_io ci145 (by decide +kernel)) rfl
theorem k145_184 : At 145 184 ls st I J Q ↔ At 145 186 ls (.int (nI 12) :: st) I J Q := A_bipush (ab_io ci145 (by decide +kernel)) bc_12
theorem k145_186 : At 145 186 [a0, a1, a2, a3, some (.int x), a5, a6, a7] st I J Q ↔ At 145 188 [a0, a1, a2, a3, some (.int x), a5, a6, a7] (.int x :: st) I J Q := A_iload (q := 4) (ab_io ci145 (by decide +kernel)) rfl
theorem k145_188 : At 145 188 ls (.int x1 :: .int x :: st) I J Q ↔ ¬ x1 = 0 ∧ At 145 189 ls (.int (x / x1) :: st) I J Q := A_idiv (ab_io ci145 (by decide +kernel))
theorem k145_189 : At 145 189 ls (.int x :: st) I J Q ↔ At 145 190 ls (.long x.toInt64 :: st) I J Q := A_i2l (ab_io ci145 (by decide +kernel))
theorem k145_190 : At 145 190 ls (.long u1 :: .long u :: st) I J Q ↔ At 145 191 ls (.long (u - u1) :: st) I J Q := A_lsub (ab_io ci145 (by decide +kernel))
theorem k145_191 : At 145 191 ls st I J Q ↔ At 145 195 ls st I J Q := A_goto (o := 4) (ab_io ci145 (by decide +kernel)) (by decide)
theorem k145_194 : At 145 194 ls st I J Q ↔ At 145 195 ls (.long 0 :: st) I J Q := A_lconst (n := 0) (ab_io ci145 (by decide +kernel)) rfl
theorem k145_195 : At 145 195 ls (.long u1 :: .long u :: st) I J Q ↔ At 145 196 ls (.long (u + u1) :: st) I J Q := A_ladd (ab_io ci145 (by decide +kernel))
theorem k145_196 : At 145 196 ls (.long u :: .int x :: .ref r :: st) I J Q ↔ ((ab_ly r).1 = 2 ∧ r < 75 ∧ 0 ≤ x.toInt ∧ x.toInt < (ab_ly r).2) ∧ At 145 197 ls st I (va_up J r (va_up (J r) x.toNatClampNeg u)) Q := A_lastore (ab_io ci145 (by decide +kernel))
theorem k145_197 : At 145 197 [a0, a1, a2, a3, a4, a5, some (.int x), a7] st I J Q ↔ At 145 200 [a0, a1, a2, a3, a4, ab_nv a5, some (.int (x + (nI 1))), a7] st I J Q := A_iinc (q := 6) (ab_io ci145 (by decide +kernel)) ic_1 (Nat.le_of_ble_eq_true rfl) rfl rfl
theorem k145_200 : At 145 200 ls st I J Q ↔ At 145 107 ls st I J Q := A_goto (o := (-93)) (ab_io ci145 (by decide +kernel)) (by decide)
theorem k145_203 : At 145 203 [a0, a1, a2, a3, a4, some (.int x), a6, a7] st I J Q ↔ At 145 206 [a0, a1, a2, a3, ab_nv a4, some (.int (x + (nI 1))), a6, a7] st I J Q := A_iinc (q := 5) (ab_io ci145 (by decide +kernel)) ic_1 (Nat.le_of_ble_eq_true rfl) rfl rfl
theorem k145_206 : At 145 206 ls st I J Q ↔ At 145 93 ls st I J Q := A_goto (o := (-113)) (ab_io ci145 (by decide +kernel)) (by decide)
theorem k145_209 : At 145 209 [a0, a1, a2, some (.int x), a4, a5, a6, a7] st I J Q ↔ At 145 212 [a0, a1, ab_nv a2, some (.int (x + (nI 1))), a4, a5, a6, a7] st I J Q := A_iinc (q := 3) (ab_io ci145 (by decide +kernel)) ic_1 (Nat.le_of_ble_eq_true rfl) rfl rfl
theorem k145_212 : At 145 212 ls st I J Q ↔ At 145 63 ls st I J Q := A_goto (o := (-149)) (ab_io ci145 (by decide +kernel)) (by decide)
theorem k145_215 : At 145 215 ls st I J Q ↔ At 145 216 ls (.int (nI 0) :: st) I J Q := A_iconst (ab_io ci145 (by decide +kernel)) ic_0
theorem k145_216 : At 145 216 [a0, a1, a2, a3, a4, a5, a6, a7] (.int x :: st) I J Q ↔ At 145 217 [a0, a1, ab_nv a2, some (.int x), a4, a5, a6, a7] st I J Q := A_istore_n (q := 3) (ab_io ci145 (by decide +kernel)) (Nat.le_of_ble_eq_true rfl) rfl
theorem k145_217 : At 145 217 [a0, a1, a2, some (.int x), a4, a5, a6, a7] st I J Q ↔ At 145 218 [a0, a1, a2, some (.int x), a4, a5, a6, a7] (.int x :: st) I J Q := A_iload_n (q := 3) (ab_io ci145 (by decide +kernel)) rfl
theorem k145_218 : At 145 218 [a0, a1, some (.int x), a3, a4, a5, a6, a7] st I J Q ↔ At 145 219 [a0, a1, some (.int x), a3, a4, a5, a6, a7] (.int x :: st) I J Q := A_iload_n (q := 2) (ab_io ci145 (by decide +kernel)) rfl
theorem k145_219 : At 145 219 ls (.int x1 :: .int x :: st) I J Q ↔ if x1 ≤ x then At 145 249 ls st I J Q else At 145 222 ls st I J Q := A_if_icmp_ge (o := 30) (ab_io ci145 (by decide +kernel)) (by decide)
theorem k145_222 : At 145 222 [some (.ref r), a1, a2, a3, a4, a5, a6, a7] st I J Q ↔ At 145 223 [some (.ref r), a1, a2, a3, a4, a5, a6, a7] (.ref r :: st) I J Q := A_aload_n (q := 0) (ab_io ci145 (by decide +kernel)) rfl
theorem k145_223 : At 145 223 ls (.ref 49 :: st) I J Q ↔ At 145 226 ls (.ref 59 :: st) I J Q := A_getR (ab_io ci145 (by decide +kernel)) ow145 fq8_41_49
theorem k145_226 : At 145 226 ls st I J Q ↔ At 145 227 ls (.int (nI 4) :: st) I J Q := A_iconst (ab_io ci145 (by decide +kernel)) ic_4
theorem k145_227 : At 145 227 [a0, a1, a2, some (.int x), a4, a5, a6, a7] st I J Q ↔ At 145 228 [a0, a1, a2, some (.int x), a4, a5, a6, a7] (.int x :: st) I J Q := A_iload_n (q := 3) (ab_io ci145 (by decide +kernel)) rfl
theorem k145_228 : At 145 228 ls (.int x1 :: .int x :: st) I J Q ↔ At 145 229 ls (.int (x * x1) :: st) I J Q := A_imul (ab_io ci145 (by decide +kernel))
theorem k145_229 : At 145 229 ls st I J Q ↔ At 145 230 ls (.int (nI 3) :: st) I J Q := A_iconst (ab_io ci145 (by decide +kernel)) ic_3
theorem k145_230 : At 145 230 ls (.int x1 :: .int x :: st) I J Q ↔ At 145 231 ls (.int (x + x1) :: st) I J Q := A_iadd (ab_io ci145 (by decide +kernel))
theorem k145_231 : At 145 231 [some (.ref r), a1, a2, a3, a4, a5, a6, a7] st I J Q ↔ At 145 232 [some (.ref r), a1, a2, a3, a4, a5, a6, a7] (.ref r :: st) I J Q := A_aload_n (q := 0) (ab_io ci145 (by decide +kernel)) rfl
theorem k145_232 : At 145 232 ls (.ref 49 :: st) I J Q ↔ At 145 235 ls (.ref 60 :: st) I J Q := A_getR (ab_io ci145 (by decide +kernel)) ow145 fq8_45_49
theorem k145_235 : At 145 235 [some (.ref r), a1, a2, a3, a4, a5, a6, a7] st I J Q ↔ At 145 236 [some (.ref r), a1, a2, a3, a4, a5, a6, a7] (.ref r :: st) I J Q := A_aload_n (q := 0) (ab_io ci145 (by decide +kernel)) rfl
theorem k145_236 : At 145 236 ls (.ref 49 :: st) I J Q ↔ At 145 239 ls (.ref 58 :: st) I J Q := A_getR (ab_io ci145 (by decide +kernel)) ow145 fq8_38_49
theorem k145_239 : At 145 239 [a0, a1, a2, some (.int x), a4, a5, a6, a7] st I J Q ↔ At 145 240 [a0, a1, a2, some (.int x), a4, a5, a6, a7] (.int x :: st) I J Q := A_iload_n (q := 3) (ab_io ci145 (by decide +kernel)) rfl
theorem k145_240 : At 145 240 ls (.int x :: .ref r :: st) I J Q ↔ ((ab_ly r).1 = 1 ∧ r < 75 ∧ 0 ≤ x.toInt ∧ x.toInt < (ab_ly r).2) ∧ At 145 241 ls (.int (I r x.toNatClampNeg) :: st) I J Q := A_iaload (ab_io ci145 (by decide +kernel))
theorem k145_241 : At 145 241 ls (.int x :: .ref r :: st) I J Q ↔ ((ab_ly r).1 = 2 ∧ r < 75 ∧ 0 ≤ x.toInt ∧ x.toInt < (ab_ly r).2) ∧ At 145 242 ls (.long (J r x.toNatClampNeg) :: st) I J Q := A_laload (ab_io ci145 (by decide +kernel))
theorem k145_242 : At 145 242 ls (.long u :: .int x :: .ref r :: st) I J Q ↔ ((ab_ly r).1 = 2 ∧ r < 75 ∧ 0 ≤ x.toInt ∧ x.toInt < (ab_ly r).2) ∧ At 145 243 ls st I (va_up J r (va_up (J r) x.toNatClampNeg u)) Q := A_lastore (ab_io ci145 (by decide +kernel))
theorem k145_243 : At 145 243 [a0, a1, a2, some (.int x), a4, a5, a6, a7] st I J Q ↔ At 145 246 [a0, a1, ab_nv a2, some (.int (x + (nI 1))), a4, a5, a6, a7] st I J Q := A_iinc (q := 3) (ab_io ci145 (by decide +kernel)) ic_1 (Nat.le_of_ble_eq_true rfl) rfl rfl
theorem k145_246 : At 145 246 ls st I J Q ↔ At 145 217 ls st I J Q := A_goto (o := (-29)) (ab_io ci145 (by decide +kernel)) (by decide)
theorem k145_249 : At 145 249 [some (.ref r), a1, a2, a3, a4, a5, a6, a7] st I J Q ↔ At 145 250 [some (.ref r), a1, a2, a3, a4, a5, a6, a7] (.ref r :: st) I J Q := A_aload_n (q := 0) (ab_io ci145 (by decide +kernel)) rfl
theorem k145_250 : At 145 250 [a0, a1, some (.int x), a3, a4, a5, a6, a7] st I J Q ↔ At 145 251 [a0, a1, some (.int x), a3, a4, a5, a6, a7] (.int x :: st) I J Q := A_iload_n (q := 2) (ab_io ci145 (by decide +kernel)) rfl
theorem k145_251 : At 145 251 ls [.int p0, .ref 49] I J Q ↔ Cal 144 [.ref 49, .int p0] I J (fun v I' J' => At 145 254 ls (v.toList ++ []) I' J' Q) := A_cal (kd := 0) (j := 145) (na := 2) (ea := 2) (rk := 49) (by decide +kernel) rfl rfl rfl (Or.inr rfl) (Nat.le_of_ble_eq_true rfl)
theorem k145_254 : At 145 254 [some (.ref r), a1, a2, a3, a4, a5, a6, a7] st I J Q ↔ At 145 255 [some (.ref r), a1, a2, a3, a4, a5, a6, a7] (.ref r :: st) I J Q := A_aload_n (q := 0) (ab_io ci145 (by decide +kernel)) rfl
theorem k145_255 : At 145 255 [a0, a1, some (.int x), a3, a4, a5, a6, a7] st I J Q ↔ At 145 256 [a0, a1, some (.int x), a3, a4, a5, a6, a7] (.int x :: st) I J Q := A_iload_n (q := 2) (ab_io ci145 (by decide +kernel)) rfl
theorem k145_256 : At 145 256 ls (.int x :: st) I J Q ↔ if ¬ x = 0 then At 145 263 ls st I J Q else At 145 259 ls st I J Q := A_ifCond_ne (o := 7) (ab_io ci145 (by decide +kernel)) (by decide)
theorem k145_259 : At 145 259 ls st I J Q ↔ At 145 260 ls (.long 1 :: st) I J Q := A_lconst (n := 1) (ab_io ci145 (by decide +kernel)) rfl
theorem k145_260 : At 145 260 ls st I J Q ↔ At 145 269 ls st I J Q := A_goto (o := 9) (ab_io ci145 (by decide +kernel)) (by decide)
theorem k145_263 : At 145 263 [some (.ref r), a1, a2, a3, a4, a5, a6, a7] st I J Q ↔ At 145 264 [some (.ref r), a1, a2, a3, a4, a5, a6, a7] (.ref r :: st) I J Q := A_aload_n (q := 0) (ab_io ci145 (by decide +kernel)) rfl
theorem k145_264 : At 145 264 ls (.ref 49 :: st) I J Q ↔ At 145 267 ls (.ref 59 :: st) I J Q := A_getR (ab_io ci145 (by decide +kernel)) ow145 fq8_41_49
theorem k145_267 : At 145 267 ls st I J Q ↔ At 145 268 ls (.int (nI 0) :: st) I J Q := A_iconst (ab_io ci145 (by decide +kernel)) ic_0
theorem k145_268 : At 145 268 ls (.int x :: .ref r :: st) I J Q ↔ ((ab_ly r).1 = 2 ∧ r < 75 ∧ 0 ≤ x.toInt ∧ x.toInt < (ab_ly r).2) ∧ At 145 269 ls (.long (J r x.toNatClampNeg) :: st) I J Q := A_laload (ab_io ci145 (by decide +kernel))
theorem k145_269 : At 145 269 ls (.long u :: .ref 49 :: st) I J Q ↔ At 145 272 ls st I (va_up J 49 (va_up (J 49) 14 u)) Q := A_putJ (ab_io ci145 (by decide +kernel)) ow145 fq8_149_49
theorem k145_272 : At 145 272 ls st I J Q ↔ At 145 273 ls (.int (nI 0) :: st) I J Q := A_iconst (ab_io ci145 (by decide +kernel)) ic_0
theorem k145_273 : At 145 273 [a0, a1, a2, a3, a4, a5, a6, a7] (.int x :: st) I J Q ↔ At 145 274 [a0, a1, ab_nv a2, some (.int x), a4, a5, a6, a7] st I J Q := A_istore_n (q := 3) (ab_io ci145 (by decide +kernel)) (Nat.le_of_ble_eq_true rfl) rfl
theorem k145_274 : At 145 274 [a0, a1, a2, some (.int x), a4, a5, a6, a7] st I J Q ↔ At 145 275 [a0, a1, a2, some (.int x), a4, a5, a6, a7] (.int x :: st) I J Q := A_iload_n (q := 3) (ab_io ci145 (by decide +kernel)) rfl
theorem k145_275 : At 145 275 ls st I J Q ↔ At 145 276 ls (.int (nI 4) :: st) I J Q := A_iconst (ab_io ci145 (by decide +kernel)) ic_4
theorem k145_276 : At 145 276 ls (.int x1 :: .int x :: st) I J Q ↔ if x1 ≤ x then At 145 292 ls st I J Q else At 145 279 ls st I J Q := A_if_icmp_ge (o := 16) (ab_io ci145 (by decide +kernel)) (by decide)
theorem k145_279 : At 145 279 [some (.ref r), a1, a2, a3, a4, a5, a6, a7] st I J Q ↔ At 145 280 [some (.ref r), a1, a2, a3, a4, a5, a6, a7] (.ref r :: st) I J Q := A_aload_n (q := 0) (ab_io ci145 (by decide +kernel)) rfl
theorem k145_280 : At 145 280 ls (.ref 49 :: st) I J Q ↔ At 145 283 ls (.ref 61 :: st) I J Q := A_getR (ab_io ci145 (by decide +kernel)) ow145 fq8_48_49
theorem k145_283 : At 145 283 [a0, a1, a2, some (.int x), a4, a5, a6, a7] st I J Q ↔ At 145 284 [a0, a1, a2, some (.int x), a4, a5, a6, a7] (.int x :: st) I J Q := A_iload_n (q := 3) (ab_io ci145 (by decide +kernel)) rfl
theorem k145_284 : At 145 284 ls st I J Q ↔ At 145 285 ls (.long 0 :: st) I J Q := A_lconst (n := 0) (ab_io ci145 (by decide +kernel)) rfl
theorem k145_285 : At 145 285 ls (.long u :: .int x :: .ref r :: st) I J Q ↔ ((ab_ly r).1 = 2 ∧ r < 75 ∧ 0 ≤ x.toInt ∧ x.toInt < (ab_ly r).2) ∧ At 145 286 ls st I (va_up J r (va_up (J r) x.toNatClampNeg u)) Q := A_lastore (ab_io ci145 (by decide +kernel))
theorem k145_286 : At 145 286 [a0, a1, a2, some (.int x), a4, a5, a6, a7] st I J Q ↔ At 145 289 [a0, a1, ab_nv a2, some (.int (x + (nI 1))), a4, a5, a6, a7] st I J Q := A_iinc (q := 3) (ab_io ci145 (by decide +kernel)) ic_1 (Nat.le_of_ble_eq_true rfl) rfl rfl
theorem k145_289 : At 145 289 ls st I J Q ↔ At 145 274 ls st I J Q := A_goto (o := (-15)) (ab_io ci145 (by decide +kernel)) (by decide)
theorem k145_292 : At 145 292 ls st I J Q ↔ At 145 293 ls (.int (nI 0) :: st) I J Q := A_iconst (ab_io ci145 (by decide +kernel)) ic_0
theorem k145_293 : At 145 293 [a0, a1, a2, a3, a4, a5, a6, a7] (.int x :: st) I J Q ↔ At 145 294 [a0, a1, ab_nv a2, some (.int x), a4, a5, a6, a7] st I J Q := A_istore_n (q := 3) (ab_io ci145 (by decide +kernel)) (Nat.le_of_ble_eq_true rfl) rfl
theorem k145_294 : At 145 294 [a0, a1, a2, some (.int x), a4, a5, a6, a7] st I J Q ↔ At 145 295 [a0, a1, a2, some (.int x), a4, a5, a6, a7] (.int x :: st) I J Q := A_iload_n (q := 3) (ab_io ci145 (by decide +kernel)) rfl
theorem k145_295 : At 145 295 [a0, a1, some (.int x), a3, a4, a5, a6, a7] st I J Q ↔ At 145 296 [a0, a1, some (.int x), a3, a4, a5, a6, a7] (.int x :: st) I J Q := A_iload_n (q := 2) (ab_io ci145 (by decide +kernel)) rfl
theorem k145_296 : At 145 296 ls (.int x1 :: .int x :: st) I J Q ↔ if x1 ≤ x then At 145 326 ls st I J Q else At 145 299 ls st I J Q := A_if_icmp_ge (o := 30) (ab_io ci145 (by decide +kernel)) (by decide)
theorem k145_299 : At 145 299 [some (.ref r), a1, a2, a3, a4, a5, a6, a7] st I J Q ↔ At 145 300 [some (.ref r), a1, a2, a3, a4, a5, a6, a7] (.ref r :: st) I J Q := A_aload_n (q := 0) (ab_io ci145 (by decide +kernel)) rfl
theorem k145_300 : At 145 300 ls (.ref 49 :: st) I J Q ↔ At 145 303 ls (.ref 61 :: st) I J Q := A_getR (ab_io ci145 (by decide +kernel)) ow145 fq8_48_49
theorem k145_303 : At 145 303 [some (.ref r), a1, a2, a3, a4, a5, a6, a7] st I J Q ↔ At 145 304 [some (.ref r), a1, a2, a3, a4, a5, a6, a7] (.ref r :: st) I J Q := A_aload_n (q := 0) (ab_io ci145 (by decide +kernel)) rfl
theorem k145_304 : At 145 304 ls (.ref 49 :: st) I J Q ↔ At 145 307 ls (.ref 58 :: st) I J Q := A_getR (ab_io ci145 (by decide +kernel)) ow145 fq8_38_49
theorem k145_307 : At 145 307 [a0, a1, a2, some (.int x), a4, a5, a6, a7] st I J Q ↔ At 145 308 [a0, a1, a2, some (.int x), a4, a5, a6, a7] (.int x :: st) I J Q := A_iload_n (q := 3) (ab_io ci145 (by decide +kernel)) rfl
theorem k145_308 : At 145 308 ls (.int x :: .ref r :: st) I J Q ↔ ((ab_ly r).1 = 1 ∧ r < 75 ∧ 0 ≤ x.toInt ∧ x.toInt < (ab_ly r).2) ∧ At 145 309 ls (.int (I r x.toNatClampNeg) :: st) I J Q := A_iaload (ab_io ci145 (by decide +kernel))
theorem k145_309 : At 145 309 [some (.ref r), a1, a2, a3, a4, a5, a6, a7] st I J Q ↔ At 145 310 [some (.ref r), a1, a2, a3, a4, a5, a6, a7] (.ref r :: st) I J Q := A_aload_n (q := 0) (ab_io ci145 (by decide +kernel)) rfl
theorem k145_310 : At 145 310 ls (.ref 49 :: st) I J Q ↔ At 145 313 ls (.ref 59 :: st) I J Q := A_getR (ab_io ci145 (by decide +kernel)) ow145 fq8_41_49
theorem k145_313 : At 145 313 ls st I J Q ↔ At 145 314 ls (.int (nI 4) :: st) I J Q := A_iconst (ab_io ci145 (by decide +kernel)) ic_4
theorem k145_314 : At 145 314 [a0, a1, a2, some (.int x), a4, a5, a6, a7] st I J Q ↔ At 145 315 [a0, a1, a2, some (.int x), a4, a5, a6, a7] (.int x :: st) I J Q := A_iload_n (q := 3) (ab_io ci145 (by decide +kernel)) rfl
theorem k145_315 : At 145 315 ls (.int x1 :: .int x :: st) I J Q ↔ At 145 316 ls (.int (x * x1) :: st) I J Q := A_imul (ab_io ci145 (by decide +kernel))
theorem k145_316 : At 145 316 ls st I J Q ↔ At 145 317 ls (.int (nI 3) :: st) I J Q := A_iconst (ab_io ci145 (by decide +kernel)) ic_3
theorem k145_317 : At 145 317 ls (.int x1 :: .int x :: st) I J Q ↔ At 145 318 ls (.int (x + x1) :: st) I J Q := A_iadd (ab_io ci145 (by decide +kernel))
theorem k145_318 : At 145 318 ls (.int x :: .ref r :: st) I J Q ↔ ((ab_ly r).1 = 2 ∧ r < 75 ∧ 0 ≤ x.toInt ∧ x.toInt < (ab_ly r).2) ∧ At 145 319 ls (.long (J r x.toNatClampNeg) :: st) I J Q := A_laload (ab_io ci145 (by decide +kernel))
theorem k145_319 : At 145 319 ls (.long u :: .int x :: .ref r :: st) I J Q ↔ ((ab_ly r).1 = 2 ∧ r < 75 ∧ 0 ≤ x.toInt ∧ x.toInt < (ab_ly r).2) ∧ At 145 320 ls st I (va_up J r (va_up (J r) x.toNatClampNeg u)) Q := A_lastore (ab_io ci145 (by decide +kernel))
theorem k145_320 : At 145 320 [a0, a1, a2, some (.int x), a4, a5, a6, a7] st I J Q ↔ At 145 323 [a0, a1, ab_nv a2, some (.int (x + (nI 1))), a4, a5, a6, a7] st I J Q := A_iinc (q := 3) (ab_io ci145 (by decide +kernel)) ic_1 (Nat.le_of_ble_eq_true rfl) rfl rfl
theorem k145_323 : At 145 323 ls st I J Q ↔ At 145 294 ls st I J Q := A_goto (o := (-29)) (ab_io ci145 (by decide +kernel)) (by decide)
theorem k145_326 : At 145 326 ls [] I J Q ↔ Q none I J := A_vret (ab_io ci145 (by decide +kernel)) rt145
theorem k146_0 : At 146 0 ls st I J Q ↔ At 146 1 ls (.int (nI 0) :: st) I J Q := A_iconst (ab_io ci146 (by decide +kernel)) ic_0
theorem k146_1 : At 146 1 [a0, a1, a2, a3, a4, a5, a6] (.int x :: st) I J Q ↔ At 146 2 [a0, ab_nv a1, some (.int x), a3, a4, a5, a6] st I J Q := A_istore_n (q := 2) (ab_io ci146 (by decide +kernel)) (Nat.le_of_ble_eq_true rfl) rfl
theorem k146_2 : At 146 2 [a0, a1, some (.int x), a3, a4, a5, a6] st I J Q ↔ At 146 3 [a0, a1, some (.int x), a3, a4, a5, a6] (.int x :: st) I J Q := A_iload_n (q := 2) (ab_io ci146 (by decide +kernel)) rfl
theorem k146_3 : At 146 3 ls st I J Q ↔ At 146 4 ls (.int (nI 4) :: st) I J Q := A_iconst (ab_io ci146 (by decide +kernel)) ic_4
theorem k146_4 : At 146 4 ls (.int x1 :: .int x :: st) I J Q ↔ if x1 ≤ x then At 146 95 ls st I J Q else At 146 7 ls st I J Q := A_if_icmp_ge (o := 91) (ab_io ci146 (by decide +kernel)) (by decide)
theorem k146_7 : At 146 7 [some (.ref r), a1, a2, a3, a4, a5, a6] st I J Q ↔ At 146 8 [some (.ref r), a1, a2, a3, a4, a5, a6] (.ref r :: st) I J Q := A_aload_n (q := 0) (ab_io ci146 (by decide +kernel)) rfl
theorem k146_8 : At 146 8 ls (.ref 49 :: st) I J Q ↔ At 146 11 ls (.ref 60 :: st) I J Q := A_getR (ab_io ci146 (by decide +kernel)) ow146 fq8_45_49
theorem k146_11 : At 146 11 [a0, a1, some (.int x), a3, a4, a5, a6] st I J Q ↔ At 146 12 [a0, a1, some (.int x), a3, a4, a5, a6] (.int x :: st) I J Q := A_iload_n (q := 2) (ab_io ci146 (by decide +kernel)) rfl
theorem k146_12 : At 146 12 ls st I J Q ↔ At 146 13 ls (.long 0 :: st) I J Q := A_lconst (n := 0) (ab_io ci146 (by decide +kernel)) rfl
theorem k146_13 : At 146 13 ls (.long u :: .int x :: .ref r :: st) I J Q ↔ ((ab_ly r).1 = 2 ∧ r < 75 ∧ 0 ≤ x.toInt ∧ x.toInt < (ab_ly r).2) ∧ At 146 14 ls st I (va_up J r (va_up (J r) x.toNatClampNeg u)) Q := A_lastore (ab_io ci146 (by decide +kernel))
theorem k146_14 : At 146 14 ls st I J Q ↔ At 146 15 ls (.int (nI 0) :: st) I J Q := A_iconst (ab_io ci146 (by decide +kernel)) ic_0
theorem k146_15 : At 146 15 [a0, a1, a2, a3, a4, a5, a6] (.int x :: st) I J Q ↔ At 146 16 [a0, a1, ab_nv a2, some (.int x), a4, a5, a6] st I J Q := A_istore_n (q := 3) (ab_io ci146 (by decide +kernel)) (Nat.le_of_ble_eq_true rfl) rfl
theorem k146_16 : At 146 16 [a0, a1, a2, some (.int x), a4, a5, a6] st I J Q ↔ At 146 17 [a0, a1, a2, some (.int x), a4, a5, a6] (.int x :: st) I J Q := A_iload_n (q := 3) (ab_io ci146 (by decide +kernel)) rfl
theorem k146_17 : At 146 17 ls st I J Q ↔ At 146 19 ls (.int (nI 12) :: st) I J Q := A_bipush (ab_io ci146 (by decide +kernel)) bc_12
theorem k146_19 : At 146 19 ls (.int x1 :: .int x :: st) I J Q ↔ if x1 ≤ x then At 146 89 ls st I J Q else At 146 22 ls st I J Q := A_if_icmp_ge (o := 70) (ab_io ci146 (by decide +kernel)) (by decide)
theorem k146_22 : At 146 22 [some (.ref r), a1, a2, a3, a4, a5, a6] st I J Q ↔ At 146 23 [some (.ref r), a1, a2, a3, a4, a5, a6] (.ref r :: st) I J Q := A_aload_n (q := 0) (ab_io ci146 (by decide +kernel)) rfl
theorem k146_23 : At 146 23 ls (.ref 49 :: st) I J Q ↔ At 146 26 ls (.ref 57 :: st) I J Q := A_getR (ab_io ci146 (by decide +kernel)) ow146 fq8_35_49
theorem k146_26 : At 146 26 ls st I J Q ↔ At 146 28 ls (.int (nI 12) :: st) I J Q := A_bipush (ab_io ci146 (by decide +kernel)) bc_12
theorem k146_28 : At 146 28 [a0, a1, some (.int x), a3, a4, a5, a6] st I J Q ↔ At 146 29 [a0, a1, some (.int x), a3, a4, a5, a6] (.int x :: st) I J Q := A_iload_n (q := 2) (ab_io ci146 (by decide +kernel)) rfl
theorem k146_29 : At 146 29 ls (.int x1 :: .int x :: st) I J Q ↔ At 146 30 ls (.int (x + x1) :: st) I J Q := A_iadd (ab_io ci146 (by decide +kernel))
theorem k146_30 : At 146 30 ls (.int x :: .ref r :: st) I J Q ↔ ((ab_ly r).1 = 1 ∧ r < 75 ∧ 0 ≤ x.toInt ∧ x.toInt < (ab_ly r).2) ∧ At 146 31 ls (.int (I r x.toNatClampNeg) :: st) I J Q := A_iaload (ab_io ci146 (by decide +kernel))
theorem k146_31 : At 146 31 [a0, some (.int x), a2, a3, a4, a5, a6] st I J Q ↔ At 146 32 [a0, some (.int x), a2, a3, a4, a5, a6] (.int x :: st) I J Q := A_iload_n (q := 1) (ab_io ci146 (by decide +kernel)) rfl
theorem k146_32 : At 146 32 ls (.int x1 :: .int x :: st) I J Q ↔ if ¬ x = x1 then At 146 89 ls st I J Q else At 146 35 ls st I J Q := A_if_icmp_ne (o := 57) (ab_io ci146 (by decide +kernel)) (by decide)
theorem k146_35 : At 146 35 [some (.ref r), a1, a2, a3, a4, a5, a6] st I J Q ↔ At 146 36 [some (.ref r), a1, a2, a3, a4, a5, a6] (.ref r :: st) I J Q := A_aload_n (q := 0) (ab_io ci146 (by decide +kernel)) rfl
theorem k146_36 : At 146 36 [a0, a1, a2, some (.int x), a4, a5, a6] st I J Q ↔ At 146 37 [a0, a1, a2, some (.int x), a4, a5, a6] (.int x :: st) I J Q := A_iload_n (q := 3) (ab_io ci146 (by decide +kernel)) rfl
theorem k146_37 : At 146 37 [a0, a1, some (.int x), a3, a4, a5, a6] st I J Q ↔ At 146 38 [a0, a1, some (.int x), a3, a4, a5, a6] (.int x :: st) I J Q := A_iload_n (q := 2) (ab_io ci146 (by decide +kernel)) rfl
theorem k146_38 : At 146 38 ls [.int p0, .int p1, .ref 49] I J Q ↔ Cal 140 [.ref 49, .int p1, .int p0] I J (fun v I' J' => At 146 41 ls (v.toList ++ []) I' J' Q) := A_cal (kd := 0) (j := 136) (na := 3) (ea := 3) (rk := 49) (by decide +kernel) rfl rfl rfl (Or.inr rfl) (Nat.le_of_ble_eq_true rfl)
theorem k146_41 : At 146 41 ls st I J Q ↔ At 146 42 ls (.int (-1) :: st) I J Q := A_iconst (ab_io ci146 (by decide +kernel)) ic_m1
theorem k146_42 : At 146 42 ls (.int x1 :: .int x :: st) I J Q ↔ if x = x1 then At 146 83 ls st I J Q else At 146 45 ls st I J Q := A_if_icmp_eq (o := 41) (ab_io ci146 (by decide +kernel)) (by decide)
theorem k146_45 : At 146 45 [some (.ref r), a1, a2, a3, a4, a5, a6] st I J Q ↔ At 146 46 [some (.ref r), a1, a2, a3, a4, a5, a6] (.ref r :: st) I J Q := A_aload_n (q := 0) (ab_io ci146 (by decide +kernel)) rfl
theorem k146_46 : At 146 46 ls (.ref 49 :: st) I J Q ↔ At 146 49 ls (.ref 60 :: st) I J Q := A_getR (ab_io ci146 (by decide +kernel)) ow146 fq8_45_49
theorem k146_49 : At 146 49 [a0, a1, some (.int x), a3, a4, a5, a6] st I J Q ↔ At 146 50 [a0, a1, some (.int x), a3, a4, a5, a6] (.int x :: st) I J Q := A_iload_n (q := 2) (ab_io ci146 (by decide +kernel)) rfl
theorem k146_50 : At 146 50 ls (.int x :: .ref r :: st) I J Q ↔ At 146 51 ls (.int x :: .ref r :: .int x :: .ref r :: st) I J Q := A_dup2 (ab_io ci146 (by decide +kernel))
theorem k146_51 : At 146 51 ls (.int x :: .ref r :: st) I J Q ↔ ((ab_ly r).1 = 2 ∧ r < 75 ∧ 0 ≤ x.toInt ∧ x.toInt < (ab_ly r).2) ∧ At 146 52 ls (.long (J r x.toNatClampNeg) :: st) I J Q := A_laload (ab_io ci146 (by decide +kernel))
theorem k146_52 : At 146 52 ls st I J Q ↔ At 146 55 ls (.long 12 :: st) I J Q := A_ldc2_w (j := 143) (q := 1029) (ab_io ci146 (by decide +kernel)) ow146 (by decide +kernel)
theorem k146_55 : At 146 55 [some (.ref r), a1, a2, a3, a4, a5, a6] st I J Q ↔ At 146 56 [some (.ref r), a1, a2, a3, a4, a5, a6] (.ref r :: st) I J Q := A_aload_n (q := 0) (ab_io ci146 (by decide +kernel)) rfl
theorem k146_56 : At 146 56 [a0, a1, a2, some (.int x), a4, a5, a6] st I J Q ↔ At 146 57 [a0, a1, a2, some (.int x), a4, a5, a6] (.int x :: st) I J Q := A_iload_n (q := 3) (ab_io ci146 (by decide +kernel)) rfl
theorem k146_57 : At 146 57 ls [.int p0, .ref 49, .long qu0, .long qu1, .int q2, .ref qr3] I J Q ↔ Cal 143 [.ref 49, .int p0] I J (fun v I' J' => At 146 60 ls (v.toList ++ [.long qu0, .long qu1, .int q2, .ref qr3]) I' J' Q) := A_cal (kd := 0) (j := 140) (na := 2) (ea := 2) (rk := 49) (by decide +kernel) rfl rfl rfl (Or.inr rfl) (Nat.le_of_ble_eq_true rfl)
theorem k146_60 : At 146 60 ls (.int x :: st) I J Q ↔ At 146 61 ls (.long x.toInt64 :: st) I J Q := A_i2l (ab_io ci146 (by decide +kernel))
theorem k146_61 : At 146 61 ls (.long u1 :: .long u :: st) I J Q ↔ ¬ u1 = 0 ∧ At 146 62 ls (.long (u / u1) :: st) I J Q := A_ldiv (ab_io ci146 (by decide +kernel))
theorem k146_62 : At 146 62 [some (.ref r), a1, a2, a3, a4, a5, a6] st I J Q ↔ At 146 63 [some (.ref r), a1, a2, a3, a4, a5, a6] (.ref r :: st) I J Q := A_aload_n (q := 0) (ab_io ci146 (by decide +kernel)) rfl
theorem k146_63 : At 146 63 [a0, a1, a2, some (.int x), a4, a5, a6] st I J Q ↔ At 146 64 [a0, a1, a2, some (.int x), a4, a5, a6] (.int x :: st) I J Q := A_iload_n (q := 3) (ab_io ci146 (by decide +kernel)) rfl
theorem k146_64 : At 146 64 ls [.int p0, .ref 49, .long qu0, .long qu1, .int q2, .ref qr3] I J Q ↔ Cal 147 [.ref 49, .int p0] I J (fun v I' J' => At 146 67 ls (v.toList ++ [.long qu0, .long qu1, .int q2, .ref qr3]) I' J' Q) := A_cal (kd := 0) (j := 153) (na := 2) (ea := 2) (rk := 49) (by decide +kernel) rfl rfl rfl (Or.inr rfl) (Nat.le_of_ble_eq_true rfl)
theorem k146_67 : At 146 67 ls (.int x :: st) I J Q ↔ At 146 68 ls (.long x.toInt64 :: st) I J Q := A_i2l (ab_io ci146 (by decide +kernel))
theorem k146_68 : At 146 68 ls (.long u1 :: .long u :: st) I J Q ↔ At 146 69 ls (.long (u * u1) :: st) I J Q := A_lmul (ab_io ci146 (by decide +kernel))
theorem k146_69 : At 146 69 ls st I J Q ↔ At 146 72 ls (.long 12 :: st) I J Q := A_ldc2_w (j := 143) (q := 1029) (ab_io ci146 (by decide +kernel)) ow146 (by decide +kernel)
theorem k146_72 : At 146 72 [some (.ref r), a1, a2, a3, a4, a5, a6] st I J Q ↔ At 146 73 [some (.ref r), a1, a2, a3, a4, a5, a6] (.ref r :: st) I J Q := A_aload_n (q := 0) (ab_io ci146 (by decide +kernel)) rfl
theorem k146_73 : At 146 73 [a0, a1, a2, some (.int x), a4, a5, a6] st I J Q ↔ At 146 74 [a0, a1, a2, some (.int x), a4, a5, a6] (.int x :: st) I J Q := A_iload_n (q := 3) (ab_io ci146 (by decide +kernel)) rfl
theorem k146_74 : At 146 74 [a0, a1, some (.int x), a3, a4, a5, a6] st I J Q ↔ At 146 75 [a0, a1, some (.int x), a3, a4, a5, a6] (.int x :: st) I J Q := A_iload_n (q := 2) (ab_io ci146 (by decide +kernel)) rfl
theorem k146_75 : At 146 75 ls [.int p0, .int p1, .ref 49, .long qu0, .long qu1, .long qu2, .int q3, .ref qr4] I J Q ↔ Cal 140 [.ref 49, .int p1, .int p0] I J (fun v I' J' => At 146 78 ls (v.toList ++ [.long qu0, .long qu1, .long qu2, .int q3, .ref qr4]) I' J' Q) := A_cal (kd := 0) (j := 136) (na := 3) (ea := 3) (rk := 49) (by decide +kernel) rfl rfl rfl (Or.inr rfl) (Nat.le_of_ble_eq_true rfl)
theorem k146_78 : At 146 78 ls (.int x :: st) I J Q ↔ At 146 79 ls (.long x.toInt64 :: st) I J Q := A_i2l (ab_io ci146 (by decide +kernel))
theorem k146_79 : At 146 79 ls (.long u1 :: .long u :: st) I J Q ↔ At 146 80 ls (.long (u * u1) :: st) I J Q := A_lmul (ab_io ci146 (by decide +kernel))
theorem k146_80 : At 146 80 ls (.long u1 :: .long u :: st) I J Q ↔ At 146 81 ls (.long (u - u1) :: st) I J Q := A_lsub (ab_io ci146 (by decide +kernel))
theorem k146_81 : At 146 81 ls (.long u1 :: .long u :: st) I J Q ↔ At 146 82 ls (.long (u + u1) :: st) I J Q := A_ladd (ab_io ci146 (by decide +kernel))
theorem k146_82 : At 146 82 ls (.long u :: .int x :: .ref r :: st) I J Q ↔ ((ab_ly r).1 = 2 ∧ r < 75 ∧ 0 ≤ x.toInt ∧ x.toInt < (ab_ly r).2) ∧ At 146 83 ls st I (va_up J r (va_up (J r) x.toNatClampNeg u)) Q := A_lastore (ab_io ci146 (by decide +kernel))
theorem k146_83 : At 146 83 [a0, a1, a2, some (.int x), a4, a5, a6] st I J Q ↔ At 146 86 [a0, a1, ab_nv a2, some (.int (x + (nI 1))), a4, a5, a6] st I J Q := A_iinc (q := 3) (ab_io ci146 (by decide +kernel)) ic_1 (Nat.le_of_ble_eq_true rfl) rfl rfl
theorem k146_86 : At 146 86 ls st I J Q ↔ At 146 16 ls st I J Q := A_goto (o := (-70)) (ab_io ci146 (by decide +kernel)) (by decide)
theorem k146_89 : At 146 89 [a0, a1, some (.int x), a3, a4, a5, a6] st I J Q ↔ At 146 92 [a0, ab_nv a1, some (.int (x + (nI 1))), a3, a4, a5, a6] st I J Q := A_iinc (q := 2) (ab_io ci146 (by decide +kernel)) ic_1 (Nat.le_of_ble_eq_true rfl) rfl rfl
theorem k146_92 : At 146 92 ls st I J Q ↔ At 146 2 ls st I J Q := A_goto (o := (-90)) (ab_io ci146 (by decide +kernel)) (by decide)
theorem k146_95 : At 146 95 [some (.ref r), a1, a2, a3, a4, a5, a6] st I J Q ↔ At 146 96 [some (.ref r), a1, a2, a3, a4, a5, a6] (.ref r :: st) I J Q := A_aload_n (q := 0) (ab_io ci146 (by decide +kernel)) rfl
theorem k146_96 : At 146 96 [a0, some (.int x), a2, a3, a4, a5, a6] st I J Q ↔ At 146 97 [a0, some (.int x), a2, a3, a4, a5, a6] (.int x :: st) I J Q := A_iload_n (q := 1) (ab_io ci146 (by decide +kernel)) rfl
theorem k146_97 : At 146 97 ls [.int p0, .ref 49] I J Q ↔ Cal 145 [.ref 49, .int p0] I J (fun v I' J' => At 146 100 ls (v.toList ++ []) I' J' Q) := A_cal (kd := 0) (j := 156) (na := 2) (ea := 2) (rk := 49) (by decide +kernel) rfl rfl rfl (Or.inr rfl) (Nat.le_of_ble_eq_true rfl)
theorem k146_100 : At 146 100 [some (.ref r), a1, a2, a3, a4, a5, a6] st I J Q ↔ At 146 101 [some (.ref r), a1, a2, a3, a4, a5, a6] (.ref r :: st) I J Q := A_aload_n (q := 0) (ab_io ci146 (by decide +kernel)) rfl
theorem k146_101 : At 146 101 ls st I J Q ↔ At 146 104 ls (.long 12 :: st) I J Q := A_ldc2_w (j := 143) (q := 1029) (ab_io ci146 (by decide +kernel)) ow146 (by decide +kernel)
theorem k146_104 : At 146 104 [some (.ref r), a1, a2, a3, a4, a5, a6] st I J Q ↔ At 146 105 [some (.ref r), a1, a2, a3, a4, a5, a6] (.ref r :: st) I J Q := A_aload_n (q := 0) (ab_io ci146 (by decide +kernel)) rfl
theorem k146_105 : At 146 105 ls (.ref 49 :: st) I J Q ↔ At 146 108 ls (.long (J 49 14) :: st) I J Q := A_getJ (ab_io ci146 (by decide +kernel)) ow146 fq8_149_49
theorem k146_108 : At 146 108 ls (.long u1 :: .long u :: st) I J Q ↔ At 146 109 ls (.long (u * u1) :: st) I J Q := A_lmul (ab_io ci146 (by decide +kernel))
theorem k146_109 : At 146 109 ls (.long u :: .ref 49 :: st) I J Q ↔ At 146 112 ls st I (va_up J 49 (va_up (J 49) 17 u)) Q := A_putJ (ab_io ci146 (by decide +kernel)) ow146 fq8_159_49
theorem k146_112 : At 146 112 ls st I J Q ↔ At 146 113 ls (.int (nI 0) :: st) I J Q := A_iconst (ab_io ci146 (by decide +kernel)) ic_0
theorem k146_113 : At 146 113 [a0, a1, a2, a3, a4, a5, a6] (.int x :: st) I J Q ↔ At 146 114 [a0, ab_nv a1, some (.int x), a3, a4, a5, a6] st I J Q := A_istore_n (q := 2) (ab_io ci146 (by decide +kernel)) (Nat.le_of_ble_eq_true rfl) rfl
theorem k146_114 : At 146 114 [a0, a1, some (.int x), a3, a4, a5, a6] st I J Q ↔ At 146 115 [a0, a1, some (.int x), a3, a4, a5, a6] (.int x :: st) I J Q := A_iload_n (q := 2) (ab_io ci146 (by decide +kernel)) rfl
theorem k146_115 : At 146 115 ls st I J Q ↔ At 146 116 ls (.int (nI 4) :: st) I J Q := A_iconst (ab_io ci146 (by decide +kernel)) ic_4
theorem k146_116 : At 146 116 ls (.int x1 :: .int x :: st) I J Q ↔ if x1 ≤ x then At 146 141 ls st I J Q else At 146 119 ls st I J Q := A_if_icmp_ge (o := 25) (ab_io ci146 (by decide +kernel)) (by decide)
theorem k146_119 : At 146 119 [some (.ref r), a1, a2, a3, a4, a5, a6] st I J Q ↔ At 146 120 [some (.ref r), a1, a2, a3, a4, a5, a6] (.ref r :: st) I J Q := A_aload_n (q := 0) (ab_io ci146 (by decide +kernel)) rfl
theorem k146_120 : At 146 120 ls (.ref 49 :: st) I J Q ↔ At 146 123 ls (.ref 62 :: st) I J Q := A_getR (ab_io ci146 (by decide +kernel)) ow146 fq8_51_49
theorem k146_123 : At 146 123 [a0, a1, some (.int x), a3, a4, a5, a6] st I J Q ↔ At 146 124 [a0, a1, some (.int x), a3, a4, a5, a6] (.int x :: st) I J Q := A_iload_n (q := 2) (ab_io ci146 (by decide +kernel)) rfl
theorem k146_124 : At 146 124 ls st I J Q ↔ At 146 127 ls (.long 12 :: st) I J Q := A_ldc2_w (j := 143) (q := 1029) (ab_io ci146 (by decide +kernel)) ow146 (by decide +kernel)
theorem k146_127 : At 146 127 [some (.ref r), a1, a2, a3, a4, a5, a6] st I J Q ↔ At 146 128 [some (.ref r), a1, a2, a3, a4, a5, a6] (.ref r :: st) I J Q := A_aload_n (q := 0) (ab_io ci146 (by decide +kernel)) rfl
theorem k146_128 : At 146 128 ls (.ref 49 :: st) I J Q ↔ At 146 131 ls (.ref 61 :: st) I J Q := A_getR (ab_io ci146 (by decide +kernel)) ow146 fq8_48_49
theorem k146_131 : At 146 131 [a0, a1, some (.int x), a3, a4, a5, a6] st I J Q ↔ At 146 132 [a0, a1, some (.int x), a3, a4, a5, a6] (.int x :: st) I J Q := A_iload_n (q := 2) (ab_io ci146 (by decide +kernel)) rfl
theorem k146_132 : At 146 132 ls (.int x :: .ref r :: st) I J Q ↔ ((ab_ly r).1 = 2 ∧ r < 75 ∧ 0 ≤ x.toInt ∧ x.toInt < (ab_ly r).2) ∧ At 146 133 ls (.long (J r x.toNatClampNeg) :: st) I J Q := A_laload (ab_io ci146 (by decide +kernel))
theorem k146_133 : At 146 133 ls (.long u1 :: .long u :: st) I J Q ↔ At 146 134 ls (.long (u * u1) :: st) I J Q := A_lmul (ab_io ci146 (by decide +kernel))
theorem k146_134 : At 146 134 ls (.long u :: .int x :: .ref r :: st) I J Q ↔ ((ab_ly r).1 = 2 ∧ r < 75 ∧ 0 ≤ x.toInt ∧ x.toInt < (ab_ly r).2) ∧ At 146 135 ls st I (va_up J r (va_up (J r) x.toNatClampNeg u)) Q := A_lastore (ab_io ci146 (by decide +kernel))
theorem k146_135 : At 146 135 [a0, a1, some (.int x), a3, a4, a5, a6] st I J Q ↔ At 146 138 [a0, ab_nv a1, some (.int (x + (nI 1))), a3, a4, a5, a6] st I J Q := A_iinc (q := 2) (ab_io ci146 (by decide +kernel)) ic_1 (Nat.le_of_ble_eq_true rfl) rfl rfl
theorem k146_138 : At 146 138 ls st I J Q ↔ At 146 114 ls st I J Q := A_goto (o := (-24)) (ab_io ci146 (by decide +kernel)) (by decide)
theorem k146_141 : At 146 141 ls st I J Q ↔ At 146 142 ls (.int (nI 0) :: st) I J Q := A_iconst (ab_io ci146 (by decide +kernel)) ic_0
theorem k146_142 : At 146 142 [a0, a1, a2, a3, a4, a5, a6] (.int x :: st) I J Q ↔ At 146 143 [a0, ab_nv a1, some (.int x), a3, a4, a5, a6] st I J Q := A_istore_n (q := 2) (ab_io ci146 (by decide +kernel)) (Nat.le_of_ble_eq_true rfl) rfl
theorem k146_143 : At 146 143 [a0, a1, some (.int x), a3, a4, a5, a6] st I J Q ↔ At 146 144 [a0, a1, some (.int x), a3, a4, a5, a6] (.int x :: st) I J Q := A_iload_n (q := 2) (ab_io ci146 (by decide +kernel)) rfl
theorem k146_144 : At 146 144 ls st I J Q ↔ At 146 146 ls (.int (nI 12) :: st) I J Q := A_bipush (ab_io ci146 (by decide +kernel)) bc_12
theorem k146_146 : At 146 146 ls (.int x1 :: .int x :: st) I J Q ↔ if x1 ≤ x then At 146 251 ls st I J Q else At 146 149 ls st I J Q := A_if_icmp_ge (o := 105) (ab_io ci146 (by decide +kernel)) (by decide)
theorem k146_149 : At 146 149 [some (.ref r), a1, a2, a3, a4, a5, a6] st I J Q ↔ At 146 150 [some (.ref r), a1, a2, a3, a4, a5, a6] (.ref r :: st) I J Q := A_aload_n (q := 0) (ab_io ci146 (by decide +kernel)) rfl
theorem k146_150 : At 146 150 ls (.ref 49 :: st) I J Q ↔ At 146 153 ls (.ref 63 :: st) I J Q := A_getR (ab_io ci146 (by decide +kernel)) ow146 fq8_54_49
theorem k146_153 : At 146 153 [a0, a1, some (.int x), a3, a4, a5, a6] st I J Q ↔ At 146 154 [a0, a1, some (.int x), a3, a4, a5, a6] (.int x :: st) I J Q := A_iload_n (q := 2) (ab_io ci146 (by decide +kernel)) rfl
theorem k146_154 : At 146 154 ls st I J Q ↔ At 146 155 ls (.long 0 :: st) I J Q := A_lconst (n := 0) (ab_io ci146 (by decide +kernel)) rfl
theorem k146_155 : At 146 155 ls (.long u :: .int x :: .ref r :: st) I J Q ↔ ((ab_ly r).1 = 2 ∧ r < 75 ∧ 0 ≤ x.toInt ∧ x.toInt < (ab_ly r).2) ∧ At 146 156 ls st I (va_up J r (va_up (J r) x.toNatClampNeg u)) Q := A_lastore (ab_io ci146 (by decide +kernel))
theorem k146_156 : At 146 156 [some (.ref r), a1, a2, a3, a4, a5, a6] st I J Q ↔ At 146 157 [some (.ref r), a1, a2, a3, a4, a5, a6] (.ref r :: st) I J Q := A_aload_n (q := 0) (ab_io ci146 (by decide +kernel)) rfl
theorem k146_157 : At 146 157 ls (.ref 49 :: st) I J Q ↔ At 146 160 ls (.ref 57 :: st) I J Q := A_getR (ab_io ci146 (by decide +kernel)) ow146 fq8_35_49
theorem k146_160 : At 146 160 [a0, a1, some (.int x), a3, a4, a5, a6] st I J Q ↔ At 146 161 [a0, a1, some (.int x), a3, a4, a5, a6] (.int x :: st) I J Q := A_iload_n (q := 2) (ab_io ci146 (by decide +kernel)) rfl
theorem k146_161 : At 146 161 ls (.int x :: .ref r :: st) I J Q ↔ ((ab_ly r).1 = 1 ∧ r < 75 ∧ 0 ≤ x.toInt ∧ x.toInt < (ab_ly r).2) ∧ At 146 162 ls (.int (I r x.toNatClampNeg) :: st) I J Q := A_iaload (ab_io ci146 (by decide +kernel))
theorem k146_162 : At 146 162 [a0, some (.int x), a2, a3, a4, a5, a6] st I J Q ↔ At 146 163 [a0, some (.int x), a2, a3, a4, a5, a6] (.int x :: st) I J Q := A_iload_n (q := 1) (ab_io ci146 (by decide +kernel)) rfl
theorem k146_163 : At 146 163 ls (.int x1 :: .int x :: st) I J Q ↔ if ¬ x = x1 then At 146 245 ls st I J Q else At 146 166 ls st I J Q := A_if_icmp_ne (o := 82) (ab_io ci146 (by decide +kernel)) (by decide)
theorem k146_166 : At 146 166 [some (.ref r), a1, a2, a3, a4, a5, a6] st I J Q ↔ At 146 167 [some (.ref r), a1, a2, a3, a4, a5, a6] (.ref r :: st) I J Q := A_aload_n (q := 0) (ab_io ci146 (by decide +kernel)) rfl
theorem k146_167 : At 146 167 [a0, a1, some (.int x), a3, a4, a5, a6] st I J Q ↔ At 146 168 [a0, a1, some (.int x), a3, a4, a5, a6] (.int x :: st) I J Q := A_iload_n (q := 2) (ab_io ci146 (by decide +kernel)) rfl
theorem k146_168 : At 146 168 ls [.int p0, .ref 49] I J Q ↔ Cal 143 [.ref 49, .int p0] I J (fun v I' J' => At 146 171 ls (v.toList ++ []) I' J' Q) := A_cal (kd := 0) (j := 140) (na := 2) (ea := 2) (rk := 49) (by decide +kernel) rfl rfl rfl (Or.inr rfl) (Nat.le_of_ble_eq_true rfl)
theorem k146_171 : At 146 171 [a0, a1, a2, a3, a4, a5, a6] (.int x :: st) I J Q ↔ At 146 172 [a0, a1, ab_nv a2, some (.int x), a4, a5, a6] st I J Q := A_istore_n (q := 3) (ab_io ci146 (by decide +kernel)) (Nat.le_of_ble_eq_true rfl) rfl
theorem k146_172 : At 146 172 ls st I J Q ↔ At 146 173 ls (.long 0 :: st) I J Q := A_lconst (n := 0) (ab_io ci146 (by decide +kernel)) rfl
theorem k146_173 : At 146 173 [a0, a1, a2, a3, a4, a5, a6] (.long u :: st) I J Q ↔ At 146 175 [a0, a1, a2, ab_nv a3, some (.long u), none, a6] st I J Q := A_lstore (q := 4) (ab_io ci146 (by decide +kernel)) (Nat.le_of_ble_eq_true rfl) rfl
theorem k146_175 : At 146 175 ls st I J Q ↔ At 146 176 ls (.int (nI 0) :: st) I J Q := A_iconst (ab_io ci146 (by decide +kernel)) ic_0
theorem k146_176 : At 146 176 [a0, a1, a2, a3, a4, a5, a6] (.int x :: st) I J Q ↔ At 146 178 [a0, a1, a2, a3, a4, ab_nv a5, some (.int x)] st I J Q := A_istore (q := 6) (ab_io ci146 (by decide +kernel)) (Nat.le_of_ble_eq_true rfl) rfl
theorem k146_178 : At 146 178 [a0, a1, a2, a3, a4, a5, some (.int x)] st I J Q ↔ At 146 180 [a0, a1, a2, a3, a4, a5, some (.int x)] (.int x :: st) I J Q := A_iload (q := 6) (ab_io ci146 (by decide +kernel)) rfl
theorem k146_180 : At 146 180 ls st I J Q ↔ At 146 181 ls (.int (nI 4) :: st) I J Q := A_iconst (ab_io ci146 (by decide +kernel)) ic_4
theorem k146_181 : At 146 181 ls (.int x1 :: .int x :: st) I J Q ↔ if x1 ≤ x then At 146 231 ls st I J Q else At 146 184 ls st I J Q := A_if_icmp_ge (o := 50) (ab_io ci146 (by decide +kernel)) (by decide)
theorem k146_184 : At 146 184 [a0, a1, a2, a3, some (.long u), a5, a6] st I J Q ↔ At 146 186 [a0, a1, a2, a3, some (.long u), a5, a6] (.long u :: st) I J Q := A_lload (q := 4) (ab_io ci146 (by decide +kernel)) rfl
theorem k146_186 : At 146 186 [some (.ref r), a1, a2, a3, a4, a5, a6] st I J Q ↔ At 146 187 [some (.ref r), a1, a2, a3, a4, a5, a6] (.ref r :: st) I J Q := A_aload_n (q := 0) (ab_io ci146 (by decide +kernel)) rfl
theorem k146_187 : At 146 187 [a0, a1, some (.int x), a3, a4, a5, a6] st I J Q ↔ At 146 188 [a0, a1, some (.int x), a3, a4, a5, a6] (.int x :: st) I J Q := A_iload_n (q := 2) (ab_io ci146 (by decide +kernel)) rfl
theorem k146_188 : At 146 188 [a0, a1, a2, a3, a4, a5, some (.int x)] st I J Q ↔ At 146 190 [a0, a1, a2, a3, a4, a5, some (.int x)] (.int x :: st) I J Q := A_iload (q := 6) (ab_io ci146 (by decide +kernel)) rfl
theorem k146_190 : At 146 190 ls [.int p0, .int p1, .ref 49, .long qu0] I J Q ↔ Cal 140 [.ref 49, .int p1, .int p0] I J (fun v I' J' => At 146 193 ls (v.toList ++ [.long qu0]) I' J' Q) := A_cal (kd := 0) (j := 136) (na := 3) (ea := 3) (rk := 49) (by decide +kernel) rfl rfl rfl (Or.inr rfl) (Nat.le_of_ble_eq_true rfl)
theorem k146_193 : At 146 193 ls st I J Q ↔ At 146 194 ls (.int (-1) :: st) I J Q := A_iconst (ab_io ci146 (by decide +kernel)) ic_m1
theorem k146_194 : At 146 194 ls (.int x1 :: .int x :: st) I J Q ↔ if ¬ x = x1 then At 146 201 ls st I J Q else At 146 197 ls st I J Q := A_if_icmp_ne (o := 7) (ab_io ci146 (by decide +kernel)) (by decide)
theorem k146_197 : At 146 197 ls st I J Q ↔ At 146 198 ls (.long 0 :: st) I J Q := A_lconst (n := 0) (ab_io ci146 (by decide +kernel)) rfl
theorem k146_198 : At 146 198 ls st I J Q ↔ At 146 222 ls st I J Q := A_goto (o := 24) (ab_io ci146 (by decide +kernel)) (by decide)
theorem k146_201 : At 146 201 [some (.ref r), a1, a2, a3, a4, a5, a6] st I J Q ↔ At 146 202 [some (.ref r), a1, a2, a3, a4, a5, a6] (.ref r :: st) I J Q := A_aload_n (q := 0) (ab_io ci146 (by decide +kernel)) rfl
theorem k146_202 : At 146 202 [a0, a1, some (.int x), a3, a4, a5, a6] st I J Q ↔ At 146 203 [a0, a1, some (.int x), a3, a4, a5, a6] (.int x :: st) I J Q := A_iload_n (q := 2) (ab_io ci146 (by decide +kernel)) rfl
theorem k146_203 : At 146 203 [a0, a1, a2, a3, a4, a5, some (.int x)] st I J Q ↔ At 146 205 [a0, a1, a2, a3, a4, a5, some (.int x)] (.int x :: st) I J Q := A_iload (q := 6) (ab_io ci146 (by decide +kernel)) rfl
theorem k146_205 : At 146 205 ls [.int p0, .int p1, .ref 49, .long qu0] I J Q ↔ Cal 140 [.ref 49, .int p1, .int p0] I J (fun v I' J' => At 146 208 ls (v.toList ++ [.long qu0]) I' J' Q) := A_cal (kd := 0) (j := 136) (na := 3) (ea := 3) (rk := 49) (by decide +kernel) rfl rfl rfl (Or.inr rfl) (Nat.le_of_ble_eq_true rfl)
theorem k146_208 : At 146 208 ls (.int x :: st) I J Q ↔ At 146 209 ls (.long x.toInt64 :: st) I J Q := A_i2l (ab_io ci146 (by decide +kernel))
theorem k146_209 : At 146 209 [some (.ref r), a1, a2, a3, a4, a5, a6] st I J Q ↔ At 146 210 [some (.ref r), a1, a2, a3, a4, a5, a6] (.ref r :: st) I J Q := A_aload_n (q := 0) (ab_io ci146 (by decide +kernel)) rfl
theorem k146_210 : At 146 210 ls (.ref 49 :: st) I J Q ↔ At 146 213 ls (.long (J 49 14) :: st) I J Q := A_getJ (ab_io ci146 (by decide +kernel)) ow146 fq8_149_49
theorem k146_213 : At 146 213 ls (.long u1 :: .long u :: st) I J Q ↔ At 146 214 ls (.long (u * u1) :: st) I J Q := A_lmul (ab_io ci146 (by decide +kernel))
theorem k146_214 : At 146 214 [some (.ref r), a1, a2, a3, a4, a5, a6] st I J Q ↔ At 146 215 [some (.ref r), a1, a2, a3, a4, a5, a6] (.ref r :: st) I J Q := A_aload_n (q := 0) (ab_io ci146 (by decide +kernel)) rfl
theorem k146_215 : At 146 215 ls (.ref 49 :: st) I J Q ↔ At 146 218 ls (.ref 61 :: st) I J Q := A_getR (ab_io ci146 (by decide +kernel)) ow146 fq8_48_49
theorem k146_218 : At 146 218 [a0, a1, a2, a3, a4, a5, some (.int x)] st I J Q ↔ At 146 220 [a0, a1, a2, a3, a4, a5, some (.int x)] (.int x :: st) I J Q := A_iload (q := 6) (ab_io ci146 (by decide +kernel)) rfl
theorem k146_220 : At 146 220 ls (.int x :: .ref r :: st) I J Q ↔ ((ab_ly r).1 = 2 ∧ r < 75 ∧ 0 ≤ x.toInt ∧ x.toInt < (ab_ly r).2) ∧ At 146 221 ls (.long (J r x.toNatClampNeg) :: st) I J Q := A_laload (ab_io ci146 (by decide +kernel))
theorem k146_221 : At 146 221 ls (.long u1 :: .long u :: st) I J Q ↔ At 146 222 ls (.long (u + u1) :: st) I J Q := A_ladd (ab_io ci146 (by decide +kernel))
theorem k146_222 : At 146 222 ls (.long u1 :: .long u :: st) I J Q ↔ At 146 223 ls (.long (u + u1) :: st) I J Q := A_ladd (ab_io ci146 (by decide +kernel))
theorem k146_223 : At 146 223 [a0, a1, a2, a3, a4, a5, a6] (.long u :: st) I J Q ↔ At 146 225 [a0, a1, a2, ab_nv a3, some (.long u), none, a6] st I J Q := A_lstore (q := 4) (ab_io ci146 (by decide +kernel)) (Nat.le_of_ble_eq_true rfl) rfl
theorem k146_225 : At 146 225 [a0, a1, a2, a3, a4, a5, some (.int x)] st I J Q ↔ At 146 228 [a0, a1, a2, a3, a4, ab_nv a5, some (.int (x + (nI 1)))] st I J Q := A_iinc (q := 6) (ab_io ci146 (by decide +kernel)) ic_1 (Nat.le_of_ble_eq_true rfl) rfl rfl
theorem k146_228 : At 146 228 ls st I J Q ↔ At 146 178 ls st I J Q := A_goto (o := (-50)) (ab_io ci146 (by decide +kernel)) (by decide)
theorem k146_231 : At 146 231 [some (.ref r), a1, a2, a3, a4, a5, a6] st I J Q ↔ At 146 232 [some (.ref r), a1, a2, a3, a4, a5, a6] (.ref r :: st) I J Q := A_aload_n (q := 0) (ab_io ci146 (by decide +kernel)) rfl
theorem k146_232 : At 146 232 ls (.ref 49 :: st) I J Q ↔ At 146 235 ls (.ref 63 :: st) I J Q := A_getR (ab_io ci146 (by decide +kernel)) ow146 fq8_54_49
theorem k146_235 : At 146 235 [a0, a1, some (.int x), a3, a4, a5, a6] st I J Q ↔ At 146 236 [a0, a1, some (.int x), a3, a4, a5, a6] (.int x :: st) I J Q := A_iload_n (q := 2) (ab_io ci146 (by decide +kernel)) rfl
theorem k146_236 : At 146 236 [a0, a1, a2, a3, some (.long u), a5, a6] st I J Q ↔ At 146 238 [a0, a1, a2, a3, some (.long u), a5, a6] (.long u :: st) I J Q := A_lload (q := 4) (ab_io ci146 (by decide +kernel)) rfl
theorem k146_238 : At 146 238 ls st I J Q ↔ At 146 240 ls (.int (nI 12) :: st) I J Q := A_bipush (ab_io ci146 (by decide +kernel)) bc_12
theorem k146_240 : At 146 240 [a0, a1, a2, some (.int x), a4, a5, a6] st I J Q ↔ At 146 241 [a0, a1, a2, some (.int x), a4, a5, a6] (.int x :: st) I J Q := A_iload_n (q := 3) (ab_io ci146 (by decide +kernel)) rfl
theorem k146_241 : At 146 241 ls (.int x1 :: .int x :: st) I J Q ↔ ¬ x1 = 0 ∧ At 146 242 ls (.int (x / x1) :: st) I J Q := A_idiv (ab_io ci146 (by decide +kernel))
theorem k146_242 : At 146 242 ls (.int x :: st) I J Q ↔ At 146 243 ls (.long x.toInt64 :: st) I J Q := A_i2l (ab_io ci146 (by decide +kernel))
theorem k146_243 : At 146 243 ls (.long u1 :: .long u :: st) I J Q ↔ At 146 244 ls (.long (u * u1) :: st) I J Q := A_lmul (ab_io ci146 (by decide +kernel))
theorem k146_244 : At 146 244 ls (.long u :: .int x :: .ref r :: st) I J Q ↔ ((ab_ly r).1 = 2 ∧ r < 75 ∧ 0 ≤ x.toInt ∧ x.toInt < (ab_ly r).2) ∧ At 146 245 ls st I (va_up J r (va_up (J r) x.toNatClampNeg u)) Q := A_lastore (ab_io ci146 (by decide +kernel))
theorem k146_245 : At 146 245 [a0, a1, some (.int x), a3, a4, a5, a6] st I J Q ↔ At 146 248 [a0, ab_nv a1, some (.int (x + (nI 1))), a3, a4, a5, a6] st I J Q := A_iinc (q := 2) (ab_io ci146 (by decide +kernel)) ic_1 (Nat.le_of_ble_eq_true rfl) rfl rfl
theorem k146_248 : At 146 248 ls st I J Q ↔ At 146 143 ls st I J Q := A_goto (o := (-105)) (ab_io ci146 (by decide +kernel)) (by decide)
theorem k146_251 : At 146 251 ls [] I J Q ↔ Q none I J := A_vret (ab_io ci146 (by decide +kernel)) rt146
theorem k147_0 : At 147 0 ls st I J Q ↔ At 147 1 ls (.int (nI 0) :: st) I J Q := A_iconst (ab_io ci147 (by decide +kernel)) ic_0
theorem k147_1 : At 147 1 [a0, a1, a2, a3] (.int x :: st) I J Q ↔ At 147 2 [a0, ab_nv a1, some (.int x), a3] st I J Q := A_istore_n (q := 2) (ab_io ci147 (by decide +kernel)) (Nat.le_of_ble_eq_true rfl) rfl
theorem k147_2 : At 147 2 ls st I J Q ↔ At 147 3 ls (.int (nI 0) :: st) I J Q := A_iconst (ab_io ci147 (by decide +kernel)) ic_0
theorem k147_3 : At 147 3 [a0, a1, a2, a3] (.int x :: st) I J Q ↔ At 147 4 [a0, a1, ab_nv a2, some (.int x)] st I J Q := A_istore_n (q := 3) (ab_io ci147 (by decide +kernel)) (Nat.le_of_ble_eq_true rfl) rfl
theorem k147_4 : At 147 4 [a0, a1, a2, some (.int x)] st I J Q ↔ At 147 5 [a0, a1, a2, some (.int x)] (.int x :: st) I J Q := A_iload_n (q := 3) (ab_io ci147 (by decide +kernel)) rfl
theorem k147_5 : At 147 5 ls st I J Q ↔ At 147 6 ls (.int (nI 4) :: st) I J Q := A_iconst (ab_io ci147 (by decide +kernel)) ic_4
theorem k147_6 : At 147 6 ls (.int x1 :: .int x :: st) I J Q ↔ if x1 ≤ x then At 147 38 ls st I J Q else At 147 9 ls st I J Q := A_if_icmp_ge (o := 32) (ab_io ci147 (by decide +kernel)) (by decide)
theorem k147_9 : At 147 9 [a0, a1, some (.int x), a3] st I J Q ↔ At 147 10 [a0, a1, some (.int x), a3] (.int x :: st) I J Q := A_iload_n (q := 2) (ab_io ci147 (by decide +kernel)) rfl
theorem k147_10 : At 147 10 [some (.ref r), a1, a2, a3] st I J Q ↔ At 147 11 [some (.ref r), a1, a2, a3] (.ref r :: st) I J Q := A_aload_n (q := 0) (ab_io ci147 (by decide +kernel)) rfl
theorem k147_11 : At 147 11 [a0, some (.int x), a2, a3] st I J Q ↔ At 147 12 [a0, some (.int x), a2, a3] (.int x :: st) I J Q := A_iload_n (q := 1) (ab_io ci147 (by decide +kernel)) rfl
theorem k147_12 : At 147 12 [a0, a1, a2, some (.int x)] st I J Q ↔ At 147 13 [a0, a1, a2, some (.int x)] (.int x :: st) I J Q := A_iload_n (q := 3) (ab_io ci147 (by decide +kernel)) rfl
theorem k147_13 : At 147 13 ls [.int p0, .int p1, .ref 49, .int q0] I J Q ↔ Cal 140 [.ref 49, .int p1, .int p0] I J (fun v I' J' => At 147 16 ls (v.toList ++ [.int q0]) I' J' Q) := A_cal (kd := 0) (j := 136) (na := 3) (ea := 3) (rk := 49) (by decide +kernel) rfl rfl rfl (Or.inr rfl) (Nat.le_of_ble_eq_true rfl)
theorem k147_16 : At 147 16 ls st I J Q ↔ At 147 17 ls (.int (-1) :: st) I J Q := A_iconst (ab_io ci147 (by decide +kernel)) ic_m1
theorem k147_17 : At 147 17 ls (.int x1 :: .int x :: st) I J Q ↔ if ¬ x = x1 then At 147 24 ls st I J Q else At 147 20 ls st I J Q := A_if_icmp_ne (o := 7) (ab_io ci147 (by decide +kernel)) (by decide)
theorem k147_20 : At 147 20 ls st I J Q ↔ At 147 21 ls (.int (nI 0) :: st) I J Q := A_iconst (ab_io ci147 (by decide +kernel)) ic_0
theorem k147_21 : At 147 21 ls st I J Q ↔ At 147 30 ls st I J Q := A_goto (o := 9) (ab_io ci147 (by decide +kernel)) (by decide)
theorem k147_24 : At 147 24 [some (.ref r), a1, a2, a3] st I J Q ↔ At 147 25 [some (.ref r), a1, a2, a3] (.ref r :: st) I J Q := A_aload_n (q := 0) (ab_io ci147 (by decide +kernel)) rfl
theorem k147_25 : At 147 25 [a0, some (.int x), a2, a3] st I J Q ↔ At 147 26 [a0, some (.int x), a2, a3] (.int x :: st) I J Q := A_iload_n (q := 1) (ab_io ci147 (by decide +kernel)) rfl
theorem k147_26 : At 147 26 [a0, a1, a2, some (.int x)] st I J Q ↔ At 147 27 [a0, a1, a2, some (.int x)] (.int x :: st) I J Q := A_iload_n (q := 3) (ab_io ci147 (by decide +kernel)) rfl
theorem k147_27 : At 147 27 ls [.int p0, .int p1, .ref 49, .int q0] I J Q ↔ Cal 140 [.ref 49, .int p1, .int p0] I J (fun v I' J' => At 147 30 ls (v.toList ++ [.int q0]) I' J' Q) := A_cal (kd := 0) (j := 136) (na := 3) (ea := 3) (rk := 49) (by decide +kernel) rfl rfl rfl (Or.inr rfl) (Nat.le_of_ble_eq_true rfl)
theorem k147_30 : At 147 30 ls (.int x1 :: .int x :: st) I J Q ↔ At 147 31 ls (.int (x + x1) :: st) I J Q := A_iadd (ab_io ci147 (by decide +kernel))
theorem k147_31 : At 147 31 [a0, a1, a2, a3] (.int x :: st) I J Q ↔ At 147 32 [a0, ab_nv a1, some (.int x), a3] st I J Q := A_istore_n (q := 2) (ab_io ci147 (by decide +kernel)) (Nat.le_of_ble_eq_true rfl) rfl
theorem k147_32 : At 147 32 [a0, a1, a2, some (.int x)] st I J Q ↔ At 147 35 [a0, a1, ab_nv a2, some (.int (x + (nI 1)))] st I J Q := A_iinc (q := 3) (ab_io ci147 (by decide +kernel)) ic_1 (Nat.le_of_ble_eq_true rfl) rfl rfl
theorem k147_35 : At 147 35 ls st I J Q ↔ At 147 4 ls st I J Q := A_goto (o := (-31)) (ab_io ci147 (by decide +kernel)) (by decide)
theorem k147_38 : At 147 38 [a0, a1, some (.int x), a3] st I J Q ↔ At 147 39 [a0, a1, some (.int x), a3] (.int x :: st) I J Q := A_iload_n (q := 2) (ab_io ci147 (by decide +kernel)) rfl
theorem k147_39 : At 147 39 ls [.int x] I J Q ↔ Q (some (.int x)) I J := A_iret (ab_io ci147 (by decide +kernel)) rt147
theorem k148_0 : At 148 0 [some (.ref r), a1, a2] st I J Q ↔ At 148 1 [some (.ref r), a1, a2] (.ref r :: st) I J Q := A_aload_n (q := 0) (ab_io ci148 (by decide +kernel)) rfl
theorem k148_1 : At 148 1 [a0, some (.int x), a2] st I J Q ↔ At 148 2 [a0, some (.int x), a2] (.int x :: st) I J Q := A_iload_n (q := 1) (ab_io ci148 (by decide +kernel)) rfl
theorem k148_2 : At 148 2 [a0, a1, some (.int x)] st I J Q ↔ At 148 3 [a0, a1, some (.int x)] (.int x :: st) I J Q := A_iload_n (q := 2) (ab_io ci148 (by decide +kernel)) rfl
theorem k148_3 : At 148 3 ls [.int p0, .int p1, .ref 49] I J Q ↔ Cal 140 [.ref 49, .int p1, .int p0] I J (fun v I' J' => At 148 6 ls (v.toList ++ []) I' J' Q) := A_cal (kd := 0) (j := 136) (na := 3) (ea := 3) (rk := 49) (by decide +kernel) rfl rfl rfl (Or.inr rfl) (Nat.le_of_ble_eq_true rfl)
theorem k148_6 : At 148 6 ls (.int x :: st) I J Q ↔ At 148 7 ls (.long x.toInt64 :: st) I J Q := A_i2l (ab_io ci148 (by decide +kernel))
theorem k148_7 : At 148 7 [some (.ref r), a1, a2] st I J Q ↔ At 148 8 [some (.ref r), a1, a2] (.ref r :: st) I J Q := A_aload_n (q := 0) (ab_io ci148 (by decide +kernel)) rfl
theorem k148_8 : At 148 8 ls (.ref 49 :: st) I J Q ↔ At 148 11 ls (.long (J 49 17) :: st) I J Q := A_getJ (ab_io ci148 (by decide +kernel)) ow148 fq8_159_49
theorem k148_11 : At 148 11 ls (.long u1 :: .long u :: st) I J Q ↔ At 148 12 ls (.long (u * u1) :: st) I J Q := A_lmul (ab_io ci148 (by decide +kernel))
theorem k148_12 : At 148 12 [some (.ref r), a1, a2] st I J Q ↔ At 148 13 [some (.ref r), a1, a2] (.ref r :: st) I J Q := A_aload_n (q := 0) (ab_io ci148 (by decide +kernel)) rfl
theorem k148_13 : At 148 13 ls (.ref 49 :: st) I J Q ↔ At 148 16 ls (.ref 63 :: st) I J Q := A_getR (ab_io ci148 (by decide +kernel)) ow148 fq8_54_49
theorem k148_16 : At 148 16 [a0, some (.int x), a2] st I J Q ↔ At 148 17 [a0, some (.int x), a2] (.int x :: st) I J Q := A_iload_n (q := 1) (ab_io ci148 (by decide +kernel)) rfl
theorem k148_17 : At 148 17 ls (.int x :: .ref r :: st) I J Q ↔ ((ab_ly r).1 = 2 ∧ r < 75 ∧ 0 ≤ x.toInt ∧ x.toInt < (ab_ly r).2) ∧ At 148 18 ls (.long (J r x.toNatClampNeg) :: st) I J Q := A_laload (ab_io ci148 (by decide +kernel))
theorem k148_18 : At 148 18 ls (.long u1 :: .long u :: st) I J Q ↔ At 148 19 ls (.long (u - u1) :: st) I J Q := A_lsub (ab_io ci148 (by decide +kernel))
theorem k148_19 : At 148 19 [some (.ref r), a1, a2] st I J Q ↔ At 148 20 [some (.ref r), a1, a2] (.ref r :: st) I J Q := A_aload_n (q := 0) (ab_io ci148 (by decide +kernel)) rfl
theorem k148_20 : At 148 20 ls (.ref 49 :: st) I J Q ↔ At 148 23 ls (.ref 62 :: st) I J Q := A_getR (ab_io ci148 (by decide +kernel)) ow148 fq8_51_49
theorem k148_23 : At 148 23 [a0, a1, some (.int x)] st I J Q ↔ At 148 24 [a0, a1, some (.int x)] (.int x :: st) I J Q := A_iload_n (q := 2) (ab_io ci148 (by decide +kernel)) rfl
theorem k148_24 : At 148 24 ls (.int x :: .ref r :: st) I J Q ↔ ((ab_ly r).1 = 2 ∧ r < 75 ∧ 0 ≤ x.toInt ∧ x.toInt < (ab_ly r).2) ∧ At 148 25 ls (.long (J r x.toNatClampNeg) :: st) I J Q := A_laload (ab_io ci148 (by decide +kernel))
theorem k148_25 : At 148 25 ls (.long u1 :: .long u :: st) I J Q ↔ At 148 26 ls (.long (u + u1) :: st) I J Q := A_ladd (ab_io ci148 (by decide +kernel))
theorem k148_26 : At 148 26 ls [.long u] I J Q ↔ Q (some (.long u)) I J := A_lret (ab_io ci148 (by decide +kernel)) rt148
theorem k149_0 : At 149 0 [some (.ref r), a1, a2, a3] st I J Q ↔ At 149 1 [some (.ref r), a1, a2, a3] (.ref r :: st) I J Q := A_aload_n (q := 0) (ab_io ci149 (by decide +kernel)) rfl
theorem k149_1 : At 149 1 ls (.ref 49 :: st) I J Q ↔ At 149 4 ls (.ref 57 :: st) I J Q := A_getR (ab_io ci149 (by decide +kernel)) ow149 fq8_35_49
theorem k149_4 : At 149 4 ls st I J Q ↔ At 149 6 ls (.int (nI 12) :: st) I J Q := A_bipush (ab_io ci149 (by decide +kernel)) bc_12
theorem k149_6 : At 149 6 [a0, some (.int x), a2, a3] st I J Q ↔ At 149 7 [a0, some (.int x), a2, a3] (.int x :: st) I J Q := A_iload_n (q := 1) (ab_io ci149 (by decide +kernel)) rfl
theorem k149_7 : At 149 7 ls (.int x1 :: .int x :: st) I J Q ↔ At 149 8 ls (.int (x + x1) :: st) I J Q := A_iadd (ab_io ci149 (by decide +kernel))
theorem k149_8 : At 149 8 ls (.int x :: .ref r :: st) I J Q ↔ ((ab_ly r).1 = 1 ∧ r < 75 ∧ 0 ≤ x.toInt ∧ x.toInt < (ab_ly r).2) ∧ At 149 9 ls (.int (I r x.toNatClampNeg) :: st) I J Q := A_iaload (ab_io ci149 (by decide +kernel))
theorem k149_9 : At 149 9 [a0, a1, a2, a3] (.int x :: st) I J Q ↔ At 149 10 [a0, a1, ab_nv a2, some (.int x)] st I J Q := A_istore_n (q := 3) (ab_io ci149 (by decide +kernel)) (Nat.le_of_ble_eq_true rfl) rfl
theorem k149_10 : At 149 10 [a0, a1, a2, some (.int x)] st I J Q ↔ At 149 11 [a0, a1, a2, some (.int x)] (.int x :: st) I J Q := A_iload_n (q := 3) (ab_io ci149 (by decide +kernel)) rfl
theorem k149_11 : At 149 11 ls st I J Q ↔ At 149 12 ls (.int (-1) :: st) I J Q := A_iconst (ab_io ci149 (by decide +kernel)) ic_m1
theorem k149_12 : At 149 12 ls (.int x1 :: .int x :: st) I J Q ↔ if ¬ x = x1 then At 149 21 ls st I J Q else At 149 15 ls st I J Q := A_if_icmp_ne (o := 9) (ab_io ci149 (by decide +kernel)) (by decide)
theorem k149_15 : At 149 15 ls st I J Q ↔ At 149 17 ls (.int (-3) :: st) I J Q := A_bipush (ab_io ci149 (by decide +kernel)) bc_m3
theorem k149_17 : At 149 17 ls [.int p0] I J Q ↔ Cal 127 [.int p0] I J (fun v I' J' => At 149 20 ls (v.toList ++ []) I' J' Q) := A_cal (kd := 1) (j := 162) (na := 1) (ea := 1) (rk := 0) (by decide +kernel) rfl rfl rfl (Or.inl rfl) (Nat.le_of_ble_eq_true rfl)
theorem k149_20 : At 149 20 ls [.long u] I J Q ↔ Q (some (.long u)) I J := A_lret (ab_io ci149 (by decide +kernel)) rt149
theorem k149_21 : At 149 21 [some (.ref r), a1, a2, a3] st I J Q ↔ At 149 22 [some (.ref r), a1, a2, a3] (.ref r :: st) I J Q := A_aload_n (q := 0) (ab_io ci149 (by decide +kernel)) rfl
theorem k149_22 : At 149 22 [a0, a1, a2, some (.int x)] st I J Q ↔ At 149 23 [a0, a1, a2, some (.int x)] (.int x :: st) I J Q := A_iload_n (q := 3) (ab_io ci149 (by decide +kernel)) rfl
theorem k149_23 : At 149 23 ls [.int p0, .ref 49] I J Q ↔ Cal 146 [.ref 49, .int p0] I J (fun v I' J' => At 149 26 ls (v.toList ++ []) I' J' Q) := A_cal (kd := 0) (j := 166) (na := 2) (ea := 2) (rk := 49) (by decide +kernel) rfl rfl rfl (Or.inr rfl) (Nat.le_of_ble_eq_true rfl)
theorem k149_26 : At 149 26 [some (.ref r), a1, a2, a3] st I J Q ↔ At 149 27 [some (.ref r), a1, a2, a3] (.ref r :: st) I J Q := A_aload_n (q := 0) (ab_io ci149 (by decide +kernel)) rfl
theorem k149_27 : At 149 27 ls (.ref 49 :: st) I J Q ↔ At 149 30 ls (.ref 62 :: st) I J Q := A_getR (ab_io ci149 (by decide +kernel)) ow149 fq8_51_49
theorem k149_30 : At 149 30 [a0, some (.int x), a2, a3] st I J Q ↔ At 149 31 [a0, some (.int x), a2, a3] (.int x :: st) I J Q := A_iload_n (q := 1) (ab_io ci149 (by decide +kernel)) rfl
theorem k149_31 : At 149 31 ls (.int x :: .ref r :: st) I J Q ↔ ((ab_ly r).1 = 2 ∧ r < 75 ∧ 0 ≤ x.toInt ∧ x.toInt < (ab_ly r).2) ∧ At 149 32 ls (.long (J r x.toNatClampNeg) :: st) I J Q := A_laload (ab_io ci149 (by decide +kernel))
theorem k149_32 : At 149 32 [some (.ref r), a1, a2, a3] st I J Q ↔ At 149 33 [some (.ref r), a1, a2, a3] (.ref r :: st) I J Q := A_aload_n (q := 0) (ab_io ci149 (by decide +kernel)) rfl
theorem k149_33 : At 149 33 ls (.ref 49 :: st) I J Q ↔ At 149 36 ls (.long (J 49 17) :: st) I J Q := A_getJ (ab_io ci149 (by decide +kernel)) ow149 fq8_159_49
theorem k149_36 : At 149 36 [a0, a1, some (.int x), a3] st I J Q ↔ At 149 37 [a0, a1, some (.int x), a3] (.int x :: st) I J Q := A_iload_n (q := 2) (ab_io ci149 (by decide +kernel)) rfl
theorem k149_37 : At 149 37 ls [.int p0, .long pu1, .long pu2] I J Q ↔ Cal 130 [.long pu2, .long pu1, .int p0] I J (fun v I' J' => At 149 40 ls (v.toList ++ []) I' J' Q) := A_cal (kd := 1) (j := 169) (na := 3) (ea := 5) (rk := 0) (by decide +kernel) rfl rfl rfl (Or.inl rfl) (Nat.le_of_ble_eq_true rfl)
theorem k149_40 : At 149 40 ls [.long u] I J Q ↔ Q (some (.long u)) I J := A_lret (ab_io ci149 (by decide +kernel)) rt149
theorem k150_0 : At 150 0 [a0, some (.int x), a2] st I J Q ↔ At 150 1 [a0, some (.int x), a2] (.int x :: st) I J Q := A_iload_n (q := 1) (ab_io ci150 (by decide +kernel)) rfl
theorem k150_1 : At 150 1 ls [.int p0] I J Q ↔ Cal 132 [.int p0] I J (fun v I' J' => At 150 4 ls (v.toList ++ []) I' J' Q) := A_cal (kd := 1) (j := 112) (na := 1) (ea := 1) (rk := 0) (by decide +kernel) rfl rfl rfl (Or.inl rfl) (Nat.le_of_ble_eq_true rfl)
theorem k150_4 : At 150 4 ls (.int x :: st) I J Q ↔ if x = 0 then At 150 16 ls st I J Q else At 150 7 ls st I J Q := A_ifCond_eq (o := 12) (ab_io ci150 (by decide +kernel)) (by decide)
theorem k150_7 : At 150 7 [a0, a1, some (.int x)] st I J Q ↔ At 150 8 [a0, a1, some (.int x)] (.int x :: st) I J Q := A_iload_n (q := 2) (ab_io ci150 (by decide +kernel)) rfl
theorem k150_8 : At 150 8 ls st I J Q ↔ At 150 9 ls (.int (nI 0) :: st) I J Q := A_iconst (ab_io ci150 (by decide +kernel)) ic_0
theorem k150_9 : At 150 9 ls st I J Q ↔ At 150 10 ls (.int (nI 1) :: st) I J Q := A_iconst (ab_io ci150 (by decide +kernel)) ic_1
theorem k150_10 : At 150 10 ls [.int p0, .int p1, .int p2] I J Q ↔ Cal 126 [.int p2, .int p1, .int p0] I J (fun v I' J' => At 150 13 ls (v.toList ++ []) I' J' Q) := A_cal (kd := 1) (j := 101) (na := 3) (ea := 3) (rk := 0) (by decide +kernel) rfl rfl rfl (Or.inl rfl) (Nat.le_of_ble_eq_true rfl)
theorem k150_13 : At 150 13 ls (.int x :: st) I J Q ↔ if ¬ x = 0 then At 150 22 ls st I J Q else At 150 16 ls st I J Q := A_ifCond_ne (o := 9) (ab_io ci150 (by decide +kernel)) (by decide)
theorem k150_16 : At 150 16 ls st I J Q ↔ At 150 18 ls (.int (-2) :: st) I J Q := A_bipush (ab_io ci150 (by decide +kernel)) bc_m2
theorem k150_18 : At 150 18 ls [.int p0] I J Q ↔ Cal 127 [.int p0] I J (fun v I' J' => At 150 21 ls (v.toList ++ []) I' J' Q) := A_cal (kd := 1) (j := 162) (na := 1) (ea := 1) (rk := 0) (by decide +kernel) rfl rfl rfl (Or.inl rfl) (Nat.le_of_ble_eq_true rfl)
theorem k150_21 : At 150 21 ls [.long u] I J Q ↔ Q (some (.long u)) I J := A_lret (ab_io ci150 (by decide +kernel)) rt150
theorem k150_22 : At 150 22 [some (.ref r), a1, a2] st I J Q ↔ At 150 23 [some (.ref r), a1, a2] (.ref r :: st) I J Q := A_aload_n (q := 0) (ab_io ci150 (by decide +kernel)) rfl
theorem k150_23 : At 150 23 ls [.ref 49] I J Q ↔ Cal 138 [.ref 49] I J (fun v I' J' => At 150 26 ls (v.toList ++ []) I' J' Q) := A_cal (kd := 0) (j := 133) (na := 1) (ea := 1) (rk := 49) (by decide +kernel) rfl rfl rfl (Or.inr rfl) (Nat.le_of_ble_eq_true rfl)
theorem k150_26 : At 150 26 [some (.ref r), a1, a2] st I J Q ↔ At 150 27 [some (.ref r), a1, a2] (.ref r :: st) I J Q := A_aload_n (q := 0) (ab_io ci150 (by decide +kernel)) rfl
theorem k150_27 : At 150 27 [a0, some (.int x), a2] st I J Q ↔ At 150 28 [a0, some (.int x), a2] (.int x :: st) I J Q := A_iload_n (q := 1) (ab_io ci150 (by decide +kernel)) rfl
theorem k150_28 : At 150 28 [a0, a1, some (.int x)] st I J Q ↔ At 150 29 [a0, a1, some (.int x)] (.int x :: st) I J Q := A_iload_n (q := 2) (ab_io ci150 (by decide +kernel)) rfl
theorem k150_29 : At 150 29 ls [.int p0, .int p1, .ref 49] I J Q ↔ Cal 149 [.ref 49, .int p1, .int p0] I J (fun v I' J' => At 150 32 ls (v.toList ++ []) I' J' Q) := A_cal (kd := 0) (j := 173) (na := 3) (ea := 3) (rk := 49) (by decide +kernel) rfl rfl rfl (Or.inr rfl) (Nat.le_of_ble_eq_true rfl)
theorem k150_32 : At 150 32 ls [.long u] I J Q ↔ Q (some (.long u)) I J := A_lret (ab_io ci150 (by decide +kernel)) rt150
theorem k151_0 : At 151 0 [some (.ref r), a1, a2, a3] st I J Q ↔ At 151 1 [some (.ref r), a1, a2, a3] (.ref r :: st) I J Q := A_aload_n (q := 0) (ab_io ci151 (by decide +kernel)) rfl
theorem k151_1 : At 151 1 ls (.ref 49 :: st) I J Q ↔ At 151 4 ls (.ref 57 :: st) I J Q := A_getR (ab_io ci151 (by decide +kernel)) ow151 fq8_35_49
theorem k151_4 : At 151 4 [a0, some (.int x), a2, a3] st I J Q ↔ At 151 5 [a0, some (.int x), a2, a3] (.int x :: st) I J Q := A_iload_n (q := 1) (ab_io ci151 (by decide +kernel)) rfl
theorem k151_5 : At 151 5 ls (.int x :: .ref r :: st) I J Q ↔ ((ab_ly r).1 = 1 ∧ r < 75 ∧ 0 ≤ x.toInt ∧ x.toInt < (ab_ly r).2) ∧ At 151 6 ls (.int (I r x.toNatClampNeg) :: st) I J Q := A_iaload (ab_io ci151 (by decide +kernel))
theorem k151_6 : At 151 6 [a0, a1, a2, a3] (.int x :: st) I J Q ↔ At 151 7 [a0, a1, ab_nv a2, some (.int x)] st I J Q := A_istore_n (q := 3) (ab_io ci151 (by decide +kernel)) (Nat.le_of_ble_eq_true rfl) rfl
theorem k151_7 : At 151 7 [a0, a1, a2, some (.int x)] st I J Q ↔ At 151 8 [a0, a1, a2, some (.int x)] (.int x :: st) I J Q := A_iload_n (q := 3) (ab_io ci151 (by decide +kernel)) rfl
theorem k151_8 : At 151 8 ls st I J Q ↔ At 151 9 ls (.int (-1) :: st) I J Q := A_iconst (ab_io ci151 (by decide +kernel)) ic_m1
theorem k151_9 : At 151 9 ls (.int x1 :: .int x :: st) I J Q ↔ if ¬ x = x1 then At 151 18 ls st I J Q else At 151 12 ls st I J Q := A_if_icmp_ne (o := 9) (ab_io ci151 (by decide +kernel)) (by decide)
theorem k151_12 : At 151 12 ls st I J Q ↔ At 151 14 ls (.int (-3) :: st) I J Q := A_bipush (ab_io ci151 (by decide +kernel)) bc_m3
theorem k151_14 : At 151 14 ls [.int p0] I J Q ↔ Cal 127 [.int p0] I J (fun v I' J' => At 151 17 ls (v.toList ++ []) I' J' Q) := A_cal (kd := 1) (j := 162) (na := 1) (ea := 1) (rk := 0) (by decide +kernel) rfl rfl rfl (Or.inl rfl) (Nat.le_of_ble_eq_true rfl)
theorem k151_17 : At 151 17 ls [.long u] I J Q ↔ Q (some (.long u)) I J := A_lret (ab_io ci151 (by decide +kernel)) rt151
theorem k151_18 : At 151 18 [some (.ref r), a1, a2, a3] st I J Q ↔ At 151 19 [some (.ref r), a1, a2, a3] (.ref r :: st) I J Q := A_aload_n (q := 0) (ab_io ci151 (by decide +kernel)) rfl
theorem k151_19 : At 151 19 [a0, a1, a2, some (.int x)] st I J Q ↔ At 151 20 [a0, a1, a2, some (.int x)] (.int x :: st) I J Q := A_iload_n (q := 3) (ab_io ci151 (by decide +kernel)) rfl
theorem k151_20 : At 151 20 ls [.int p0, .ref 49] I J Q ↔ Cal 146 [.ref 49, .int p0] I J (fun v I' J' => At 151 23 ls (v.toList ++ []) I' J' Q) := A_cal (kd := 0) (j := 166) (na := 2) (ea := 2) (rk := 49) (by decide +kernel) rfl rfl rfl (Or.inr rfl) (Nat.le_of_ble_eq_true rfl)
theorem k151_23 : At 151 23 [some (.ref r), a1, a2, a3] st I J Q ↔ At 151 24 [some (.ref r), a1, a2, a3] (.ref r :: st) I J Q := A_aload_n (q := 0) (ab_io ci151 (by decide +kernel)) rfl
theorem k151_24 : At 151 24 ls (.ref 49 :: st) I J Q ↔ At 151 27 ls (.ref 63 :: st) I J Q := A_getR (ab_io ci151 (by decide +kernel)) ow151 fq8_54_49
theorem k151_27 : At 151 27 [a0, some (.int x), a2, a3] st I J Q ↔ At 151 28 [a0, some (.int x), a2, a3] (.int x :: st) I J Q := A_iload_n (q := 1) (ab_io ci151 (by decide +kernel)) rfl
theorem k151_28 : At 151 28 ls (.int x :: .ref r :: st) I J Q ↔ ((ab_ly r).1 = 2 ∧ r < 75 ∧ 0 ≤ x.toInt ∧ x.toInt < (ab_ly r).2) ∧ At 151 29 ls (.long (J r x.toNatClampNeg) :: st) I J Q := A_laload (ab_io ci151 (by decide +kernel))
theorem k151_29 : At 151 29 [some (.ref r), a1, a2, a3] st I J Q ↔ At 151 30 [some (.ref r), a1, a2, a3] (.ref r :: st) I J Q := A_aload_n (q := 0) (ab_io ci151 (by decide +kernel)) rfl
theorem k151_30 : At 151 30 ls (.ref 49 :: st) I J Q ↔ At 151 33 ls (.long (J 49 17) :: st) I J Q := A_getJ (ab_io ci151 (by decide +kernel)) ow151 fq8_159_49
theorem k151_33 : At 151 33 [a0, a1, some (.int x), a3] st I J Q ↔ At 151 34 [a0, a1, some (.int x), a3] (.int x :: st) I J Q := A_iload_n (q := 2) (ab_io ci151 (by decide +kernel)) rfl
theorem k151_34 : At 151 34 ls [.int p0, .long pu1, .long pu2] I J Q ↔ Cal 130 [.long pu2, .long pu1, .int p0] I J (fun v I' J' => At 151 37 ls (v.toList ++ []) I' J' Q) := A_cal (kd := 1) (j := 169) (na := 3) (ea := 5) (rk := 0) (by decide +kernel) rfl rfl rfl (Or.inl rfl) (Nat.le_of_ble_eq_true rfl)
theorem k151_37 : At 151 37 ls [.long u] I J Q ↔ Q (some (.long u)) I J := A_lret (ab_io ci151 (by decide +kernel)) rt151
theorem k152_0 : At 152 0 [a0, some (.int x), a2] st I J Q ↔ At 152 1 [a0, some (.int x), a2] (.int x :: st) I J Q := A_iload_n (q := 1) (ab_io ci152 (by decide +kernel)) rfl
theorem k152_1 : At 152 1 ls [.int p0] I J Q ↔ Cal 131 [.int p0] I J (fun v I' J' => At 152 4 ls (v.toList ++ []) I' J' Q) := A_cal (kd := 1) (j := 108) (na := 1) (ea := 1) (rk := 0) (by decide +kernel) rfl rfl rfl (Or.inl rfl) (Nat.le_of_ble_eq_true rfl)
theorem k152_4 : At 152 4 ls (.int x :: st) I J Q ↔ if x = 0 then At 152 16 ls st I J Q else At 152 7 ls st I J Q := A_ifCond_eq (o := 12) (ab_io ci152 (by decide +kernel)) (by decide)
theorem k152_7 : At 152 7 [a0, a1, some (.int x)] st I J Q ↔ At 152 8 [a0, a1, some (.int x)] (.int x :: st) I J Q := A_iload_n (q := 2) (ab_io ci152 (by decide +kernel)) rfl
theorem k152_8 : At 152 8 ls st I J Q ↔ At 152 9 ls (.int (nI 0) :: st) I J Q := A_iconst (ab_io ci152 (by decide +kernel)) ic_0
theorem k152_9 : At 152 9 ls st I J Q ↔ At 152 10 ls (.int (nI 1) :: st) I J Q := A_iconst (ab_io ci152 (by decide +kernel)) ic_1
theorem k152_10 : At 152 10 ls [.int p0, .int p1, .int p2] I J Q ↔ Cal 126 [.int p2, .int p1, .int p0] I J (fun v I' J' => At 152 13 ls (v.toList ++ []) I' J' Q) := A_cal (kd := 1) (j := 101) (na := 3) (ea := 3) (rk := 0) (by decide +kernel) rfl rfl rfl (Or.inl rfl) (Nat.le_of_ble_eq_true rfl)
theorem k152_13 : At 152 13 ls (.int x :: st) I J Q ↔ if ¬ x = 0 then At 152 22 ls st I J Q else At 152 16 ls st I J Q := A_ifCond_ne (o := 9) (ab_io ci152 (by decide +kernel)) (by decide)
theorem k152_16 : At 152 16 ls st I J Q ↔ At 152 18 ls (.int (-2) :: st) I J Q := A_bipush (ab_io ci152 (by decide +kernel)) bc_m2
theorem k152_18 : At 152 18 ls [.int p0] I J Q ↔ Cal 127 [.int p0] I J (fun v I' J' => At 152 21 ls (v.toList ++ []) I' J' Q) := A_cal (kd := 1) (j := 162) (na := 1) (ea := 1) (rk := 0) (by decide +kernel) rfl rfl rfl (Or.inl rfl) (Nat.le_of_ble_eq_true rfl)
theorem k152_21 : At 152 21 ls [.long u] I J Q ↔ Q (some (.long u)) I J := A_lret (ab_io ci152 (by decide +kernel)) rt152
theorem k152_22 : At 152 22 [some (.ref r), a1, a2] st I J Q ↔ At 152 23 [some (.ref r), a1, a2] (.ref r :: st) I J Q := A_aload_n (q := 0) (ab_io ci152 (by decide +kernel)) rfl
theorem k152_23 : At 152 23 ls [.ref 49] I J Q ↔ Cal 138 [.ref 49] I J (fun v I' J' => At 152 26 ls (v.toList ++ []) I' J' Q) := A_cal (kd := 0) (j := 133) (na := 1) (ea := 1) (rk := 49) (by decide +kernel) rfl rfl rfl (Or.inr rfl) (Nat.le_of_ble_eq_true rfl)
theorem k152_26 : At 152 26 [some (.ref r), a1, a2] st I J Q ↔ At 152 27 [some (.ref r), a1, a2] (.ref r :: st) I J Q := A_aload_n (q := 0) (ab_io ci152 (by decide +kernel)) rfl
theorem k152_27 : At 152 27 [a0, some (.int x), a2] st I J Q ↔ At 152 28 [a0, some (.int x), a2] (.int x :: st) I J Q := A_iload_n (q := 1) (ab_io ci152 (by decide +kernel)) rfl
theorem k152_28 : At 152 28 [a0, a1, some (.int x)] st I J Q ↔ At 152 29 [a0, a1, some (.int x)] (.int x :: st) I J Q := A_iload_n (q := 2) (ab_io ci152 (by decide +kernel)) rfl
theorem k152_29 : At 152 29 ls [.int p0, .int p1, .ref 49] I J Q ↔ Cal 151 [.ref 49, .int p1, .int p0] I J (fun v I' J' => At 152 32 ls (v.toList ++ []) I' J' Q) := A_cal (kd := 0) (j := 177) (na := 3) (ea := 3) (rk := 49) (by decide +kernel) rfl rfl rfl (Or.inr rfl) (Nat.le_of_ble_eq_true rfl)
theorem k152_32 : At 152 32 ls [.long u] I J Q ↔ Q (some (.long u)) I J := A_lret (ab_io ci152 (by decide +kernel)) rt152
theorem k153_0 : At 153 0 [a0, some (.int x), a2, a3] st I J Q ↔ At 153 1 [a0, some (.int x), a2, a3] (.int x :: st) I J Q := A_iload_n (q := 1) (ab_io ci153 (by decide +kernel)) rfl
theorem k153_1 : At 153 1 ls [.int p0] I J Q ↔ Cal 131 [.int p0] I J (fun v I' J' => At 153 4 ls (v.toList ++ []) I' J' Q) := A_cal (kd := 1) (j := 108) (na := 1) (ea := 1) (rk := 0) (by decide +kernel) rfl rfl rfl (Or.inl rfl) (Nat.le_of_ble_eq_true rfl)
theorem k153_4 : At 153 4 ls (.int x :: st) I J Q ↔ if x = 0 then At 153 23 ls st I J Q else At 153 7 ls st I J Q := A_ifCond_eq (o := 19) (ab_io ci153 (by decide +kernel)) (by decide)
theorem k153_7 : At 153 7 [a0, a1, some (.int x), a3] st I J Q ↔ At 153 8 [a0, a1, some (.int x), a3] (.int x :: st) I J Q := A_iload_n (q := 2) (ab_io ci153 (by decide +kernel)) rfl
theorem k153_8 : At 153 8 ls [.int p0] I J Q ↔ Cal 132 [.int p0] I J (fun v I' J' => At 153 11 ls (v.toList ++ []) I' J' Q) := A_cal (kd := 1) (j := 112) (na := 1) (ea := 1) (rk := 0) (by decide +kernel) rfl rfl rfl (Or.inl rfl) (Nat.le_of_ble_eq_true rfl)
theorem k153_11 : At 153 11 ls (.int x :: st) I J Q ↔ if x = 0 then At 153 23 ls st I J Q else At 153 14 ls st I J Q := A_ifCond_eq (o := 12) (ab_io ci153 (by decide +kernel)) (by decide)
theorem k153_14 : At 153 14 [a0, a1, a2, some (.int x)] st I J Q ↔ At 153 15 [a0, a1, a2, some (.int x)] (.int x :: st) I J Q := A_iload_n (q := 3) (ab_io ci153 (by decide +kernel)) rfl
theorem k153_15 : At 153 15 ls st I J Q ↔ At 153 16 ls (.int (nI 0) :: st) I J Q := A_iconst (ab_io ci153 (by decide +kernel)) ic_0
theorem k153_16 : At 153 16 ls st I J Q ↔ At 153 17 ls (.int (nI 1) :: st) I J Q := A_iconst (ab_io ci153 (by decide +kernel)) ic_1
theorem k153_17 : At 153 17 ls [.int p0, .int p1, .int p2] I J Q ↔ Cal 126 [.int p2, .int p1, .int p0] I J (fun v I' J' => At 153 20 ls (v.toList ++ []) I' J' Q) := A_cal (kd := 1) (j := 101) (na := 3) (ea := 3) (rk := 0) (by decide +kernel) rfl rfl rfl (Or.inl rfl) (Nat.le_of_ble_eq_true rfl)
theorem k153_20 : At 153 20 ls (.int x :: st) I J Q ↔ if ¬ x = 0 then At 153 29 ls st I J Q else At 153 23 ls st I J Q := A_ifCond_ne (o := 9) (ab_io ci153 (by decide +kernel)) (by decide)
theorem k153_23 : At 153 23 ls st I J Q ↔ At 153 25 ls (.int (-2) :: st) I J Q := A_bipush (ab_io ci153 (by decide +kernel)) bc_m2
theorem k153_25 : At 153 25 ls [.int p0] I J Q ↔ Cal 127 [.int p0] I J (fun v I' J' => At 153 28 ls (v.toList ++ []) I' J' Q) := A_cal (kd := 1) (j := 162) (na := 1) (ea := 1) (rk := 0) (by decide +kernel) rfl rfl rfl (Or.inl rfl) (Nat.le_of_ble_eq_true rfl)
theorem k153_28 : At 153 28 ls [.long u] I J Q ↔ Q (some (.long u)) I J := A_lret (ab_io ci153 (by decide +kernel)) rt153
theorem k153_29 : At 153 29 [some (.ref r), a1, a2, a3] st I J Q ↔ At 153 30 [some (.ref r), a1, a2, a3] (.ref r :: st) I J Q := A_aload_n (q := 0) (ab_io ci153 (by decide +kernel)) rfl
theorem k153_30 : At 153 30 ls [.ref 49] I J Q ↔ Cal 138 [.ref 49] I J (fun v I' J' => At 153 33 ls (v.toList ++ []) I' J' Q) := A_cal (kd := 0) (j := 133) (na := 1) (ea := 1) (rk := 49) (by decide +kernel) rfl rfl rfl (Or.inr rfl) (Nat.le_of_ble_eq_true rfl)
theorem k153_33 : At 153 33 [some (.ref r), a1, a2, a3] st I J Q ↔ At 153 34 [some (.ref r), a1, a2, a3] (.ref r :: st) I J Q := A_aload_n (q := 0) (ab_io ci153 (by decide +kernel)) rfl
theorem k153_34 : At 153 34 [a0, some (.int x), a2, a3] st I J Q ↔ At 153 35 [a0, some (.int x), a2, a3] (.int x :: st) I J Q := A_iload_n (q := 1) (ab_io ci153 (by decide +kernel)) rfl
theorem k153_35 : At 153 35 [a0, a1, some (.int x), a3] st I J Q ↔ At 153 36 [a0, a1, some (.int x), a3] (.int x :: st) I J Q := A_iload_n (q := 2) (ab_io ci153 (by decide +kernel)) rfl
theorem k153_36 : At 153 36 ls [.int p0, .int p1, .ref 49] I J Q ↔ Cal 140 [.ref 49, .int p1, .int p0] I J (fun v I' J' => At 153 39 ls (v.toList ++ []) I' J' Q) := A_cal (kd := 0) (j := 136) (na := 3) (ea := 3) (rk := 49) (by decide +kernel) rfl rfl rfl (Or.inr rfl) (Nat.le_of_ble_eq_true rfl)
theorem k153_39 : At 153 39 ls st I J Q ↔ At 153 40 ls (.int (-1) :: st) I J Q := A_iconst (ab_io ci153 (by decide +kernel)) ic_m1
theorem k153_40 : At 153 40 ls (.int x1 :: .int x :: st) I J Q ↔ if ¬ x = x1 then At 153 49 ls st I J Q else At 153 43 ls st I J Q := A_if_icmp_ne (o := 9) (ab_io ci153 (by decide +kernel)) (by decide)
theorem k153_43 : At 153 43 ls st I J Q ↔ At 153 45 ls (.int (-3) :: st) I J Q := A_bipush (ab_io ci153 (by decide +kernel)) bc_m3
theorem k153_45 : At 153 45 ls [.int p0] I J Q ↔ Cal 127 [.int p0] I J (fun v I' J' => At 153 48 ls (v.toList ++ []) I' J' Q) := A_cal (kd := 1) (j := 162) (na := 1) (ea := 1) (rk := 0) (by decide +kernel) rfl rfl rfl (Or.inl rfl) (Nat.le_of_ble_eq_true rfl)
theorem k153_48 : At 153 48 ls [.long u] I J Q ↔ Q (some (.long u)) I J := A_lret (ab_io ci153 (by decide +kernel)) rt153
theorem k153_49 : At 153 49 [some (.ref r), a1, a2, a3] st I J Q ↔ At 153 50 [some (.ref r), a1, a2, a3] (.ref r :: st) I J Q := A_aload_n (q := 0) (ab_io ci153 (by decide +kernel)) rfl
theorem k153_50 : At 153 50 [some (.ref r), a1, a2, a3] st I J Q ↔ At 153 51 [some (.ref r), a1, a2, a3] (.ref r :: st) I J Q := A_aload_n (q := 0) (ab_io ci153 (by decide +kernel)) rfl
theorem k153_51 : At 153 51 ls (.ref 49 :: st) I J Q ↔ At 153 54 ls (.ref 57 :: st) I J Q := A_getR (ab_io ci153 (by decide +kernel)) ow153 fq8_35_49
theorem k153_54 : At 153 54 [a0, some (.int x), a2, a3] st I J Q ↔ At 153 55 [a0, some (.int x), a2, a3] (.int x :: st) I J Q := A_iload_n (q := 1) (ab_io ci153 (by decide +kernel)) rfl
theorem k153_55 : At 153 55 ls (.int x :: .ref r :: st) I J Q ↔ ((ab_ly r).1 = 1 ∧ r < 75 ∧ 0 ≤ x.toInt ∧ x.toInt < (ab_ly r).2) ∧ At 153 56 ls (.int (I r x.toNatClampNeg) :: st) I J Q := A_iaload (ab_io ci153 (by decide +kernel))
theorem k153_56 : At 153 56 ls [.int p0, .ref 49] I J Q ↔ Cal 146 [.ref 49, .int p0] I J (fun v I' J' => At 153 59 ls (v.toList ++ []) I' J' Q) := A_cal (kd := 0) (j := 166) (na := 2) (ea := 2) (rk := 49) (by decide +kernel) rfl rfl rfl (Or.inr rfl) (Nat.le_of_ble_eq_true rfl)
theorem k153_59 : At 153 59 [some (.ref r), a1, a2, a3] st I J Q ↔ At 153 60 [some (.ref r), a1, a2, a3] (.ref r :: st) I J Q := A_aload_n (q := 0) (ab_io ci153 (by decide +kernel)) rfl
theorem k153_60 : At 153 60 [a0, some (.int x), a2, a3] st I J Q ↔ At 153 61 [a0, some (.int x), a2, a3] (.int x :: st) I J Q := A_iload_n (q := 1) (ab_io ci153 (by decide +kernel)) rfl
theorem k153_61 : At 153 61 [a0, a1, some (.int x), a3] st I J Q ↔ At 153 62 [a0, a1, some (.int x), a3] (.int x :: st) I J Q := A_iload_n (q := 2) (ab_io ci153 (by decide +kernel)) rfl
theorem k153_62 : At 153 62 ls [.int p0, .int p1, .ref 49] I J Q ↔ Cal 148 [.ref 49, .int p1, .int p0] I J (fun v I' J' => At 153 65 ls (v.toList ++ []) I' J' Q) := A_cal (kd := 0) (j := 180) (na := 3) (ea := 3) (rk := 49) (by decide +kernel) rfl rfl rfl (Or.inr rfl) (Nat.le_of_ble_eq_true rfl)
theorem k153_65 : At 153 65 [some (.ref r), a1, a2, a3] st I J Q ↔ At 153 66 [some (.ref r), a1, a2, a3] (.ref r :: st) I J Q := A_aload_n (q := 0) (ab_io ci153 (by decide +kernel)) rfl
theorem k153_66 : At 153 66 ls (.ref 49 :: st) I J Q ↔ At 153 69 ls (.long (J 49 17) :: st) I J Q := A_getJ (ab_io ci153 (by decide +kernel)) ow153 fq8_159_49
theorem k153_69 : At 153 69 [a0, a1, a2, some (.int x)] st I J Q ↔ At 153 70 [a0, a1, a2, some (.int x)] (.int x :: st) I J Q := A_iload_n (q := 3) (ab_io ci153 (by decide +kernel)) rfl
theorem k153_70 : At 153 70 ls [.int p0, .long pu1, .long pu2] I J Q ↔ Cal 130 [.long pu2, .long pu1, .int p0] I J (fun v I' J' => At 153 73 ls (v.toList ++ []) I' J' Q) := A_cal (kd := 1) (j := 169) (na := 3) (ea := 5) (rk := 0) (by decide +kernel) rfl rfl rfl (Or.inl rfl) (Nat.le_of_ble_eq_true rfl)
theorem k153_73 : At 153 73 ls [.long u] I J Q ↔ Q (some (.long u)) I J := A_lret (ab_io ci153 (by decide +kernel)) rt153
theorem k154_0 : At 154 0 [a0, some (.int x)] st I J Q ↔ At 154 1 [a0, some (.int x)] (.int x :: st) I J Q := A_iload_n (q := 1) (ab_io ci154 (by decide +kernel)) rfl
theorem k154_1 : At 154 1 ls [.int p0] I J Q ↔ Cal 132 [.int p0] I J (fun v I' J' => At 154 4 ls (v.toList ++ []) I' J' Q) := A_cal (kd := 1) (j := 112) (na := 1) (ea := 1) (rk := 0) (by decide +kernel) rfl rfl rfl (Or.inl rfl) (Nat.le_of_ble_eq_true rfl)
theorem k154_4 : At 154 4 ls (.int x :: st) I J Q ↔ if x = 0 then At 154 24 ls st I J Q else At 154 7 ls st I J Q := A_ifCond_eq (o := 20) (ab_io ci154 (by decide +kernel)) (by decide)
theorem k154_7 : At 154 7 [some (.ref r), a1] st I J Q ↔ At 154 8 [some (.ref r), a1] (.ref r :: st) I J Q := A_aload_n (q := 0) (ab_io ci154 (by decide +kernel)) rfl
theorem k154_8 : At 154 8 ls (.ref 49 :: st) I J Q ↔ At 154 11 ls (.ref 57 :: st) I J Q := A_getR (ab_io ci154 (by decide +kernel)) ow154 fq8_35_49
theorem k154_11 : At 154 11 ls st I J Q ↔ At 154 13 ls (.int (nI 12) :: st) I J Q := A_bipush (ab_io ci154 (by decide +kernel)) bc_12
theorem k154_13 : At 154 13 [a0, some (.int x)] st I J Q ↔ At 154 14 [a0, some (.int x)] (.int x :: st) I J Q := A_iload_n (q := 1) (ab_io ci154 (by decide +kernel)) rfl
theorem k154_14 : At 154 14 ls (.int x1 :: .int x :: st) I J Q ↔ At 154 15 ls (.int (x + x1) :: st) I J Q := A_iadd (ab_io ci154 (by decide +kernel))
theorem k154_15 : At 154 15 ls (.int x :: .ref r :: st) I J Q ↔ ((ab_ly r).1 = 1 ∧ r < 75 ∧ 0 ≤ x.toInt ∧ x.toInt < (ab_ly r).2) ∧ At 154 16 ls (.int (I r x.toNatClampNeg) :: st) I J Q := A_iaload (ab_io ci154 (by decide +kernel))
theorem k154_16 : At 154 16 [a0, some (.int x)] st I J Q ↔ At 154 17 [a0, some (.int x)] (.int x :: st) I J Q := A_iload_n (q := 1) (ab_io ci154 (by decide +kernel)) rfl
theorem k154_17 : At 154 17 ls (.int x1 :: .int x :: st) I J Q ↔ if ¬ x = x1 then At 154 24 ls st I J Q else At 154 20 ls st I J Q := A_if_icmp_ne (o := 7) (ab_io ci154 (by decide +kernel)) (by decide)
theorem k154_20 : At 154 20 ls st I J Q ↔ At 154 21 ls (.int (nI 1) :: st) I J Q := A_iconst (ab_io ci154 (by decide +kernel)) ic_1
theorem k154_21 : At 154 21 ls st I J Q ↔ At 154 25 ls st I J Q := A_goto (o := 4) (ab_io ci154 (by decide +kernel)) (by decide)
theorem k154_24 : At 154 24 ls st I J Q ↔ At 154 25 ls (.int (nI 0) :: st) I J Q := A_iconst (ab_io ci154 (by decide +kernel)) ic_0
theorem k154_25 : At 154 25 ls [.int x] I J Q ↔ (x = 0 ∨ x = 1) ∧ Q (some (.int x)) I J := A_zret (ab_io ci154 (by decide +kernel)) rt154
theorem k155_0 : At 155 0 [some (.ref r), a1, a2, a3, a4] st I J Q ↔ At 155 1 [some (.ref r), a1, a2, a3, a4] (.ref r :: st) I J Q := A_aload_n (q := 0) (ab_io ci155 (by decide +kernel)) rfl
theorem k155_1 : At 155 1 [a0, some (.int x), a2, a3, a4] st I J Q ↔ At 155 2 [a0, some (.int x), a2, a3, a4] (.int x :: st) I J Q := A_iload_n (q := 1) (ab_io ci155 (by decide +kernel)) rfl
theorem k155_2 : At 155 2 ls [.int p0, .ref 49] I J Q ↔ Cal 146 [.ref 49, .int p0] I J (fun v I' J' => At 155 5 ls (v.toList ++ []) I' J' Q) := A_cal (kd := 0) (j := 166) (na := 2) (ea := 2) (rk := 49) (by decide +kernel) rfl rfl rfl (Or.inr rfl) (Nat.le_of_ble_eq_true rfl)
theorem k155_5 : At 155 5 ls st I J Q ↔ At 155 6 ls (.long 0 :: st) I J Q := A_lconst (n := 0) (ab_io ci155 (by decide +kernel)) rfl
theorem k155_6 : At 155 6 [a0, a1, a2, a3, a4] (.long u :: st) I J Q ↔ At 155 7 [a0, ab_nv a1, some (.long u), none, a4] st I J Q := A_lstore_n (q := 2) (ab_io ci155 (by decide +kernel)) (Nat.le_of_ble_eq_true rfl) rfl
theorem k155_7 : At 155 7 ls st I J Q ↔ At 155 8 ls (.int (nI 0) :: st) I J Q := A_iconst (ab_io ci155 (by decide +kernel)) ic_0
theorem k155_8 : At 155 8 [a0, a1, a2, a3, a4] (.int x :: st) I J Q ↔ At 155 10 [a0, a1, a2, ab_nv a3, some (.int x)] st I J Q := A_istore (q := 4) (ab_io ci155 (by decide +kernel)) (Nat.le_of_ble_eq_true rfl) rfl
theorem k155_10 : At 155 10 [a0, a1, a2, a3, some (.int x)] st I J Q ↔ At 155 12 [a0, a1, a2, a3, some (.int x)] (.int x :: st) I J Q := A_iload (q := 4) (ab_io ci155 (by decide +kernel)) rfl
theorem k155_12 : At 155 12 ls st I J Q ↔ At 155 14 ls (.int (nI 48) :: st) I J Q := A_bipush (ab_io ci155 (by decide +kernel)) bc_48
theorem k155_14 : At 155 14 ls (.int x1 :: .int x :: st) I J Q ↔ if x1 ≤ x then At 155 69 ls st I J Q else At 155 17 ls st I J Q := A_if_icmp_ge (o := 55) (ab_io ci155 (by decide +kernel)) (by decide)
theorem k155_17 : At 155 17 [a0, a1, some (.long u), a3, a4] st I J Q ↔ At 155 18 [a0, a1, some (.long u), a3, a4] (.long u :: st) I J Q := A_lload_n (q := 2) (ab_io ci155 (by decide +kernel)) rfl
theorem k155_18 : At 155 18 [some (.ref r), a1, a2, a3, a4] st I J Q ↔ At 155 19 [some (.ref r), a1, a2, a3, a4] (.ref r :: st) I J Q := A_aload_n (q := 0) (ab_io ci155 (by decide +kernel)) rfl
theorem k155_19 : At 155 19 ls (.ref 49 :: st) I J Q ↔ At 155 22 ls (.ref 55 :: st) I J Q := A_getR (ab_io ci155 (by decide +kernel)) ow155 fq8_29_49
theorem k155_22 : At 155 22 [a0, a1, a2, a3, some (.int x)] st I J Q ↔ At 155 24 [a0, a1, a2, a3, some (.int x)] (.int x :: st) I J Q := A_iload (q := 4) (ab_io ci155 (by decide +kernel)) rfl
theorem k155_24 : At 155 24 ls (.int x :: .ref r :: st) I J Q ↔ ((ab_ly r).1 = 1 ∧ r < 75 ∧ 0 ≤ x.toInt ∧ x.toInt < (ab_ly r).2) ∧ At 155 25 ls (.int (I r x.toNatClampNeg) :: st) I J Q := A_iaload (ab_io ci155 (by decide +kernel))
theorem k155_25 : At 155 25 ls st I J Q ↔ At 155 26 ls (.int (-1) :: st) I J Q := A_iconst (ab_io ci155 (by decide +kernel)) ic_m1
theorem k155_26 : At 155 26 ls (.int x1 :: .int x :: st) I J Q ↔ if x = x1 then At 155 60 ls st I J Q else At 155 29 ls st I J Q := A_if_icmp_eq (o := 34) (ab_io ci155 (by decide +kernel)) (by decide)
theorem k155_29 : At 155 29 [some (.ref r), a1, a2, a3, a4] st I J Q ↔ At 155 30 [some (.ref r), a1, a2, a3, a4] (.ref r :: st) I J Q := A_aload_n (q := 0) (ab_io ci155 (by decide +kernel)) rfl
theorem k155_30 : At 155 30 ls (.ref 49 :: st) I J Q ↔ At 155 33 ls (.ref 57 :: st) I J Q := A_getR (ab_io ci155 (by decide +kernel)) ow155 fq8_35_49
theorem k155_33 : At 155 33 [a0, a1, a2, a3, some (.int x)] st I J Q ↔ At 155 35 [a0, a1, a2, a3, some (.int x)] (.int x :: st) I J Q := A_iload (q := 4) (ab_io ci155 (by decide +kernel)) rfl
theorem k155_35 : At 155 35 ls st I J Q ↔ At 155 36 ls (.int (nI 4) :: st) I J Q := A_iconst (ab_io ci155 (by decide +kernel)) ic_4
theorem k155_36 : At 155 36 ls (.int x1 :: .int x :: st) I J Q ↔ ¬ x1 = 0 ∧ At 155 37 ls (.int (x / x1) :: st) I J Q := A_idiv (ab_io ci155 (by decide +kernel))
theorem k155_37 : At 155 37 ls (.int x :: .ref r :: st) I J Q ↔ ((ab_ly r).1 = 1 ∧ r < 75 ∧ 0 ≤ x.toInt ∧ x.toInt < (ab_ly r).2) ∧ At 155 38 ls (.int (I r x.toNatClampNeg) :: st) I J Q := A_iaload (ab_io ci155 (by decide +kernel))
theorem k155_38 : At 155 38 [a0, some (.int x), a2, a3, a4] st I J Q ↔ At 155 39 [a0, some (.int x), a2, a3, a4] (.int x :: st) I J Q := A_iload_n (q := 1) (ab_io ci155 (by decide +kernel)) rfl
theorem k155_39 : At 155 39 ls (.int x1 :: .int x :: st) I J Q ↔ if ¬ x = x1 then At 155 60 ls st I J Q else At 155 42 ls st I J Q := A_if_icmp_ne (o := 21) (ab_io ci155 (by decide +kernel)) (by decide)
theorem k155_42 : At 155 42 [some (.ref r), a1, a2, a3, a4] st I J Q ↔ At 155 43 [some (.ref r), a1, a2, a3, a4] (.ref r :: st) I J Q := A_aload_n (q := 0) (ab_io ci155 (by decide +kernel)) rfl
theorem k155_43 : At 155 43 [a0, a1, a2, a3, some (.int x)] st I J Q ↔ At 155 45 [a0, a1, a2, a3, some (.int x)] (.int x :: st) I J Q := A_iload (q := 4) (ab_io ci155 (by decide +kernel)) rfl
theorem k155_45 : At 155 45 ls st I J Q ↔ At 155 46 ls (.int (nI 4) :: st) I J Q := A_iconst (ab_io ci155 (by decide +kernel)) ic_4
theorem k155_46 : At 155 46 ls (.int x1 :: .int x :: st) I J Q ↔ ¬ x1 = 0 ∧ At 155 47 ls (.int (x / x1) :: st) I J Q := A_idiv (ab_io ci155 (by decide +kernel))
theorem k155_47 : At 155 47 [a0, a1, a2, a3, some (.int x)] st I J Q ↔ At 155 49 [a0, a1, a2, a3, some (.int x)] (.int x :: st) I J Q := A_iload (q := 4) (ab_io ci155 (by decide +kernel)) rfl
theorem k155_49 : At 155 49 ls st I J Q ↔ At 155 50 ls (.int (nI 4) :: st) I J Q := A_iconst (ab_io ci155 (by decide +kernel)) ic_4
theorem k155_50 : At 155 50 ls (.int x1 :: .int x :: st) I J Q ↔ ¬ x1 = 0 ∧ At 155 51 ls (.int (x - x / x1 * x1) :: st) I J Q := A_irem (ab_io ci155 (by decide +kernel))
theorem k155_51 : At 155 51 ls [.int p0, .int p1, .ref 49, .long qu0] I J Q ↔ Cal 148 [.ref 49, .int p1, .int p0] I J (fun v I' J' => At 155 54 ls (v.toList ++ [.long qu0]) I' J' Q) := A_cal (kd := 0) (j := 180) (na := 3) (ea := 3) (rk := 49) (by decide +kernel) rfl rfl rfl (Or.inr rfl) (Nat.le_of_ble_eq_true rfl)
theorem k155_54 : At 155 54 ls [.long pu0, .long qu0] I J Q ↔ Cal 128 [.long pu0] I J (fun v I' J' => At 155 57 ls (v.toList ++ [.long qu0]) I' J' Q) := A_cal (kd := 1) (j := 93) (na := 1) (ea := 2) (rk := 0) (by decide +kernel) rfl rfl rfl (Or.inl rfl) (Nat.le_of_ble_eq_true rfl)
theorem k155_57 : At 155 57 ls st I J Q ↔ At 155 61 ls st I J Q := A_goto (o := 4) (ab_io ci155 (by decide +kernel)) (by decide)
theorem k155_60 : At 155 60 ls st I J Q ↔ At 155 61 ls (.long 0 :: st) I J Q := A_lconst (n := 0) (ab_io ci155 (by decide +kernel)) rfl
theorem k155_61 : At 155 61 ls (.long u1 :: .long u :: st) I J Q ↔ At 155 62 ls (.long (u + u1) :: st) I J Q := A_ladd (ab_io ci155 (by decide +kernel))
theorem k155_62 : At 155 62 [a0, a1, a2, a3, a4] (.long u :: st) I J Q ↔ At 155 63 [a0, ab_nv a1, some (.long u), none, a4] st I J Q := A_lstore_n (q := 2) (ab_io ci155 (by decide +kernel)) (Nat.le_of_ble_eq_true rfl) rfl
theorem k155_63 : At 155 63 [a0, a1, a2, a3, some (.int x)] st I J Q ↔ At 155 66 [a0, a1, a2, ab_nv a3, some (.int (x + (nI 1)))] st I J Q := A_iinc (q := 4) (ab_io ci155 (by decide +kernel)) ic_1 (Nat.le_of_ble_eq_true rfl) rfl rfl
theorem k155_66 : At 155 66 ls st I J Q ↔ At 155 10 ls st I J Q := A_goto (o := (-56)) (ab_io ci155 (by decide +kernel)) (by decide)
theorem k155_69 : At 155 69 [a0, a1, some (.long u), a3, a4] st I J Q ↔ At 155 70 [a0, a1, some (.long u), a3, a4] (.long u :: st) I J Q := A_lload_n (q := 2) (ab_io ci155 (by decide +kernel)) rfl
theorem k155_70 : At 155 70 ls [.long u] I J Q ↔ Q (some (.long u)) I J := A_lret (ab_io ci155 (by decide +kernel)) rt155
theorem k156_0 : At 156 0 [a0, some (.int x), a2] st I J Q ↔ At 156 1 [a0, some (.int x), a2] (.int x :: st) I J Q := A_iload_n (q := 1) (ab_io ci156 (by decide +kernel)) rfl
theorem k156_1 : At 156 1 ls [.int p0] I J Q ↔ Cal 132 [.int p0] I J (fun v I' J' => At 156 4 ls (v.toList ++ []) I' J' Q) := A_cal (kd := 1) (j := 112) (na := 1) (ea := 1) (rk := 0) (by decide +kernel) rfl rfl rfl (Or.inl rfl) (Nat.le_of_ble_eq_true rfl)
theorem k156_4 : At 156 4 ls (.int x :: st) I J Q ↔ if x = 0 then At 156 16 ls st I J Q else At 156 7 ls st I J Q := A_ifCond_eq (o := 12) (ab_io ci156 (by decide +kernel)) (by decide)
theorem k156_7 : At 156 7 [a0, a1, some (.int x)] st I J Q ↔ At 156 8 [a0, a1, some (.int x)] (.int x :: st) I J Q := A_iload_n (q := 2) (ab_io ci156 (by decide +kernel)) rfl
theorem k156_8 : At 156 8 ls st I J Q ↔ At 156 9 ls (.int (nI 0) :: st) I J Q := A_iconst (ab_io ci156 (by decide +kernel)) ic_0
theorem k156_9 : At 156 9 ls st I J Q ↔ At 156 10 ls (.int (nI 1) :: st) I J Q := A_iconst (ab_io ci156 (by decide +kernel)) ic_1
theorem k156_10 : At 156 10 ls [.int p0, .int p1, .int p2] I J Q ↔ Cal 126 [.int p2, .int p1, .int p0] I J (fun v I' J' => At 156 13 ls (v.toList ++ []) I' J' Q) := A_cal (kd := 1) (j := 101) (na := 3) (ea := 3) (rk := 0) (by decide +kernel) rfl rfl rfl (Or.inl rfl) (Nat.le_of_ble_eq_true rfl)
theorem k156_13 : At 156 13 ls (.int x :: st) I J Q ↔ if ¬ x = 0 then At 156 22 ls st I J Q else At 156 16 ls st I J Q := A_ifCond_ne (o := 9) (ab_io ci156 (by decide +kernel)) (by decide)
theorem k156_16 : At 156 16 ls st I J Q ↔ At 156 18 ls (.int (-2) :: st) I J Q := A_bipush (ab_io ci156 (by decide +kernel)) bc_m2
theorem k156_18 : At 156 18 ls [.int p0] I J Q ↔ Cal 127 [.int p0] I J (fun v I' J' => At 156 21 ls (v.toList ++ []) I' J' Q) := A_cal (kd := 1) (j := 162) (na := 1) (ea := 1) (rk := 0) (by decide +kernel) rfl rfl rfl (Or.inl rfl) (Nat.le_of_ble_eq_true rfl)
theorem k156_21 : At 156 21 ls [.long u] I J Q ↔ Q (some (.long u)) I J := A_lret (ab_io ci156 (by decide +kernel)) rt156
theorem k156_22 : At 156 22 [some (.ref r), a1, a2] st I J Q ↔ At 156 23 [some (.ref r), a1, a2] (.ref r :: st) I J Q := A_aload_n (q := 0) (ab_io ci156 (by decide +kernel)) rfl
theorem k156_23 : At 156 23 ls [.ref 49] I J Q ↔ Cal 138 [.ref 49] I J (fun v I' J' => At 156 26 ls (v.toList ++ []) I' J' Q) := A_cal (kd := 0) (j := 133) (na := 1) (ea := 1) (rk := 49) (by decide +kernel) rfl rfl rfl (Or.inr rfl) (Nat.le_of_ble_eq_true rfl)
theorem k156_26 : At 156 26 [some (.ref r), a1, a2] st I J Q ↔ At 156 27 [some (.ref r), a1, a2] (.ref r :: st) I J Q := A_aload_n (q := 0) (ab_io ci156 (by decide +kernel)) rfl
theorem k156_27 : At 156 27 [a0, some (.int x), a2] st I J Q ↔ At 156 28 [a0, some (.int x), a2] (.int x :: st) I J Q := A_iload_n (q := 1) (ab_io ci156 (by decide +kernel)) rfl
theorem k156_28 : At 156 28 ls [.int p0, .ref 49] I J Q ↔ Cal 154 [.ref 49, .int p0] I J (fun v I' J' => At 156 31 ls (v.toList ++ []) I' J' Q) := A_cal (kd := 0) (j := 183) (na := 2) (ea := 2) (rk := 49) (by decide +kernel) rfl rfl rfl (Or.inr rfl) (Nat.le_of_ble_eq_true rfl)
theorem k156_31 : At 156 31 ls (.int x :: st) I J Q ↔ if x = 0 then At 156 50 ls st I J Q else At 156 34 ls st I J Q := A_ifCond_eq (o := 19) (ab_io ci156 (by decide +kernel)) (by decide)
theorem k156_34 : At 156 34 [some (.ref r), a1, a2] st I J Q ↔ At 156 35 [some (.ref r), a1, a2] (.ref r :: st) I J Q := A_aload_n (q := 0) (ab_io ci156 (by decide +kernel)) rfl
theorem k156_35 : At 156 35 [a0, some (.int x), a2] st I J Q ↔ At 156 36 [a0, some (.int x), a2] (.int x :: st) I J Q := A_iload_n (q := 1) (ab_io ci156 (by decide +kernel)) rfl
theorem k156_36 : At 156 36 ls [.int p0, .ref 49] I J Q ↔ Cal 155 [.ref 49, .int p0] I J (fun v I' J' => At 156 39 ls (v.toList ++ []) I' J' Q) := A_cal (kd := 0) (j := 186) (na := 2) (ea := 2) (rk := 49) (by decide +kernel) rfl rfl rfl (Or.inr rfl) (Nat.le_of_ble_eq_true rfl)
theorem k156_39 : At 156 39 [some (.ref r), a1, a2] st I J Q ↔ At 156 40 [some (.ref r), a1, a2] (.ref r :: st) I J Q := A_aload_n (q := 0) (ab_io ci156 (by decide +kernel)) rfl
theorem k156_40 : At 156 40 ls (.ref 49 :: st) I J Q ↔ At 156 43 ls (.long (J 49 17) :: st) I J Q := A_getJ (ab_io ci156 (by decide +kernel)) ow156 fq8_159_49
theorem k156_43 : At 156 43 [a0, a1, some (.int x)] st I J Q ↔ At 156 44 [a0, a1, some (.int x)] (.int x :: st) I J Q := A_iload_n (q := 2) (ab_io ci156 (by decide +kernel)) rfl
theorem k156_44 : At 156 44 ls [.int p0, .long pu1, .long pu2] I J Q ↔ Cal 130 [.long pu2, .long pu1, .int p0] I J (fun v I' J' => At 156 47 ls (v.toList ++ []) I' J' Q) := A_cal (kd := 1) (j := 169) (na := 3) (ea := 5) (rk := 0) (by decide +kernel) rfl rfl rfl (Or.inl rfl) (Nat.le_of_ble_eq_true rfl)
theorem k156_47 : At 156 47 ls st I J Q ↔ At 156 55 ls st I J Q := A_goto (o := 8) (ab_io ci156 (by decide +kernel)) (by decide)
theorem k156_50 : At 156 50 ls st I J Q ↔ At 156 52 ls (.int (-3) :: st) I J Q := A_bipush (ab_io ci156 (by decide +kernel)) bc_m3
theorem k156_52 : At 156 52 ls [.int p0] I J Q ↔ Cal 127 [.int p0] I J (fun v I' J' => At 156 55 ls (v.toList ++ []) I' J' Q) := A_cal (kd := 1) (j := 162) (na := 1) (ea := 1) (rk := 0) (by decide +kernel) rfl rfl rfl (Or.inl rfl) (Nat.le_of_ble_eq_true rfl)
theorem k156_55 : At 156 55 ls [.long u] I J Q ↔ Q (some (.long u)) I J := A_lret (ab_io ci156 (by decide +kernel)) rt156
theorem k157_0 : At 157 0 [a0, some (.int x), a2, a3, a4, a5, a6] st I J Q ↔ At 157 1 [a0, some (.int x), a2, a3, a4, a5, a6] (.int x :: st) I J Q := A_iload_n (q := 1) (ab_io ci157 (by decide +kernel)) rfl
theorem k157_1 : At 157 1 ls [.int p0] I J Q ↔ Cal 131 [.int p0] I J (fun v I' J' => At 157 4 ls (v.toList ++ []) I' J' Q) := A_cal (kd := 1) (j := 108) (na := 1) (ea := 1) (rk := 0) (by decide +kernel) rfl rfl rfl (Or.inl rfl) (Nat.le_of_ble_eq_true rfl)
theorem k157_4 : At 157 4 ls (.int x :: st) I J Q ↔ if x = 0 then At 157 16 ls st I J Q else At 157 7 ls st I J Q := A_ifCond_eq (o := 12) (ab_io ci157 (by decide +kernel)) (by decide)
theorem k157_7 : At 157 7 [a0, a1, some (.int x), a3, a4, a5, a6] st I J Q ↔ At 157 8 [a0, a1, some (.int x), a3, a4, a5, a6] (.int x :: st) I J Q := A_iload_n (q := 2) (ab_io ci157 (by decide +kernel)) rfl
theorem k157_8 : At 157 8 ls st I J Q ↔ At 157 9 ls (.int (nI 0) :: st) I J Q := A_iconst (ab_io ci157 (by decide +kernel)) ic_0
theorem k157_9 : At 157 9 ls st I J Q ↔ At 157 10 ls (.int (nI 1) :: st) I J Q := A_iconst (ab_io ci157 (by decide +kernel)) ic_1
theorem k157_10 : At 157 10 ls [.int p0, .int p1, .int p2] I J Q ↔ Cal 126 [.int p2, .int p1, .int p0] I J (fun v I' J' => At 157 13 ls (v.toList ++ []) I' J' Q) := A_cal (kd := 1) (j := 101) (na := 3) (ea := 3) (rk := 0) (by decide +kernel) rfl rfl rfl (Or.inl rfl) (Nat.le_of_ble_eq_true rfl)
theorem k157_13 : At 157 13 ls (.int x :: st) I J Q ↔ if ¬ x = 0 then At 157 19 ls st I J Q else At 157 16 ls st I J Q := A_ifCond_ne (o := 6) (ab_io ci157 (by decide +kernel)) (by decide)
theorem k157_16 : At 157 16 ls st I J Q ↔ At 157 18 ls (.int (-2) :: st) I J Q := A_bipush (ab_io ci157 (by decide +kernel)) bc_m2
theorem k157_18 : At 157 18 ls [.int x] I J Q ↔ Q (some (.int x)) I J := A_iret (ab_io ci157 (by decide +kernel)) rt157
theorem k157_19 : At 157 19 [some (.ref r), a1, a2, a3, a4, a5, a6] st I J Q ↔ At 157 20 [some (.ref r), a1, a2, a3, a4, a5, a6] (.ref r :: st) I J Q := A_aload_n (q := 0) (ab_io ci157 (by decide +kernel)) rfl
theorem k157_20 : At 157 20 ls [.ref 49] I J Q ↔ Cal 138 [.ref 49] I J (fun v I' J' => At 157 23 ls (v.toList ++ []) I' J' Q) := A_cal (kd := 0) (j := 133) (na := 1) (ea := 1) (rk := 49) (by decide +kernel) rfl rfl rfl (Or.inr rfl) (Nat.le_of_ble_eq_true rfl)
theorem k157_23 : At 157 23 [some (.ref r), a1, a2, a3, a4, a5, a6] st I J Q ↔ At 157 24 [some (.ref r), a1, a2, a3, a4, a5, a6] (.ref r :: st) I J Q := A_aload_n (q := 0) (ab_io ci157 (by decide +kernel)) rfl
theorem k157_24 : At 157 24 ls (.ref 49 :: st) I J Q ↔ At 157 27 ls (.ref 57 :: st) I J Q := A_getR (ab_io ci157 (by decide +kernel)) ow157 fq8_35_49
theorem k157_27 : At 157 27 [a0, some (.int x), a2, a3, a4, a5, a6] st I J Q ↔ At 157 28 [a0, some (.int x), a2, a3, a4, a5, a6] (.int x :: st) I J Q := A_iload_n (q := 1) (ab_io ci157 (by decide +kernel)) rfl
theorem k157_28 : At 157 28 ls (.int x :: .ref r :: st) I J Q ↔ ((ab_ly r).1 = 1 ∧ r < 75 ∧ 0 ≤ x.toInt ∧ x.toInt < (ab_ly r).2) ∧ At 157 29 ls (.int (I r x.toNatClampNeg) :: st) I J Q := A_iaload (ab_io ci157 (by decide +kernel))
theorem k157_29 : At 157 29 [a0, a1, a2, a3, a4, a5, a6] (.int x :: st) I J Q ↔ At 157 30 [a0, a1, ab_nv a2, some (.int x), a4, a5, a6] st I J Q := A_istore_n (q := 3) (ab_io ci157 (by decide +kernel)) (Nat.le_of_ble_eq_true rfl) rfl
theorem k157_30 : At 157 30 [a0, a1, a2, some (.int x), a4, a5, a6] st I J Q ↔ At 157 31 [a0, a1, a2, some (.int x), a4, a5, a6] (.int x :: st) I J Q := A_iload_n (q := 3) (ab_io ci157 (by decide +kernel)) rfl
theorem k157_31 : At 157 31 ls st I J Q ↔ At 157 32 ls (.int (-1) :: st) I J Q := A_iconst (ab_io ci157 (by decide +kernel)) ic_m1
theorem k157_32 : At 157 32 ls (.int x1 :: .int x :: st) I J Q ↔ if ¬ x = x1 then At 157 38 ls st I J Q else At 157 35 ls st I J Q := A_if_icmp_ne (o := 6) (ab_io ci157 (by decide +kernel)) (by decide)
theorem k157_35 : At 157 35 ls st I J Q ↔ At 157 37 ls (.int (-3) :: st) I J Q := A_bipush (ab_io ci157 (by decide +kernel)) bc_m3
theorem k157_37 : At 157 37 ls [.int x] I J Q ↔ Q (some (.int x)) I J := A_iret (ab_io ci157 (by decide +kernel)) rt157
theorem k157_38 : At 157 38 [some (.ref r), a1, a2, a3, a4, a5, a6] st I J Q ↔ At 157 39 [some (.ref r), a1, a2, a3, a4, a5, a6] (.ref r :: st) I J Q := A_aload_n (q := 0) (ab_io ci157 (by decide +kernel)) rfl
theorem k157_39 : At 157 39 [a0, a1, a2, some (.int x), a4, a5, a6] st I J Q ↔ At 157 40 [a0, a1, a2, some (.int x), a4, a5, a6] (.int x :: st) I J Q := A_iload_n (q := 3) (ab_io ci157 (by decide +kernel)) rfl
theorem k157_40 : At 157 40 ls [.int p0, .ref 49] I J Q ↔ Cal 146 [.ref 49, .int p0] I J (fun v I' J' => At 157 43 ls (v.toList ++ []) I' J' Q) := A_cal (kd := 0) (j := 166) (na := 2) (ea := 2) (rk := 49) (by decide +kernel) rfl rfl rfl (Or.inr rfl) (Nat.le_of_ble_eq_true rfl)
theorem k157_43 : At 157 43 ls st I J Q ↔ At 157 44 ls (.int (nI 1) :: st) I J Q := A_iconst (ab_io ci157 (by decide +kernel)) ic_1
theorem k157_44 : At 157 44 [a0, a1, a2, a3, a4, a5, a6] (.int x :: st) I J Q ↔ At 157 46 [a0, a1, a2, ab_nv a3, some (.int x), a5, a6] st I J Q := A_istore (q := 4) (ab_io ci157 (by decide +kernel)) (Nat.le_of_ble_eq_true rfl) rfl
theorem k157_46 : At 157 46 ls st I J Q ↔ At 157 47 ls (.int (nI 0) :: st) I J Q := A_iconst (ab_io ci157 (by decide +kernel)) ic_0
theorem k157_47 : At 157 47 [a0, a1, a2, a3, a4, a5, a6] (.int x :: st) I J Q ↔ At 157 49 [a0, a1, a2, a3, ab_nv a4, some (.int x), a6] st I J Q := A_istore (q := 5) (ab_io ci157 (by decide +kernel)) (Nat.le_of_ble_eq_true rfl) rfl
theorem k157_49 : At 157 49 [a0, a1, a2, a3, a4, some (.int x), a6] st I J Q ↔ At 157 51 [a0, a1, a2, a3, a4, some (.int x), a6] (.int x :: st) I J Q := A_iload (q := 5) (ab_io ci157 (by decide +kernel)) rfl
theorem k157_51 : At 157 51 ls st I J Q ↔ At 157 53 ls (.int (nI 12) :: st) I J Q := A_bipush (ab_io ci157 (by decide +kernel)) bc_12
theorem k157_53 : At 157 53 ls (.int x1 :: .int x :: st) I J Q ↔ if x1 ≤ x then At 157 151 ls st I J Q else At 157 56 ls st I J Q := A_if_icmp_ge (o := 98) (ab_io ci157 (by decide +kernel)) (by decide)
theorem k157_56 : At 157 56 [some (.ref r), a1, a2, a3, a4, a5, a6] st I J Q ↔ At 157 57 [some (.ref r), a1, a2, a3, a4, a5, a6] (.ref r :: st) I J Q := A_aload_n (q := 0) (ab_io ci157 (by decide +kernel)) rfl
theorem k157_57 : At 157 57 ls (.ref 49 :: st) I J Q ↔ At 157 60 ls (.ref 57 :: st) I J Q := A_getR (ab_io ci157 (by decide +kernel)) ow157 fq8_35_49
theorem k157_60 : At 157 60 [a0, a1, a2, a3, a4, some (.int x), a6] st I J Q ↔ At 157 62 [a0, a1, a2, a3, a4, some (.int x), a6] (.int x :: st) I J Q := A_iload (q := 5) (ab_io ci157 (by decide +kernel)) rfl
theorem k157_62 : At 157 62 ls (.int x :: .ref r :: st) I J Q ↔ ((ab_ly r).1 = 1 ∧ r < 75 ∧ 0 ≤ x.toInt ∧ x.toInt < (ab_ly r).2) ∧ At 157 63 ls (.int (I r x.toNatClampNeg) :: st) I J Q := A_iaload (ab_io ci157 (by decide +kernel))
theorem k157_63 : At 157 63 [a0, a1, a2, some (.int x), a4, a5, a6] st I J Q ↔ At 157 64 [a0, a1, a2, some (.int x), a4, a5, a6] (.int x :: st) I J Q := A_iload_n (q := 3) (ab_io ci157 (by decide +kernel)) rfl
theorem k157_64 : At 157 64 ls (.int x1 :: .int x :: st) I J Q ↔ if ¬ x = x1 then At 157 145 ls st I J Q else At 157 67 ls st I J Q := A_if_icmp_ne (o := 81) (ab_io ci157 (by decide +kernel)) (by decide)
theorem k157_67 : At 157 67 [a0, a1, some (.int x), a3, a4, a5, a6] st I J Q ↔ At 157 68 [a0, a1, some (.int x), a3, a4, a5, a6] (.int x :: st) I J Q := A_iload_n (q := 2) (ab_io ci157 (by decide +kernel)) rfl
theorem k157_68 : At 157 68 ls (.int x :: st) I J Q ↔ if ¬ x = 0 then At 157 96 ls st I J Q else At 157 71 ls st I J Q := A_ifCond_ne (o := 28) (ab_io ci157 (by decide +kernel)) (by decide)
theorem k157_71 : At 157 71 [some (.ref r), a1, a2, a3, a4, a5, a6] st I J Q ↔ At 157 72 [some (.ref r), a1, a2, a3, a4, a5, a6] (.ref r :: st) I J Q := A_aload_n (q := 0) (ab_io ci157 (by decide +kernel)) rfl
theorem k157_72 : At 157 72 ls (.ref 49 :: st) I J Q ↔ At 157 75 ls (.ref 63 :: st) I J Q := A_getR (ab_io ci157 (by decide +kernel)) ow157 fq8_54_49
theorem k157_75 : At 157 75 [a0, a1, a2, a3, a4, some (.int x), a6] st I J Q ↔ At 157 77 [a0, a1, a2, a3, a4, some (.int x), a6] (.int x :: st) I J Q := A_iload (q := 5) (ab_io ci157 (by decide +kernel)) rfl
theorem k157_77 : At 157 77 ls (.int x :: .ref r :: st) I J Q ↔ ((ab_ly r).1 = 2 ∧ r < 75 ∧ 0 ≤ x.toInt ∧ x.toInt < (ab_ly r).2) ∧ At 157 78 ls (.long (J r x.toNatClampNeg) :: st) I J Q := A_laload (ab_io ci157 (by decide +kernel))
theorem k157_78 : At 157 78 [some (.ref r), a1, a2, a3, a4, a5, a6] st I J Q ↔ At 157 79 [some (.ref r), a1, a2, a3, a4, a5, a6] (.ref r :: st) I J Q := A_aload_n (q := 0) (ab_io ci157 (by decide +kernel)) rfl
theorem k157_79 : At 157 79 ls (.ref 49 :: st) I J Q ↔ At 157 82 ls (.ref 63 :: st) I J Q := A_getR (ab_io ci157 (by decide +kernel)) ow157 fq8_54_49
theorem k157_82 : At 157 82 [a0, some (.int x), a2, a3, a4, a5, a6] st I J Q ↔ At 157 83 [a0, some (.int x), a2, a3, a4, a5, a6] (.int x :: st) I J Q := A_iload_n (q := 1) (ab_io ci157 (by decide +kernel)) rfl
theorem k157_83 : At 157 83 ls (.int x :: .ref r :: st) I J Q ↔ ((ab_ly r).1 = 2 ∧ r < 75 ∧ 0 ≤ x.toInt ∧ x.toInt < (ab_ly r).2) ∧ At 157 84 ls (.long (J r x.toNatClampNeg) :: st) I J Q := A_laload (ab_io ci157 (by decide +kernel))
theorem k157_84 : At 157 84 ls (.long u1 :: .long u :: st) I J Q ↔ At 157 85 ls (.int (lg_cmp u u1) :: st) I J Q := A_lcmp (ab_io ci157 (by decide +kernel))
theorem k157_85 : At 157 85 ls (.int x :: st) I J Q ↔ if x ≤ 0 then At 157 92 ls st I J Q else At 157 88 ls st I J Q := A_ifCond_le (o := 7) (ab_io ci157 (by decide +kernel)) (by decide)
theorem k157_88 : At 157 88 ls st I J Q ↔ At 157 89 ls (.int (nI 1) :: st) I J Q := A_iconst (ab_io ci157 (by decide +kernel)) ic_1
theorem k157_89 : At 157 89 ls st I J Q ↔ At 157 128 ls st I J Q := A_goto (o := 39) (ab_io ci157 (by decide +kernel)) (by decide)
theorem k157_92 : At 157 92 ls st I J Q ↔ At 157 93 ls (.int (nI 0) :: st) I J Q := A_iconst (ab_io ci157 (by decide +kernel)) ic_0
theorem k157_93 : At 157 93 ls st I J Q ↔ At 157 128 ls st I J Q := A_goto (o := 35) (ab_io ci157 (by decide +kernel)) (by decide)
theorem k157_96 : At 157 96 [some (.ref r), a1, a2, a3, a4, a5, a6] st I J Q ↔ At 157 97 [some (.ref r), a1, a2, a3, a4, a5, a6] (.ref r :: st) I J Q := A_aload_n (q := 0) (ab_io ci157 (by decide +kernel)) rfl
theorem k157_97 : At 157 97 [a0, a1, a2, a3, a4, some (.int x), a6] st I J Q ↔ At 157 99 [a0, a1, a2, a3, a4, some (.int x), a6] (.int x :: st) I J Q := A_iload (q := 5) (ab_io ci157 (by decide +kernel)) rfl
theorem k157_99 : At 157 99 ls [.int p0, .ref 49] I J Q ↔ Cal 147 [.ref 49, .int p0] I J (fun v I' J' => At 157 102 ls (v.toList ++ []) I' J' Q) := A_cal (kd := 0) (j := 153) (na := 2) (ea := 2) (rk := 49) (by decide +kernel) rfl rfl rfl (Or.inr rfl) (Nat.le_of_ble_eq_true rfl)
theorem k157_102 : At 157 102 [some (.ref r), a1, a2, a3, a4, a5, a6] st I J Q ↔ At 157 103 [some (.ref r), a1, a2, a3, a4, a5, a6] (.ref r :: st) I J Q := A_aload_n (q := 0) (ab_io ci157 (by decide +kernel)) rfl
theorem k157_103 : At 157 103 [a0, some (.int x), a2, a3, a4, a5, a6] st I J Q ↔ At 157 104 [a0, some (.int x), a2, a3, a4, a5, a6] (.int x :: st) I J Q := A_iload_n (q := 1) (ab_io ci157 (by decide +kernel)) rfl
theorem k157_104 : At 157 104 ls [.int p0, .ref 49, .int q0] I J Q ↔ Cal 143 [.ref 49, .int p0] I J (fun v I' J' => At 157 107 ls (v.toList ++ [.int q0]) I' J' Q) := A_cal (kd := 0) (j := 140) (na := 2) (ea := 2) (rk := 49) (by decide +kernel) rfl rfl rfl (Or.inr rfl) (Nat.le_of_ble_eq_true rfl)
theorem k157_107 : At 157 107 ls (.int x1 :: .int x :: st) I J Q ↔ At 157 108 ls (.int (x * x1) :: st) I J Q := A_imul (ab_io ci157 (by decide +kernel))
theorem k157_108 : At 157 108 [some (.ref r), a1, a2, a3, a4, a5, a6] st I J Q ↔ At 157 109 [some (.ref r), a1, a2, a3, a4, a5, a6] (.ref r :: st) I J Q := A_aload_n (q := 0) (ab_io ci157 (by decide +kernel)) rfl
theorem k157_109 : At 157 109 [a0, some (.int x), a2, a3, a4, a5, a6] st I J Q ↔ At 157 110 [a0, some (.int x), a2, a3, a4, a5, a6] (.int x :: st) I J Q := A_iload_n (q := 1) (ab_io ci157 (by decide +kernel)) rfl
theorem k157_110 : At 157 110 ls [.int p0, .ref 49, .int q0] I J Q ↔ Cal 147 [.ref 49, .int p0] I J (fun v I' J' => At 157 113 ls (v.toList ++ [.int q0]) I' J' Q) := A_cal (kd := 0) (j := 153) (na := 2) (ea := 2) (rk := 49) (by decide +kernel) rfl rfl rfl (Or.inr rfl) (Nat.le_of_ble_eq_true rfl)
theorem k157_113 : At 157 113 [some (.ref r), a1, a2, a3, a4, a5, a6] st I J Q ↔ At 157 114 [some (.ref r), a1, a2, a3, a4, a5, a6] (.ref r :: st) I J Q := A_aload_n (q := 0) (ab_io ci157 (by decide +kernel)) rfl
theorem k157_114 : At 157 114 [a0, a1, a2, a3, a4, some (.int x), a6] st I J Q ↔ At 157 116 [a0, a1, a2, a3, a4, some (.int x), a6] (.int x :: st) I J Q := A_iload (q := 5) (ab_io ci157 (by decide +kernel)) rfl
theorem k157_116 : At 157 116 ls [.int p0, .ref 49, .int q0, .int q1] I J Q ↔ Cal 143 [.ref 49, .int p0] I J (fun v I' J' => At 157 119 ls (v.toList ++ [.int q0, .int q1]) I' J' Q) := A_cal (kd := 0) (j := 140) (na := 2) (ea := 2) (rk := 49) (by decide +kernel) rfl rfl rfl (Or.inr rfl) (Nat.le_of_ble_eq_true rfl)
theorem k157_119 : At 157 119 ls (.int x1 :: .int x :: st) I J Q ↔ At 157 120 ls (.int (x * x1) :: st) I J Q := A_imul (ab_io ci157 (by decide +kernel))
theorem k157_120 : At 157 120 ls (.int x1 :: .int x :: st) I J Q ↔ if x ≤ x1 then At 157 127 ls st I J Q else At 157 123 ls st I J Q := A_if_icmp_le (o := 7) (ab_io ci157 (by decide +kernel)) (by decide)
theorem k157_123 : At 157 123 ls st I J Q ↔ At 157 124 ls (.int (nI 1) :: st) I J Q := A_iconst (ab_io ci157 (by decide +kernel)) ic_1
theorem k157_124 : At 157 124 ls st I J Q ↔ At 157 128 ls st I J Q := A_goto (o := 4) (ab_io ci157 (by decide +kernel)) (by decide)
theorem k157_127 : At 157 127 ls st I J Q ↔ At 157 128 ls (.int (nI 0) :: st) I J Q := A_iconst (ab_io ci157 (by decide +kernel)) ic_0
theorem k157_128 : At 157 128 [a0, a1, a2, a3, a4, a5, a6] (.int x :: st) I J Q ↔ At 157 130 [a0, a1, a2, a3, a4, ab_nv a5, some (.int x)] st I J Q := A_istore (q := 6) (ab_io ci157 (by decide +kernel)) (Nat.le_of_ble_eq_true rfl) rfl
theorem k157_130 : At 157 130 [a0, a1, a2, a3, some (.int x), a5, a6] st I J Q ↔ At 157 132 [a0, a1, a2, a3, some (.int x), a5, a6] (.int x :: st) I J Q := A_iload (q := 4) (ab_io ci157 (by decide +kernel)) rfl
theorem k157_132 : At 157 132 [a0, a1, a2, a3, a4, a5, some (.int x)] st I J Q ↔ At 157 134 [a0, a1, a2, a3, a4, a5, some (.int x)] (.int x :: st) I J Q := A_iload (q := 6) (ab_io ci157 (by decide +kernel)) rfl
theorem k157_134 : At 157 134 ls (.int x :: st) I J Q ↔ if x = 0 then At 157 141 ls st I J Q else At 157 137 ls st I J Q := A_ifCond_eq (o := 7) (ab_io ci157 (by decide +kernel)) (by decide)
theorem k157_137 : At 157 137 ls st I J Q ↔ At 157 138 ls (.int (nI 1) :: st) I J Q := A_iconst (ab_io ci157 (by decide +kernel)) ic_1
theorem k157_138 : At 157 138 ls st I J Q ↔ At 157 142 ls st I J Q := A_goto (o := 4) (ab_io ci157 (by decide +kernel)) (by decide)
theorem k157_141 : At 157 141 ls st I J Q ↔ At 157 142 ls (.int (nI 0) :: st) I J Q := A_iconst (ab_io ci157 (by decide +kernel)) ic_0
theorem k157_142 : At 157 142 ls (.int x1 :: .int x :: st) I J Q ↔ At 157 143 ls (.int (x + x1) :: st) I J Q := A_iadd (ab_io ci157 (by decide +kernel))
theorem k157_143 : At 157 143 [a0, a1, a2, a3, a4, a5, a6] (.int x :: st) I J Q ↔ At 157 145 [a0, a1, a2, ab_nv a3, some (.int x), a5, a6] st I J Q := A_istore (q := 4) (ab_io ci157 (by decide +kernel)) (Nat.le_of_ble_eq_true rfl) rfl
theorem k157_145 : At 157 145 [a0, a1, a2, a3, a4, some (.int x), a6] st I J Q ↔ At 157 148 [a0, a1, a2, a3, ab_nv a4, some (.int (x + (nI 1))), a6] st I J Q := A_iinc (q := 5) (ab_io ci157 (by decide +kernel)) ic_1 (Nat.le_of_ble_eq_true rfl) rfl rfl
theorem k157_148 : At 157 148 ls st I J Q ↔ At 157 49 ls st I J Q := A_goto (o := (-99)) (ab_io ci157 (by decide +kernel)) (by decide)
theorem k157_151 : At 157 151 [a0, a1, a2, a3, some (.int x), a5, a6] st I J Q ↔ At 157 153 [a0, a1, a2, a3, some (.int x), a5, a6] (.int x :: st) I J Q := A_iload (q := 4) (ab_io ci157 (by decide +kernel)) rfl
theorem k157_153 : At 157 153 ls [.int x] I J Q ↔ Q (some (.int x)) I J := A_iret (ab_io ci157 (by decide +kernel)) rt157
theorem k158_0 : At 158 0 [a0, some (.int x)] st I J Q ↔ At 158 1 [a0, some (.int x)] (.int x :: st) I J Q := A_iload_n (q := 1) (ab_io ci158 (by decide +kernel)) rfl
theorem k158_1 : At 158 1 ls st I J Q ↔ At 158 2 ls (.int (nI 0) :: st) I J Q := A_iconst (ab_io ci158 (by decide +kernel)) ic_0
theorem k158_2 : At 158 2 ls st I J Q ↔ At 158 5 ls (.int (nI 255) :: st) I J Q := A_sipush (ab_io ci158 (by decide +kernel)) sc_255
theorem k158_5 : At 158 5 ls [.int p0, .int p1, .int p2] I J Q ↔ Cal 126 [.int p2, .int p1, .int p0] I J (fun v I' J' => At 158 8 ls (v.toList ++ []) I' J' Q) := A_cal (kd := 1) (j := 101) (na := 3) (ea := 3) (rk := 0) (by decide +kernel) rfl rfl rfl (Or.inl rfl) (Nat.le_of_ble_eq_true rfl)
theorem k158_8 : At 158 8 ls (.int x :: st) I J Q ↔ if ¬ x = 0 then At 158 14 ls st I J Q else At 158 11 ls st I J Q := A_ifCond_ne (o := 6) (ab_io ci158 (by decide +kernel)) (by decide)
theorem k158_11 : At 158 11 ls st I J Q ↔ At 158 13 ls (.int (-2) :: st) I J Q := A_bipush (ab_io ci158 (by decide +kernel)) bc_m2
theorem k158_13 : At 158 13 ls [.int x] I J Q ↔ Q (some (.int x)) I J := A_iret (ab_io ci158 (by decide +kernel)) rt158
theorem k158_14 : At 158 14 [some (.ref r), a1] st I J Q ↔ At 158 15 [some (.ref r), a1] (.ref r :: st) I J Q := A_aload_n (q := 0) (ab_io ci158 (by decide +kernel)) rfl
theorem k158_15 : At 158 15 ls (.ref 49 :: st) I J Q ↔ At 158 18 ls (.int (I 49 18) :: st) I J Q := A_getI (ab_io ci158 (by decide +kernel)) ow158 fq8_189_49
theorem k158_18 : At 158 18 ls st I J Q ↔ At 158 20 ls (.int (nI 60) :: st) I J Q := A_bipush (ab_io ci158 (by decide +kernel)) bc_60
theorem k158_20 : At 158 20 ls (.int x1 :: .int x :: st) I J Q ↔ if ¬ x = x1 then At 158 26 ls st I J Q else At 158 23 ls st I J Q := A_if_icmp_ne (o := 6) (ab_io ci158 (by decide +kernel)) (by decide)
theorem k158_23 : At 158 23 ls st I J Q ↔ At 158 25 ls (.int (-4) :: st) I J Q := A_bipush (ab_io ci158 (by decide +kernel)) bc_m4
theorem k158_25 : At 158 25 ls [.int x] I J Q ↔ Q (some (.int x)) I J := A_iret (ab_io ci158 (by decide +kernel)) rt158
theorem k158_26 : At 158 26 [some (.ref r), a1] st I J Q ↔ At 158 27 [some (.ref r), a1] (.ref r :: st) I J Q := A_aload_n (q := 0) (ab_io ci158 (by decide +kernel)) rfl
theorem k158_27 : At 158 27 ls (.ref 49 :: st) I J Q ↔ At 158 30 ls (.ref 64 :: st) I J Q := A_getR (ab_io ci158 (by decide +kernel)) ow158 fq8_57_49
theorem k158_30 : At 158 30 [some (.ref r), a1] st I J Q ↔ At 158 31 [some (.ref r), a1] (.ref r :: st) I J Q := A_aload_n (q := 0) (ab_io ci158 (by decide +kernel)) rfl
theorem k158_31 : At 158 31 ls (.ref 49 :: st) I J Q ↔ At 158 34 ls (.int (I 49 18) :: st) I J Q := A_getI (ab_io ci158 (by decide +kernel)) ow158 fq8_189_49
theorem k158_34 : At 158 34 [a0, some (.int x)] st I J Q ↔ At 158 35 [a0, some (.int x)] (.int x :: st) I J Q := A_iload_n (q := 1) (ab_io ci158 (by decide +kernel)) rfl
theorem k158_35 : At 158 35 ls (.int x1 :: .int x :: .ref r :: st) I J Q ↔ ((ab_ly r).1 = 1 ∧ r < 75 ∧ 0 ≤ x.toInt ∧ x.toInt < (ab_ly r).2) ∧ At 158 36 ls st (va_up I r (va_up (I r) x.toNatClampNeg x1)) J Q := A_iastore (ab_io ci158 (by decide +kernel))
theorem k158_36 : At 158 36 [some (.ref r), a1] st I J Q ↔ At 158 37 [some (.ref r), a1] (.ref r :: st) I J Q := A_aload_n (q := 0) (ab_io ci158 (by decide +kernel)) rfl
theorem k158_37 : At 158 37 ls (.ref r :: st) I J Q ↔ At 158 38 ls (.ref r :: .ref r :: st) I J Q := A_dupA (ab_io ci158 (by decide +kernel))
theorem k158_38 : At 158 38 ls (.ref 49 :: st) I J Q ↔ At 158 41 ls (.int (I 49 18) :: st) I J Q := A_getI (ab_io ci158 (by decide +kernel)) ow158 fq8_189_49
theorem k158_41 : At 158 41 ls st I J Q ↔ At 158 42 ls (.int (nI 1) :: st) I J Q := A_iconst (ab_io ci158 (by decide +kernel)) ic_1
theorem k158_42 : At 158 42 ls (.int x1 :: .int x :: st) I J Q ↔ At 158 43 ls (.int (x + x1) :: st) I J Q := A_iadd (ab_io ci158 (by decide +kernel))
theorem k158_43 : At 158 43 ls (.int x :: .ref 49 :: st) I J Q ↔ At 158 46 ls st (va_up I 49 (va_up (I 49) 18 x)) J Q := A_putI (ab_io ci158 (by decide +kernel)) ow158 fq8_189_49
theorem k158_46 : At 158 46 [some (.ref r), a1] st I J Q ↔ At 158 47 [some (.ref r), a1] (.ref r :: st) I J Q := A_aload_n (q := 0) (ab_io ci158 (by decide +kernel)) rfl
theorem k158_47 : At 158 47 ls (.ref 49 :: st) I J Q ↔ At 158 50 ls (.int (I 49 18) :: st) I J Q := A_getI (ab_io ci158 (by decide +kernel)) ow158 fq8_189_49
theorem k158_50 : At 158 50 ls [.int x] I J Q ↔ Q (some (.int x)) I J := A_iret (ab_io ci158 (by decide +kernel)) rt158
theorem k159_0 : At 159 0 [some (.ref r), a1] st I J Q ↔ At 159 1 [some (.ref r), a1] (.ref r :: st) I J Q := A_aload_n (q := 0) (ab_io ci159 (by decide +kernel)) rfl
theorem k159_1 : At 159 1 ls (.ref 49 :: st) I J Q ↔ At 159 4 ls (.int (I 49 18) :: st) I J Q := A_getI (ab_io ci159 (by decide +kernel)) ow159 fq8_189_49
theorem k159_4 : At 159 4 [a0, a1] (.int x :: st) I J Q ↔ At 159 5 [ab_nv a0, some (.int x)] st I J Q := A_istore_n (q := 1) (ab_io ci159 (by decide +kernel)) (Nat.le_of_ble_eq_true rfl) rfl
theorem k159_5 : At 159 5 [some (.ref r), a1] st I J Q ↔ At 159 6 [some (.ref r), a1] (.ref r :: st) I J Q := A_aload_n (q := 0) (ab_io ci159 (by decide +kernel)) rfl
theorem k159_6 : At 159 6 ls st I J Q ↔ At 159 7 ls (.int (nI 0) :: st) I J Q := A_iconst (ab_io ci159 (by decide +kernel)) ic_0
theorem k159_7 : At 159 7 ls (.int x :: .ref 49 :: st) I J Q ↔ At 159 10 ls st (va_up I 49 (va_up (I 49) 18 x)) J Q := A_putI (ab_io ci159 (by decide +kernel)) ow159 fq8_189_49
theorem k159_10 : At 159 10 [a0, some (.int x)] st I J Q ↔ At 159 11 [a0, some (.int x)] (.int x :: st) I J Q := A_iload_n (q := 1) (ab_io ci159 (by decide +kernel)) rfl
theorem k159_11 : At 159 11 ls [.int x] I J Q ↔ Q (some (.int x)) I J := A_iret (ab_io ci159 (by decide +kernel)) rt159
theorem k160_0 : At 160 0 [some (.ref r)] st I J Q ↔ At 160 1 [some (.ref r)] (.ref r :: st) I J Q := A_aload_n (q := 0) (ab_io ci160 (by decide +kernel)) rfl
theorem k160_1 : At 160 1 ls (.ref 49 :: st) I J Q ↔ At 160 4 ls (.int (I 49 20) :: st) I J Q := A_getI (ab_io ci160 (by decide +kernel)) ow160 fq8_192_49
theorem k160_4 : At 160 4 [some (.ref r)] st I J Q ↔ At 160 5 [some (.ref r)] (.ref r :: st) I J Q := A_aload_n (q := 0) (ab_io ci160 (by decide +kernel)) rfl
theorem k160_5 : At 160 5 ls (.ref 49 :: st) I J Q ↔ At 160 8 ls (.int (I 49 18) :: st) I J Q := A_getI (ab_io ci160 (by decide +kernel)) ow160 fq8_189_49
theorem k160_8 : At 160 8 ls (.int x1 :: .int x :: st) I J Q ↔ if x1 ≤ x then At 160 23 ls st I J Q else At 160 11 ls st I J Q := A_if_icmp_ge (o := 15) (ab_io ci160 (by decide +kernel)) (by decide)
theorem k160_11 : At 160 11 [some (.ref r)] st I J Q ↔ At 160 12 [some (.ref r)] (.ref r :: st) I J Q := A_aload_n (q := 0) (ab_io ci160 (by decide +kernel)) rfl
theorem k160_12 : At 160 12 ls (.ref 49 :: st) I J Q ↔ At 160 15 ls (.ref 64 :: st) I J Q := A_getR (ab_io ci160 (by decide +kernel)) ow160 fq8_57_49
theorem k160_15 : At 160 15 [some (.ref r)] st I J Q ↔ At 160 16 [some (.ref r)] (.ref r :: st) I J Q := A_aload_n (q := 0) (ab_io ci160 (by decide +kernel)) rfl
theorem k160_16 : At 160 16 ls (.ref 49 :: st) I J Q ↔ At 160 19 ls (.int (I 49 20) :: st) I J Q := A_getI (ab_io ci160 (by decide +kernel)) ow160 fq8_192_49
theorem k160_19 : At 160 19 ls (.int x :: .ref r :: st) I J Q ↔ ((ab_ly r).1 = 1 ∧ r < 75 ∧ 0 ≤ x.toInt ∧ x.toInt < (ab_ly r).2) ∧ At 160 20 ls (.int (I r x.toNatClampNeg) :: st) I J Q := A_iaload (ab_io ci160 (by decide +kernel))
theorem k160_20 : At 160 20 ls st I J Q ↔ At 160 24 ls st I J Q := A_goto (o := 4) (ab_io ci160 (by decide +kernel)) (by decide)
theorem k160_23 : At 160 23 ls st I J Q ↔ At 160 24 ls (.int (-1) :: st) I J Q := A_iconst (ab_io ci160 (by decide +kernel)) ic_m1
theorem k160_24 : At 160 24 ls [.int x] I J Q ↔ Q (some (.int x)) I J := A_iret (ab_io ci160 (by decide +kernel)) rt160
theorem k161_0 : At 161 0 [some (.ref r)] st I J Q ↔ At 161 1 [some (.ref r)] (.ref r :: st) I J Q := A_aload_n (q := 0) (ab_io ci161 (by decide +kernel)) rfl
theorem k161_1 : At 161 1 ls [.ref 49] I J Q ↔ Cal 160 [.ref 49] I J (fun v I' J' => At 161 4 ls (v.toList ++ []) I' J' Q) := A_cal (kd := 0) (j := 195) (na := 1) (ea := 1) (rk := 49) (by decide +kernel) rfl rfl rfl (Or.inr rfl) (Nat.le_of_ble_eq_true rfl)
theorem k161_4 : At 161 4 ls st I J Q ↔ At 161 6 ls (.int (nI 48) :: st) I J Q := A_bipush (ab_io ci161 (by decide +kernel)) bc_48
theorem k161_6 : At 161 6 ls (.int x1 :: .int x :: st) I J Q ↔ if x < x1 then At 161 22 ls st I J Q else At 161 9 ls st I J Q := A_if_icmp_lt (o := 16) (ab_io ci161 (by decide +kernel)) (by decide)
theorem k161_9 : At 161 9 [some (.ref r)] st I J Q ↔ At 161 10 [some (.ref r)] (.ref r :: st) I J Q := A_aload_n (q := 0) (ab_io ci161 (by decide +kernel)) rfl
theorem k161_10 : At 161 10 ls [.ref 49] I J Q ↔ Cal 160 [.ref 49] I J (fun v I' J' => At 161 13 ls (v.toList ++ []) I' J' Q) := A_cal (kd := 0) (j := 195) (na := 1) (ea := 1) (rk := 49) (by decide +kernel) rfl rfl rfl (Or.inr rfl) (Nat.le_of_ble_eq_true rfl)
theorem k161_13 : At 161 13 ls st I J Q ↔ At 161 15 ls (.int (nI 57) :: st) I J Q := A_bipush (ab_io ci161 (by decide +kernel)) bc_57
theorem k161_15 : At 161 15 ls (.int x1 :: .int x :: st) I J Q ↔ if x1 < x then At 161 22 ls st I J Q else At 161 18 ls st I J Q := A_if_icmp_gt (o := 7) (ab_io ci161 (by decide +kernel)) (by decide)
theorem k161_18 : At 161 18 ls st I J Q ↔ At 161 19 ls (.int (nI 1) :: st) I J Q := A_iconst (ab_io ci161 (by decide +kernel)) ic_1
theorem k161_19 : At 161 19 ls st I J Q ↔ At 161 23 ls st I J Q := A_goto (o := 4) (ab_io ci161 (by decide +kernel)) (by decide)
theorem k161_22 : At 161 22 ls st I J Q ↔ At 161 23 ls (.int (nI 0) :: st) I J Q := A_iconst (ab_io ci161 (by decide +kernel)) ic_0
theorem k161_23 : At 161 23 ls [.int x] I J Q ↔ (x = 0 ∨ x = 1) ∧ Q (some (.int x)) I J := A_zret (ab_io ci161 (by decide +kernel)) rt161
theorem k162_0 : At 162 0 [some (.ref r), a1, a2, a3, a4] st I J Q ↔ At 162 1 [some (.ref r), a1, a2, a3, a4] (.ref r :: st) I J Q := A_aload_n (q := 0) (ab_io ci162 (by decide +kernel)) rfl
theorem k162_1 : At 162 1 ls (.ref 49 :: st) I J Q ↔ At 162 4 ls (.int (I 49 22) :: st) I J Q := A_getI (ab_io ci162 (by decide +kernel)) ow162 fq8_198_49
theorem k162_4 : At 162 4 ls (.int x :: st) I J Q ↔ if ¬ x = 0 then At 162 11 ls st I J Q else At 162 7 ls st I J Q := A_ifCond_ne (o := 7) (ab_io ci162 (by decide +kernel)) (by decide)
theorem k162_7 : At 162 7 ls st I J Q ↔ At 162 8 ls (.int (-1) :: st) I J Q := A_iconst (ab_io ci162 (by decide +kernel)) ic_m1
theorem k162_8 : At 162 8 ls st I J Q ↔ At 162 22 ls st I J Q := A_goto (o := 14) (ab_io ci162 (by decide +kernel)) (by decide)
theorem k162_11 : At 162 11 [some (.ref r), a1, a2, a3, a4] st I J Q ↔ At 162 12 [some (.ref r), a1, a2, a3, a4] (.ref r :: st) I J Q := A_aload_n (q := 0) (ab_io ci162 (by decide +kernel)) rfl
theorem k162_12 : At 162 12 ls (.ref 49 :: st) I J Q ↔ At 162 15 ls (.ref 65 :: st) I J Q := A_getR (ab_io ci162 (by decide +kernel)) ow162 fq8_60_49
theorem k162_15 : At 162 15 [some (.ref r), a1, a2, a3, a4] st I J Q ↔ At 162 16 [some (.ref r), a1, a2, a3, a4] (.ref r :: st) I J Q := A_aload_n (q := 0) (ab_io ci162 (by decide +kernel)) rfl
theorem k162_16 : At 162 16 ls (.ref 49 :: st) I J Q ↔ At 162 19 ls (.int (I 49 22) :: st) I J Q := A_getI (ab_io ci162 (by decide +kernel)) ow162 fq8_198_49
theorem k162_19 : At 162 19 ls st I J Q ↔ At 162 20 ls (.int (nI 1) :: st) I J Q := A_iconst (ab_io ci162 (by decide +kernel)) ic_1
theorem k162_20 : At 162 20 ls (.int x1 :: .int x :: st) I J Q ↔ At 162 21 ls (.int (x - x1) :: st) I J Q := A_isub (ab_io ci162 (by decide +kernel))
theorem k162_21 : At 162 21 ls (.int x :: .ref r :: st) I J Q ↔ ((ab_ly r).1 = 1 ∧ r < 75 ∧ 0 ≤ x.toInt ∧ x.toInt < (ab_ly r).2) ∧ At 162 22 ls (.int (I r x.toNatClampNeg) :: st) I J Q := A_iaload (ab_io ci162 (by decide +kernel))
theorem k162_22 : At 162 22 [a0, a1, a2, a3, a4] (.int x :: st) I J Q ↔ At 162 23 [ab_nv a0, some (.int x), a2, a3, a4] st I J Q := A_istore_n (q := 1) (ab_io ci162 (by decide +kernel)) (Nat.le_of_ble_eq_true rfl) rfl
theorem k162_23 : At 162 23 [some (.ref r), a1, a2, a3, a4] st I J Q ↔ At 162 24 [some (.ref r), a1, a2, a3, a4] (.ref r :: st) I J Q := A_aload_n (q := 0) (ab_io ci162 (by decide +kernel)) rfl
theorem k162_24 : At 162 24 ls [.ref 49] I J Q ↔ Cal 160 [.ref 49] I J (fun v I' J' => At 162 27 ls (v.toList ++ []) I' J' Q) := A_cal (kd := 0) (j := 195) (na := 1) (ea := 1) (rk := 49) (by decide +kernel) rfl rfl rfl (Or.inr rfl) (Nat.le_of_ble_eq_true rfl)
theorem k162_27 : At 162 27 ls st I J Q ↔ At 162 29 ls (.int (nI 65) :: st) I J Q := A_bipush (ab_io ci162 (by decide +kernel)) bc_65
theorem k162_29 : At 162 29 ls (.int x1 :: .int x :: st) I J Q ↔ At 162 30 ls (.int (x - x1) :: st) I J Q := A_isub (ab_io ci162 (by decide +kernel))
theorem k162_30 : At 162 30 [a0, a1, a2, a3, a4] (.int x :: st) I J Q ↔ At 162 31 [a0, ab_nv a1, some (.int x), a3, a4] st I J Q := A_istore_n (q := 2) (ab_io ci162 (by decide +kernel)) (Nat.le_of_ble_eq_true rfl) rfl
theorem k162_31 : At 162 31 [a0, a1, some (.int x), a3, a4] st I J Q ↔ At 162 32 [a0, a1, some (.int x), a3, a4] (.int x :: st) I J Q := A_iload_n (q := 2) (ab_io ci162 (by decide +kernel)) rfl
theorem k162_32 : At 162 32 [a0, some (.int x), a2, a3, a4] st I J Q ↔ At 162 33 [a0, some (.int x), a2, a3, a4] (.int x :: st) I J Q := A_iload_n (q := 1) (ab_io ci162 (by decide +kernel)) rfl
theorem k162_33 : At 162 33 ls st I J Q ↔ At 162 34 ls (.int (nI 1) :: st) I J Q := A_iconst (ab_io ci162 (by decide +kernel)) ic_1
theorem k162_34 : At 162 34 ls (.int x1 :: .int x :: st) I J Q ↔ At 162 35 ls (.int (x + x1) :: st) I J Q := A_iadd (ab_io ci162 (by decide +kernel))
theorem k162_35 : At 162 35 ls st I J Q ↔ At 162 36 ls (.int (nI 5) :: st) I J Q := A_iconst (ab_io ci162 (by decide +kernel)) ic_5
theorem k162_36 : At 162 36 ls [.int p0, .int p1, .int p2] I J Q ↔ Cal 126 [.int p2, .int p1, .int p0] I J (fun v I' J' => At 162 39 ls (v.toList ++ []) I' J' Q) := A_cal (kd := 1) (j := 101) (na := 3) (ea := 3) (rk := 0) (by decide +kernel) rfl rfl rfl (Or.inl rfl) (Nat.le_of_ble_eq_true rfl)
theorem k162_39 : At 162 39 ls (.int x :: st) I J Q ↔ if ¬ x = 0 then At 162 51 ls st I J Q else At 162 42 ls st I J Q := A_ifCond_ne (o := 12) (ab_io ci162 (by decide +kernel)) (by decide)
theorem k162_42 : At 162 42 [some (.ref r), a1, a2, a3, a4] st I J Q ↔ At 162 43 [some (.ref r), a1, a2, a3, a4] (.ref r :: st) I J Q := A_aload_n (q := 0) (ab_io ci162 (by decide +kernel)) rfl
theorem k162_43 : At 162 43 [some (.ref r), a1, a2, a3, a4] st I J Q ↔ At 162 44 [some (.ref r), a1, a2, a3, a4] (.ref r :: st) I J Q := A_aload_n (q := 0) (ab_io ci162 (by decide +kernel)) rfl
theorem k162_44 : At 162 44 ls (.ref 49 :: st) I J Q ↔ At 162 47 ls (.int (I 49 20) :: st) I J Q := A_getI (ab_io ci162 (by decide +kernel)) ow162 fq8_192_49
theorem k162_47 : At 162 47 ls (.int x :: .ref 49 :: st) I J Q ↔ At 162 50 ls st (va_up I 49 (va_up (I 49) 21 x)) J Q := A_putI (ab_io ci162 (by decide +kernel)) ow162 fq8_201_49
theorem k162_50 : At 162 50 ls [] I J Q ↔ Q none I J := A_vret (ab_io ci162 (by decide +kernel)) rt162
theorem k162_51 : At 162 51 [some (.ref r), a1, a2, a3, a4] st I J Q ↔ At 162 52 [some (.ref r), a1, a2, a3, a4] (.ref r :: st) I J Q := A_aload_n (q := 0) (ab_io ci162 (by decide +kernel)) rfl
theorem k162_52 : At 162 52 ls (.ref r :: st) I J Q ↔ At 162 53 ls (.ref r :: .ref r :: st) I J Q := A_dupA (ab_io ci162 (by decide +kernel))
theorem k162_53 : At 162 53 ls (.ref 49 :: st) I J Q ↔ At 162 56 ls (.int (I 49 20) :: st) I J Q := A_getI (ab_io ci162 (by decide +kernel)) ow162 fq8_192_49
theorem k162_56 : At 162 56 ls st I J Q ↔ At 162 57 ls (.int (nI 1) :: st) I J Q := A_iconst (ab_io ci162 (by decide +kernel)) ic_1
theorem k162_57 : At 162 57 ls (.int x1 :: .int x :: st) I J Q ↔ At 162 58 ls (.int (x + x1) :: st) I J Q := A_iadd (ab_io ci162 (by decide +kernel))
theorem k162_58 : At 162 58 ls (.int x :: .ref 49 :: st) I J Q ↔ At 162 61 ls st (va_up I 49 (va_up (I 49) 20 x)) J Q := A_putI (ab_io ci162 (by decide +kernel)) ow162 fq8_192_49
theorem k162_61 : At 162 61 [some (.ref r), a1, a2, a3, a4] st I J Q ↔ At 162 62 [some (.ref r), a1, a2, a3, a4] (.ref r :: st) I J Q := A_aload_n (q := 0) (ab_io ci162 (by decide +kernel)) rfl
theorem k162_62 : At 162 62 ls [.ref 49] I J Q ↔ Cal 160 [.ref 49] I J (fun v I' J' => At 162 65 ls (v.toList ++ []) I' J' Q) := A_cal (kd := 0) (j := 195) (na := 1) (ea := 1) (rk := 49) (by decide +kernel) rfl rfl rfl (Or.inr rfl) (Nat.le_of_ble_eq_true rfl)
theorem k162_65 : At 162 65 ls st I J Q ↔ At 162 67 ls (.int (nI 61) :: st) I J Q := A_bipush (ab_io ci162 (by decide +kernel)) bc_61
theorem k162_67 : At 162 67 ls (.int x1 :: .int x :: st) I J Q ↔ if x = x1 then At 162 79 ls st I J Q else At 162 70 ls st I J Q := A_if_icmp_eq (o := 12) (ab_io ci162 (by decide +kernel)) (by decide)
theorem k162_70 : At 162 70 [some (.ref r), a1, a2, a3, a4] st I J Q ↔ At 162 71 [some (.ref r), a1, a2, a3, a4] (.ref r :: st) I J Q := A_aload_n (q := 0) (ab_io ci162 (by decide +kernel)) rfl
theorem k162_71 : At 162 71 [some (.ref r), a1, a2, a3, a4] st I J Q ↔ At 162 72 [some (.ref r), a1, a2, a3, a4] (.ref r :: st) I J Q := A_aload_n (q := 0) (ab_io ci162 (by decide +kernel)) rfl
theorem k162_72 : At 162 72 ls (.ref 49 :: st) I J Q ↔ At 162 75 ls (.int (I 49 20) :: st) I J Q := A_getI (ab_io ci162 (by decide +kernel)) ow162 fq8_192_49
theorem k162_75 : At 162 75 ls (.int x :: .ref 49 :: st) I J Q ↔ At 162 78 ls st (va_up I 49 (va_up (I 49) 21 x)) J Q := A_putI (ab_io ci162 (by decide +kernel)) ow162 fq8_201_49
theorem k162_78 : At 162 78 ls [] I J Q ↔ Q none I J := A_vret (ab_io ci162 (by decide +kernel)) rt162
theorem k162_79 : At 162 79 [some (.ref r), a1, a2, a3, a4] st I J Q ↔ At 162 80 [some (.ref r), a1, a2, a3, a4] (.ref r :: st) I J Q := A_aload_n (q := 0) (ab_io ci162 (by decide +kernel)) rfl
theorem k162_80 : At 162 80 ls (.ref r :: st) I J Q ↔ At 162 81 ls (.ref r :: .ref r :: st) I J Q := A_dupA (ab_io ci162 (by decide +kernel))
theorem k162_81 : At 162 81 ls (.ref 49 :: st) I J Q ↔ At 162 84 ls (.int (I 49 20) :: st) I J Q := A_getI (ab_io ci162 (by decide +kernel)) ow162 fq8_192_49
theorem k162_84 : At 162 84 ls st I J Q ↔ At 162 85 ls (.int (nI 1) :: st) I J Q := A_iconst (ab_io ci162 (by decide +kernel)) ic_1
theorem k162_85 : At 162 85 ls (.int x1 :: .int x :: st) I J Q ↔ At 162 86 ls (.int (x + x1) :: st) I J Q := A_iadd (ab_io ci162 (by decide +kernel))
theorem k162_86 : At 162 86 ls (.int x :: .ref 49 :: st) I J Q ↔ At 162 89 ls st (va_up I 49 (va_up (I 49) 20 x)) J Q := A_putI (ab_io ci162 (by decide +kernel)) ow162 fq8_192_49
theorem k162_89 : At 162 89 [some (.ref r), a1, a2, a3, a4] st I J Q ↔ At 162 90 [some (.ref r), a1, a2, a3, a4] (.ref r :: st) I J Q := A_aload_n (q := 0) (ab_io ci162 (by decide +kernel)) rfl
theorem k162_90 : At 162 90 ls (.ref 49 :: st) I J Q ↔ At 162 93 ls (.int (I 49 20) :: st) I J Q := A_getI (ab_io ci162 (by decide +kernel)) ow162 fq8_192_49
theorem k162_93 : At 162 93 [a0, a1, a2, a3, a4] (.int x :: st) I J Q ↔ At 162 94 [a0, a1, ab_nv a2, some (.int x), a4] st I J Q := A_istore_n (q := 3) (ab_io ci162 (by decide +kernel)) (Nat.le_of_ble_eq_true rfl) rfl
theorem k162_94 : At 162 94 ls st I J Q ↔ At 162 95 ls (.int (nI 0) :: st) I J Q := A_iconst (ab_io ci162 (by decide +kernel)) ic_0
theorem k162_95 : At 162 95 [a0, a1, a2, a3, a4] (.int x :: st) I J Q ↔ At 162 97 [a0, a1, a2, ab_nv a3, some (.int x)] st I J Q := A_istore (q := 4) (ab_io ci162 (by decide +kernel)) (Nat.le_of_ble_eq_true rfl) rfl
theorem k162_97 : At 162 97 [some (.ref r), a1, a2, a3, a4] st I J Q ↔ At 162 98 [some (.ref r), a1, a2, a3, a4] (.ref r :: st) I J Q := A_aload_n (q := 0) (ab_io ci162 (by decide +kernel)) rfl
theorem k162_98 : At 162 98 ls (.ref 49 :: st) I J Q ↔ At 162 101 ls (.int (I 49 20) :: st) I J Q := A_getI (ab_io ci162 (by decide +kernel)) ow162 fq8_192_49
theorem k162_101 : At 162 101 [a0, a1, a2, some (.int x), a4] st I J Q ↔ At 162 102 [a0, a1, a2, some (.int x), a4] (.int x :: st) I J Q := A_iload_n (q := 3) (ab_io ci162 (by decide +kernel)) rfl
theorem k162_102 : At 162 102 ls st I J Q ↔ At 162 103 ls (.int (nI 3) :: st) I J Q := A_iconst (ab_io ci162 (by decide +kernel)) ic_3
theorem k162_103 : At 162 103 ls (.int x1 :: .int x :: st) I J Q ↔ At 162 104 ls (.int (x + x1) :: st) I J Q := A_iadd (ab_io ci162 (by decide +kernel))
theorem k162_104 : At 162 104 ls (.int x1 :: .int x :: st) I J Q ↔ if x1 ≤ x then At 162 142 ls st I J Q else At 162 107 ls st I J Q := A_if_icmp_ge (o := 38) (ab_io ci162 (by decide +kernel)) (by decide)
theorem k162_107 : At 162 107 [some (.ref r), a1, a2, a3, a4] st I J Q ↔ At 162 108 [some (.ref r), a1, a2, a3, a4] (.ref r :: st) I J Q := A_aload_n (q := 0) (ab_io ci162 (by decide +kernel)) rfl
theorem k162_108 : At 162 108 ls [.ref 49] I J Q ↔ Cal 161 [.ref 49] I J (fun v I' J' => At 162 111 ls (v.toList ++ []) I' J' Q) := A_cal (kd := 0) (j := 204) (na := 1) (ea := 1) (rk := 49) (by decide +kernel) rfl rfl rfl (Or.inr rfl) (Nat.le_of_ble_eq_true rfl)
theorem k162_111 : At 162 111 ls (.int x :: st) I J Q ↔ if x = 0 then At 162 142 ls st I J Q else At 162 114 ls st I J Q := A_ifCond_eq (o := 31) (ab_io ci162 (by decide +kernel)) (by decide)
theorem k162_114 : At 162 114 ls st I J Q ↔ At 162 116 ls (.int (nI 10) :: st) I J Q := A_bipush (ab_io ci162 (by decide +kernel)) bc_10
theorem k162_116 : At 162 116 [a0, a1, a2, a3, some (.int x)] st I J Q ↔ At 162 118 [a0, a1, a2, a3, some (.int x)] (.int x :: st) I J Q := A_iload (q := 4) (ab_io ci162 (by decide +kernel)) rfl
theorem k162_118 : At 162 118 ls (.int x1 :: .int x :: st) I J Q ↔ At 162 119 ls (.int (x * x1) :: st) I J Q := A_imul (ab_io ci162 (by decide +kernel))
theorem k162_119 : At 162 119 [some (.ref r), a1, a2, a3, a4] st I J Q ↔ At 162 120 [some (.ref r), a1, a2, a3, a4] (.ref r :: st) I J Q := A_aload_n (q := 0) (ab_io ci162 (by decide +kernel)) rfl
theorem k162_120 : At 162 120 ls [.ref 49, .int q0] I J Q ↔ Cal 160 [.ref 49] I J (fun v I' J' => At 162 123 ls (v.toList ++ [.int q0]) I' J' Q) := A_cal (kd := 0) (j := 195) (na := 1) (ea := 1) (rk := 49) (by decide +kernel) rfl rfl rfl (Or.inr rfl) (Nat.le_of_ble_eq_true rfl)
theorem k162_123 : At 162 123 ls (.int x1 :: .int x :: st) I J Q ↔ At 162 124 ls (.int (x + x1) :: st) I J Q := A_iadd (ab_io ci162 (by decide +kernel))
theorem k162_124 : At 162 124 ls st I J Q ↔ At 162 126 ls (.int (nI 48) :: st) I J Q := A_bipush (ab_io ci162 (by decide +kernel)) bc_48
theorem k162_126 : At 162 126 ls (.int x1 :: .int x :: st) I J Q ↔ At 162 127 ls (.int (x - x1) :: st) I J Q := A_isub (ab_io ci162 (by decide +kernel))
theorem k162_127 : At 162 127 [a0, a1, a2, a3, a4] (.int x :: st) I J Q ↔ At 162 129 [a0, a1, a2, ab_nv a3, some (.int x)] st I J Q := A_istore (q := 4) (ab_io ci162 (by decide +kernel)) (Nat.le_of_ble_eq_true rfl) rfl
theorem k162_129 : At 162 129 [some (.ref r), a1, a2, a3, a4] st I J Q ↔ At 162 130 [some (.ref r), a1, a2, a3, a4] (.ref r :: st) I J Q := A_aload_n (q := 0) (ab_io ci162 (by decide +kernel)) rfl
theorem k162_130 : At 162 130 ls (.ref r :: st) I J Q ↔ At 162 131 ls (.ref r :: .ref r :: st) I J Q := A_dupA (ab_io ci162 (by decide +kernel))
theorem k162_131 : At 162 131 ls (.ref 49 :: st) I J Q ↔ At 162 134 ls (.int (I 49 20) :: st) I J Q := A_getI (ab_io ci162 (by decide +kernel)) ow162 fq8_192_49
theorem k162_134 : At 162 134 ls st I J Q ↔ At 162 135 ls (.int (nI 1) :: st) I J Q := A_iconst (ab_io ci162 (by decide +kernel)) ic_1
theorem k162_135 : At 162 135 ls (.int x1 :: .int x :: st) I J Q ↔ At 162 136 ls (.int (x + x1) :: st) I J Q := A_iadd (ab_io ci162 (by decide +kernel))
theorem k162_136 : At 162 136 ls (.int x :: .ref 49 :: st) I J Q ↔ At 162 139 ls st (va_up I 49 (va_up (I 49) 20 x)) J Q := A_putI (ab_io ci162 (by decide +kernel)) ow162 fq8_192_49
theorem k162_139 : At 162 139 ls st I J Q ↔ At 162 97 ls st I J Q := A_goto (o := (-42)) (ab_io ci162 (by decide +kernel)) (by decide)
theorem k162_142 : At 162 142 [some (.ref r), a1, a2, a3, a4] st I J Q ↔ At 162 143 [some (.ref r), a1, a2, a3, a4] (.ref r :: st) I J Q := A_aload_n (q := 0) (ab_io ci162 (by decide +kernel)) rfl
theorem k162_143 : At 162 143 ls (.ref 49 :: st) I J Q ↔ At 162 146 ls (.int (I 49 20) :: st) I J Q := A_getI (ab_io ci162 (by decide +kernel)) ow162 fq8_192_49
theorem k162_146 : At 162 146 [a0, a1, a2, some (.int x), a4] st I J Q ↔ At 162 147 [a0, a1, a2, some (.int x), a4] (.int x :: st) I J Q := A_iload_n (q := 3) (ab_io ci162 (by decide +kernel)) rfl
theorem k162_147 : At 162 147 ls (.int x1 :: .int x :: st) I J Q ↔ if ¬ x = x1 then At 162 159 ls st I J Q else At 162 150 ls st I J Q := A_if_icmp_ne (o := 12) (ab_io ci162 (by decide +kernel)) (by decide)
theorem k162_150 : At 162 150 [some (.ref r), a1, a2, a3, a4] st I J Q ↔ At 162 151 [some (.ref r), a1, a2, a3, a4] (.ref r :: st) I J Q := A_aload_n (q := 0) (ab_io ci162 (by decide +kernel)) rfl
theorem k162_151 : At 162 151 [some (.ref r), a1, a2, a3, a4] st I J Q ↔ At 162 152 [some (.ref r), a1, a2, a3, a4] (.ref r :: st) I J Q := A_aload_n (q := 0) (ab_io ci162 (by decide +kernel)) rfl
theorem k162_152 : At 162 152 ls (.ref 49 :: st) I J Q ↔ At 162 155 ls (.int (I 49 20) :: st) I J Q := A_getI (ab_io ci162 (by decide +kernel)) ow162 fq8_192_49
theorem k162_155 : At 162 155 ls (.int x :: .ref 49 :: st) I J Q ↔ At 162 158 ls st (va_up I 49 (va_up (I 49) 21 x)) J Q := A_putI (ab_io ci162 (by decide +kernel)) ow162 fq8_201_49
theorem k162_158 : At 162 158 ls [] I J Q ↔ Q none I J := A_vret (ab_io ci162 (by decide +kernel)) rt162
theorem k162_159 : At 162 159 [a0, a1, a2, a3, some (.int x)] st I J Q ↔ At 162 161 [a0, a1, a2, a3, some (.int x)] (.int x :: st) I J Q := A_iload (q := 4) (ab_io ci162 (by decide +kernel)) rfl
theorem k162_161 : At 162 161 ls st I J Q ↔ At 162 163 ls (.int (nI 10) :: st) I J Q := A_bipush (ab_io ci162 (by decide +kernel)) bc_10
theorem k162_163 : At 162 163 ls (.int x1 :: .int x :: st) I J Q ↔ At 162 164 ls (.int (x * x1) :: st) I J Q := A_imul (ab_io ci162 (by decide +kernel))
theorem k162_164 : At 162 164 [a0, a1, a2, a3, a4] (.int x :: st) I J Q ↔ At 162 166 [a0, a1, a2, ab_nv a3, some (.int x)] st I J Q := A_istore (q := 4) (ab_io ci162 (by decide +kernel)) (Nat.le_of_ble_eq_true rfl) rfl
theorem k162_166 : At 162 166 [some (.ref r), a1, a2, a3, a4] st I J Q ↔ At 162 167 [some (.ref r), a1, a2, a3, a4] (.ref r :: st) I J Q := A_aload_n (q := 0) (ab_io ci162 (by decide +kernel)) rfl
theorem k162_167 : At 162 167 ls [.ref 49] I J Q ↔ Cal 160 [.ref 49] I J (fun v I' J' => At 162 170 ls (v.toList ++ []) I' J' Q) := A_cal (kd := 0) (j := 195) (na := 1) (ea := 1) (rk := 49) (by decide +kernel) rfl rfl rfl (Or.inr rfl) (Nat.le_of_ble_eq_true rfl)
theorem k162_170 : At 162 170 ls st I J Q ↔ At 162 172 ls (.int (nI 46) :: st) I J Q := A_bipush (ab_io ci162 (by decide +kernel)) bc_46
theorem k162_172 : At 162 172 ls (.int x1 :: .int x :: st) I J Q ↔ if ¬ x = x1 then At 162 223 ls st I J Q else At 162 175 ls st I J Q := A_if_icmp_ne (o := 51) (ab_io ci162 (by decide +kernel)) (by decide)
theorem k162_175 : At 162 175 [some (.ref r), a1, a2, a3, a4] st I J Q ↔ At 162 176 [some (.ref r), a1, a2, a3, a4] (.ref r :: st) I J Q := A_aload_n (q := 0) (ab_io ci162 (by decide +kernel)) rfl
theorem k162_176 : At 162 176 ls (.ref r :: st) I J Q ↔ At 162 177 ls (.ref r :: .ref r :: st) I J Q := A_dupA (ab_io ci162 (by decide +kernel))
theorem k162_177 : At 162 177 ls (.ref 49 :: st) I J Q ↔ At 162 180 ls (.int (I 49 20) :: st) I J Q := A_getI (ab_io ci162 (by decide +kernel)) ow162 fq8_192_49
theorem k162_180 : At 162 180 ls st I J Q ↔ At 162 181 ls (.int (nI 1) :: st) I J Q := A_iconst (ab_io ci162 (by decide +kernel)) ic_1
theorem k162_181 : At 162 181 ls (.int x1 :: .int x :: st) I J Q ↔ At 162 182 ls (.int (x + x1) :: st) I J Q := A_iadd (ab_io ci162 (by decide +kernel))
theorem k162_182 : At 162 182 ls (.int x :: .ref 49 :: st) I J Q ↔ At 162 185 ls st (va_up I 49 (va_up (I 49) 20 x)) J Q := A_putI (ab_io ci162 (by decide +kernel)) ow162 fq8_192_49
theorem k162_185 : At 162 185 [some (.ref r), a1, a2, a3, a4] st I J Q ↔ At 162 186 [some (.ref r), a1, a2, a3, a4] (.ref r :: st) I J Q := A_aload_n (q := 0) (ab_io ci162 (by decide +kernel)) rfl
theorem k162_186 : At 162 186 ls [.ref 49] I J Q ↔ Cal 161 [.ref 49] I J (fun v I' J' => At 162 189 ls (v.toList ++ []) I' J' Q) := A_cal (kd := 0) (j := 204) (na := 1) (ea := 1) (rk := 49) (by decide +kernel) rfl rfl rfl (Or.inr rfl) (Nat.le_of_ble_eq_true rfl)
theorem k162_189 : At 162 189 ls (.int x :: st) I J Q ↔ if ¬ x = 0 then At 162 201 ls st I J Q else At 162 192 ls st I J Q := A_ifCond_ne (o := 12) (ab_io ci162 (by decide +kernel)) (by decide)
theorem k162_192 : At 162 192 [some (.ref r), a1, a2, a3, a4] st I J Q ↔ At 162 193 [some (.ref r), a1, a2, a3, a4] (.ref r :: st) I J Q := A_aload_n (q := 0) (ab_io ci162 (by decide +kernel)) rfl
theorem k162_193 : At 162 193 [some (.ref r), a1, a2, a3, a4] st I J Q ↔ At 162 194 [some (.ref r), a1, a2, a3, a4] (.ref r :: st) I J Q := A_aload_n (q := 0) (ab_io ci162 (by decide +kernel)) rfl
theorem k162_194 : At 162 194 ls (.ref 49 :: st) I J Q ↔ At 162 197 ls (.int (I 49 20) :: st) I J Q := A_getI (ab_io ci162 (by decide +kernel)) ow162 fq8_192_49
theorem k162_197 : At 162 197 ls (.int x :: .ref 49 :: st) I J Q ↔ At 162 200 ls st (va_up I 49 (va_up (I 49) 21 x)) J Q := A_putI (ab_io ci162 (by decide +kernel)) ow162 fq8_201_49
theorem k162_200 : At 162 200 ls [] I J Q ↔ Q none I J := A_vret (ab_io ci162 (by decide +kernel)) rt162
theorem k162_201 : At 162 201 [a0, a1, a2, a3, some (.int x)] st I J Q ↔ At 162 203 [a0, a1, a2, a3, some (.int x)] (.int x :: st) I J Q := A_iload (q := 4) (ab_io ci162 (by decide +kernel)) rfl
theorem k162_203 : At 162 203 [some (.ref r), a1, a2, a3, a4] st I J Q ↔ At 162 204 [some (.ref r), a1, a2, a3, a4] (.ref r :: st) I J Q := A_aload_n (q := 0) (ab_io ci162 (by decide +kernel)) rfl
theorem k162_204 : At 162 204 ls [.ref 49, .int q0] I J Q ↔ Cal 160 [.ref 49] I J (fun v I' J' => At 162 207 ls (v.toList ++ [.int q0]) I' J' Q) := A_cal (kd := 0) (j := 195) (na := 1) (ea := 1) (rk := 49) (by decide +kernel) rfl rfl rfl (Or.inr rfl) (Nat.le_of_ble_eq_true rfl)
theorem k162_207 : At 162 207 ls st I J Q ↔ At 162 209 ls (.int (nI 48) :: st) I J Q := A_bipush (ab_io ci162 (by decide +kernel)) bc_48
theorem k162_209 : At 162 209 ls (.int x1 :: .int x :: st) I J Q ↔ At 162 210 ls (.int (x - x1) :: st) I J Q := A_isub (ab_io ci162 (by decide +kernel))
theorem k162_210 : At 162 210 ls (.int x1 :: .int x :: st) I J Q ↔ At 162 211 ls (.int (x + x1) :: st) I J Q := A_iadd (ab_io ci162 (by decide +kernel))
theorem k162_211 : At 162 211 [a0, a1, a2, a3, a4] (.int x :: st) I J Q ↔ At 162 213 [a0, a1, a2, ab_nv a3, some (.int x)] st I J Q := A_istore (q := 4) (ab_io ci162 (by decide +kernel)) (Nat.le_of_ble_eq_true rfl) rfl
theorem k162_213 : At 162 213 [some (.ref r), a1, a2, a3, a4] st I J Q ↔ At 162 214 [some (.ref r), a1, a2, a3, a4] (.ref r :: st) I J Q := A_aload_n (q := 0) (ab_io ci162 (by decide +kernel)) rfl
theorem k162_214 : At 162 214 ls (.ref r :: st) I J Q ↔ At 162 215 ls (.ref r :: .ref r :: st) I J Q := A_dupA (ab_io ci162 (by decide +kernel))
theorem k162_215 : At 162 215 ls (.ref 49 :: st) I J Q ↔ At 162 218 ls (.int (I 49 20) :: st) I J Q := A_getI (ab_io ci162 (by decide +kernel)) ow162 fq8_192_49
theorem k162_218 : At 162 218 ls st I J Q ↔ At 162 219 ls (.int (nI 1) :: st) I J Q := A_iconst (ab_io ci162 (by decide +kernel)) ic_1
theorem k162_219 : At 162 219 ls (.int x1 :: .int x :: st) I J Q ↔ At 162 220 ls (.int (x + x1) :: st) I J Q := A_iadd (ab_io ci162 (by decide +kernel))
theorem k162_220 : At 162 220 ls (.int x :: .ref 49 :: st) I J Q ↔ At 162 223 ls st (va_up I 49 (va_up (I 49) 20 x)) J Q := A_putI (ab_io ci162 (by decide +kernel)) ow162 fq8_192_49
theorem k162_223 : At 162 223 [a0, a1, a2, a3, some (.int x)] st I J Q ↔ At 162 225 [a0, a1, a2, a3, some (.int x)] (.int x :: st) I J Q := A_iload (q := 4) (ab_io ci162 (by decide +kernel)) rfl
theorem k162_225 : At 162 225 ls st I J Q ↔ At 162 228 ls (.int (nI 1000) :: st) I J Q := A_sipush (ab_io ci162 (by decide +kernel)) sc_1000
theorem k162_228 : At 162 228 ls (.int x1 :: .int x :: st) I J Q ↔ if x1 < x then At 162 254 ls st I J Q else At 162 231 ls st I J Q := A_if_icmp_gt (o := 26) (ab_io ci162 (by decide +kernel)) (by decide)
theorem k162_231 : At 162 231 [some (.ref r), a1, a2, a3, a4] st I J Q ↔ At 162 232 [some (.ref r), a1, a2, a3, a4] (.ref r :: st) I J Q := A_aload_n (q := 0) (ab_io ci162 (by decide +kernel)) rfl
theorem k162_232 : At 162 232 ls (.ref 49 :: st) I J Q ↔ At 162 235 ls (.int (I 49 22) :: st) I J Q := A_getI (ab_io ci162 (by decide +kernel)) ow162 fq8_198_49
theorem k162_235 : At 162 235 ls (.int x :: st) I J Q ↔ if x ≤ 0 then At 162 260 ls st I J Q else At 162 238 ls st I J Q := A_ifCond_le (o := 25) (ab_io ci162 (by decide +kernel)) (by decide)
theorem k162_238 : At 162 238 [a0, a1, a2, a3, some (.int x)] st I J Q ↔ At 162 240 [a0, a1, a2, a3, some (.int x)] (.int x :: st) I J Q := A_iload (q := 4) (ab_io ci162 (by decide +kernel)) rfl
theorem k162_240 : At 162 240 [some (.ref r), a1, a2, a3, a4] st I J Q ↔ At 162 241 [some (.ref r), a1, a2, a3, a4] (.ref r :: st) I J Q := A_aload_n (q := 0) (ab_io ci162 (by decide +kernel)) rfl
theorem k162_241 : At 162 241 ls (.ref 49 :: st) I J Q ↔ At 162 244 ls (.ref 66 :: st) I J Q := A_getR (ab_io ci162 (by decide +kernel)) ow162 fq8_63_49
theorem k162_244 : At 162 244 [some (.ref r), a1, a2, a3, a4] st I J Q ↔ At 162 245 [some (.ref r), a1, a2, a3, a4] (.ref r :: st) I J Q := A_aload_n (q := 0) (ab_io ci162 (by decide +kernel)) rfl
theorem k162_245 : At 162 245 ls (.ref 49 :: st) I J Q ↔ At 162 248 ls (.int (I 49 22) :: st) I J Q := A_getI (ab_io ci162 (by decide +kernel)) ow162 fq8_198_49
theorem k162_248 : At 162 248 ls st I J Q ↔ At 162 249 ls (.int (nI 1) :: st) I J Q := A_iconst (ab_io ci162 (by decide +kernel)) ic_1
theorem k162_249 : At 162 249 ls (.int x1 :: .int x :: st) I J Q ↔ At 162 250 ls (.int (x - x1) :: st) I J Q := A_isub (ab_io ci162 (by decide +kernel))
theorem k162_250 : At 162 250 ls (.int x :: .ref r :: st) I J Q ↔ ((ab_ly r).1 = 1 ∧ r < 75 ∧ 0 ≤ x.toInt ∧ x.toInt < (ab_ly r).2) ∧ At 162 251 ls (.int (I r x.toNatClampNeg) :: st) I J Q := A_iaload (ab_io ci162 (by decide +kernel))
theorem k162_251 : At 162 251 ls (.int x1 :: .int x :: st) I J Q ↔ if x < x1 then At 162 260 ls st I J Q else At 162 254 ls st I J Q := A_if_icmp_lt (o := 9) (ab_io ci162 (by decide +kernel)) (by decide)
theorem k162_254 : At 162 254 [some (.ref r), a1, a2, a3, a4] st I J Q ↔ At 162 255 [some (.ref r), a1, a2, a3, a4] (.ref r :: st) I J Q := A_aload_n (q := 0) (ab_io ci162 (by decide +kernel)) rfl
theorem k162_255 : At 162 255 [a0, a1, a2, some (.int x), a4] st I J Q ↔ At 162 256 [a0, a1, a2, some (.int x), a4] (.int x :: st) I J Q := A_iload_n (q := 3) (ab_io ci162 (by decide +kernel)) rfl
theorem k162_256 : At 162 256 ls (.int x :: .ref 49 :: st) I J Q ↔ At 162 259 ls st (va_up I 49 (va_up (I 49) 21 x)) J Q := A_putI (ab_io ci162 (by decide +kernel)) ow162 fq8_201_49
theorem k162_259 : At 162 259 ls [] I J Q ↔ Q none I J := A_vret (ab_io ci162 (by decide +kernel)) rt162
theorem k162_260 : At 162 260 [some (.ref r), a1, a2, a3, a4] st I J Q ↔ At 162 261 [some (.ref r), a1, a2, a3, a4] (.ref r :: st) I J Q := A_aload_n (q := 0) (ab_io ci162 (by decide +kernel)) rfl
theorem k162_261 : At 162 261 ls (.ref 49 :: st) I J Q ↔ At 162 264 ls (.ref 65 :: st) I J Q := A_getR (ab_io ci162 (by decide +kernel)) ow162 fq8_60_49
theorem k162_264 : At 162 264 [some (.ref r), a1, a2, a3, a4] st I J Q ↔ At 162 265 [some (.ref r), a1, a2, a3, a4] (.ref r :: st) I J Q := A_aload_n (q := 0) (ab_io ci162 (by decide +kernel)) rfl
theorem k162_265 : At 162 265 ls (.ref 49 :: st) I J Q ↔ At 162 268 ls (.int (I 49 22) :: st) I J Q := A_getI (ab_io ci162 (by decide +kernel)) ow162 fq8_198_49
theorem k162_268 : At 162 268 [a0, a1, some (.int x), a3, a4] st I J Q ↔ At 162 269 [a0, a1, some (.int x), a3, a4] (.int x :: st) I J Q := A_iload_n (q := 2) (ab_io ci162 (by decide +kernel)) rfl
theorem k162_269 : At 162 269 ls (.int x1 :: .int x :: .ref r :: st) I J Q ↔ ((ab_ly r).1 = 1 ∧ r < 75 ∧ 0 ≤ x.toInt ∧ x.toInt < (ab_ly r).2) ∧ At 162 270 ls st (va_up I r (va_up (I r) x.toNatClampNeg x1)) J Q := A_iastore (ab_io ci162 (by decide +kernel))
theorem k162_270 : At 162 270 [some (.ref r), a1, a2, a3, a4] st I J Q ↔ At 162 271 [some (.ref r), a1, a2, a3, a4] (.ref r :: st) I J Q := A_aload_n (q := 0) (ab_io ci162 (by decide +kernel)) rfl
theorem k162_271 : At 162 271 ls (.ref 49 :: st) I J Q ↔ At 162 274 ls (.ref 66 :: st) I J Q := A_getR (ab_io ci162 (by decide +kernel)) ow162 fq8_63_49
theorem k162_274 : At 162 274 [some (.ref r), a1, a2, a3, a4] st I J Q ↔ At 162 275 [some (.ref r), a1, a2, a3, a4] (.ref r :: st) I J Q := A_aload_n (q := 0) (ab_io ci162 (by decide +kernel)) rfl
theorem k162_275 : At 162 275 ls (.ref 49 :: st) I J Q ↔ At 162 278 ls (.int (I 49 22) :: st) I J Q := A_getI (ab_io ci162 (by decide +kernel)) ow162 fq8_198_49
theorem k162_278 : At 162 278 [a0, a1, a2, a3, some (.int x)] st I J Q ↔ At 162 280 [a0, a1, a2, a3, some (.int x)] (.int x :: st) I J Q := A_iload (q := 4) (ab_io ci162 (by decide +kernel)) rfl
theorem k162_280 : At 162 280 ls (.int x1 :: .int x :: .ref r :: st) I J Q ↔ ((ab_ly r).1 = 1 ∧ r < 75 ∧ 0 ≤ x.toInt ∧ x.toInt < (ab_ly r).2) ∧ At 162 281 ls st (va_up I r (va_up (I r) x.toNatClampNeg x1)) J Q := A_iastore (ab_io ci162 (by decide +kernel))
theorem k162_281 : At 162 281 [some (.ref r), a1, a2, a3, a4] st I J Q ↔ At 162 282 [some (.ref r), a1, a2, a3, a4] (.ref r :: st) I J Q := A_aload_n (q := 0) (ab_io ci162 (by decide +kernel)) rfl
theorem k162_282 : At 162 282 ls (.ref r :: st) I J Q ↔ At 162 283 ls (.ref r :: .ref r :: st) I J Q := A_dupA (ab_io ci162 (by decide +kernel))
theorem k162_283 : At 162 283 ls (.ref 49 :: st) I J Q ↔ At 162 286 ls (.int (I 49 22) :: st) I J Q := A_getI (ab_io ci162 (by decide +kernel)) ow162 fq8_198_49
theorem k162_286 : At 162 286 ls st I J Q ↔ At 162 287 ls (.int (nI 1) :: st) I J Q := A_iconst (ab_io ci162 (by decide +kernel)) ic_1
theorem k162_287 : At 162 287 ls (.int x1 :: .int x :: st) I J Q ↔ At 162 288 ls (.int (x + x1) :: st) I J Q := A_iadd (ab_io ci162 (by decide +kernel))
theorem k162_288 : At 162 288 ls (.int x :: .ref 49 :: st) I J Q ↔ At 162 291 ls st (va_up I 49 (va_up (I 49) 22 x)) J Q := A_putI (ab_io ci162 (by decide +kernel)) ow162 fq8_198_49
theorem k162_291 : At 162 291 ls [] I J Q ↔ Q none I J := A_vret (ab_io ci162 (by decide +kernel)) rt162
theorem k163_0 : At 163 0 [some (.ref r)] st I J Q ↔ At 163 1 [some (.ref r)] (.ref r :: st) I J Q := A_aload_n (q := 0) (ab_io ci163 (by decide +kernel)) rfl
theorem k163_1 : At 163 1 ls st I J Q ↔ At 163 2 ls (.int (nI 0) :: st) I J Q := A_iconst (ab_io ci163 (by decide +kernel)) ic_0
theorem k163_2 : At 163 2 ls (.int x :: .ref 49 :: st) I J Q ↔ At 163 5 ls st (va_up I 49 (va_up (I 49) 20 x)) J Q := A_putI (ab_io ci163 (by decide +kernel)) ow163 fq8_192_49
theorem k163_5 : At 163 5 [some (.ref r)] st I J Q ↔ At 163 6 [some (.ref r)] (.ref r :: st) I J Q := A_aload_n (q := 0) (ab_io ci163 (by decide +kernel)) rfl
theorem k163_6 : At 163 6 ls st I J Q ↔ At 163 7 ls (.int (-1) :: st) I J Q := A_iconst (ab_io ci163 (by decide +kernel)) ic_m1
theorem k163_7 : At 163 7 ls (.int x :: .ref 49 :: st) I J Q ↔ At 163 10 ls st (va_up I 49 (va_up (I 49) 21 x)) J Q := A_putI (ab_io ci163 (by decide +kernel)) ow163 fq8_201_49
theorem k163_10 : At 163 10 [some (.ref r)] st I J Q ↔ At 163 11 [some (.ref r)] (.ref r :: st) I J Q := A_aload_n (q := 0) (ab_io ci163 (by decide +kernel)) rfl
theorem k163_11 : At 163 11 ls st I J Q ↔ At 163 12 ls (.int (nI 0) :: st) I J Q := A_iconst (ab_io ci163 (by decide +kernel)) ic_0
theorem k163_12 : At 163 12 ls (.int x :: .ref 49 :: st) I J Q ↔ At 163 15 ls st (va_up I 49 (va_up (I 49) 22 x)) J Q := A_putI (ab_io ci163 (by decide +kernel)) ow163 fq8_198_49
theorem k163_15 : At 163 15 [some (.ref r)] st I J Q ↔ At 163 16 [some (.ref r)] (.ref r :: st) I J Q := A_aload_n (q := 0) (ab_io ci163 (by decide +kernel)) rfl
theorem k163_16 : At 163 16 ls [.ref 49] I J Q ↔ Cal 162 [.ref 49] I J (fun v I' J' => At 163 19 ls (v.toList ++ []) I' J' Q) := A_cal (kd := 0) (j := 208) (na := 1) (ea := 1) (rk := 49) (by decide +kernel) rfl rfl rfl (Or.inr rfl) (Nat.le_of_ble_eq_true rfl)
theorem k163_19 : At 163 19 [some (.ref r)] st I J Q ↔ At 163 20 [some (.ref r)] (.ref r :: st) I J Q := A_aload_n (q := 0) (ab_io ci163 (by decide +kernel)) rfl
theorem k163_20 : At 163 20 ls (.ref 49 :: st) I J Q ↔ At 163 23 ls (.int (I 49 21) :: st) I J Q := A_getI (ab_io ci163 (by decide +kernel)) ow163 fq8_201_49
theorem k163_23 : At 163 23 ls st I J Q ↔ At 163 24 ls (.int (-1) :: st) I J Q := A_iconst (ab_io ci163 (by decide +kernel)) ic_m1
theorem k163_24 : At 163 24 ls (.int x1 :: .int x :: st) I J Q ↔ if ¬ x = x1 then At 163 77 ls st I J Q else At 163 27 ls st I J Q := A_if_icmp_ne (o := 53) (ab_io ci163 (by decide +kernel)) (by decide)
theorem k163_27 : At 163 27 [some (.ref r)] st I J Q ↔ At 163 28 [some (.ref r)] (.ref r :: st) I J Q := A_aload_n (q := 0) (ab_io ci163 (by decide +kernel)) rfl
theorem k163_28 : At 163 28 ls (.ref 49 :: st) I J Q ↔ At 163 31 ls (.int (I 49 20) :: st) I J Q := A_getI (ab_io ci163 (by decide +kernel)) ow163 fq8_192_49
theorem k163_31 : At 163 31 [some (.ref r)] st I J Q ↔ At 163 32 [some (.ref r)] (.ref r :: st) I J Q := A_aload_n (q := 0) (ab_io ci163 (by decide +kernel)) rfl
theorem k163_32 : At 163 32 ls (.ref 49 :: st) I J Q ↔ At 163 35 ls (.int (I 49 18) :: st) I J Q := A_getI (ab_io ci163 (by decide +kernel)) ow163 fq8_189_49
theorem k163_35 : At 163 35 ls (.int x1 :: .int x :: st) I J Q ↔ if x1 ≤ x then At 163 77 ls st I J Q else At 163 38 ls st I J Q := A_if_icmp_ge (o := 42) (ab_io ci163 (by decide +kernel)) (by decide)
theorem k163_38 : At 163 38 [some (.ref r)] st I J Q ↔ At 163 39 [some (.ref r)] (.ref r :: st) I J Q := A_aload_n (q := 0) (ab_io ci163 (by decide +kernel)) rfl
theorem k163_39 : At 163 39 ls [.ref 49] I J Q ↔ Cal 160 [.ref 49] I J (fun v I' J' => At 163 42 ls (v.toList ++ []) I' J' Q) := A_cal (kd := 0) (j := 195) (na := 1) (ea := 1) (rk := 49) (by decide +kernel) rfl rfl rfl (Or.inr rfl) (Nat.le_of_ble_eq_true rfl)
theorem k163_42 : At 163 42 ls st I J Q ↔ At 163 44 ls (.int (nI 59) :: st) I J Q := A_bipush (ab_io ci163 (by decide +kernel)) bc_59
theorem k163_44 : At 163 44 ls (.int x1 :: .int x :: st) I J Q ↔ if x = x1 then At 163 60 ls st I J Q else At 163 47 ls st I J Q := A_if_icmp_eq (o := 16) (ab_io ci163 (by decide +kernel)) (by decide)
theorem k163_47 : At 163 47 [some (.ref r)] st I J Q ↔ At 163 48 [some (.ref r)] (.ref r :: st) I J Q := A_aload_n (q := 0) (ab_io ci163 (by decide +kernel)) rfl
theorem k163_48 : At 163 48 [some (.ref r)] st I J Q ↔ At 163 49 [some (.ref r)] (.ref r :: st) I J Q := A_aload_n (q := 0) (ab_io ci163 (by decide +kernel)) rfl
theorem k163_49 : At 163 49 ls (.ref 49 :: st) I J Q ↔ At 163 52 ls (.int (I 49 20) :: st) I J Q := A_getI (ab_io ci163 (by decide +kernel)) ow163 fq8_192_49
theorem k163_52 : At 163 52 ls (.int x :: .ref 49 :: st) I J Q ↔ At 163 55 ls st (va_up I 49 (va_up (I 49) 21 x)) J Q := A_putI (ab_io ci163 (by decide +kernel)) ow163 fq8_201_49
theorem k163_55 : At 163 55 [some (.ref r)] st I J Q ↔ At 163 56 [some (.ref r)] (.ref r :: st) I J Q := A_aload_n (q := 0) (ab_io ci163 (by decide +kernel)) rfl
theorem k163_56 : At 163 56 ls (.ref 49 :: st) I J Q ↔ At 163 59 ls (.int (I 49 20) :: st) I J Q := A_getI (ab_io ci163 (by decide +kernel)) ow163 fq8_192_49
theorem k163_59 : At 163 59 ls [.int x] I J Q ↔ Q (some (.int x)) I J := A_iret (ab_io ci163 (by decide +kernel)) rt163
theorem k163_60 : At 163 60 [some (.ref r)] st I J Q ↔ At 163 61 [some (.ref r)] (.ref r :: st) I J Q := A_aload_n (q := 0) (ab_io ci163 (by decide +kernel)) rfl
theorem k163_61 : At 163 61 ls (.ref r :: st) I J Q ↔ At 163 62 ls (.ref r :: .ref r :: st) I J Q := A_dupA (ab_io ci163 (by decide +kernel))
theorem k163_62 : At 163 62 ls (.ref 49 :: st) I J Q ↔ At 163 65 ls (.int (I 49 20) :: st) I J Q := A_getI (ab_io ci163 (by decide +kernel)) ow163 fq8_192_49
theorem k163_65 : At 163 65 ls st I J Q ↔ At 163 66 ls (.int (nI 1) :: st) I J Q := A_iconst (ab_io ci163 (by decide +kernel)) ic_1
theorem k163_66 : At 163 66 ls (.int x1 :: .int x :: st) I J Q ↔ At 163 67 ls (.int (x + x1) :: st) I J Q := A_iadd (ab_io ci163 (by decide +kernel))
theorem k163_67 : At 163 67 ls (.int x :: .ref 49 :: st) I J Q ↔ At 163 70 ls st (va_up I 49 (va_up (I 49) 20 x)) J Q := A_putI (ab_io ci163 (by decide +kernel)) ow163 fq8_192_49
theorem k163_70 : At 163 70 [some (.ref r)] st I J Q ↔ At 163 71 [some (.ref r)] (.ref r :: st) I J Q := A_aload_n (q := 0) (ab_io ci163 (by decide +kernel)) rfl
theorem k163_71 : At 163 71 ls [.ref 49] I J Q ↔ Cal 162 [.ref 49] I J (fun v I' J' => At 163 74 ls (v.toList ++ []) I' J' Q) := A_cal (kd := 0) (j := 208) (na := 1) (ea := 1) (rk := 49) (by decide +kernel) rfl rfl rfl (Or.inr rfl) (Nat.le_of_ble_eq_true rfl)
theorem k163_74 : At 163 74 ls st I J Q ↔ At 163 19 ls st I J Q := A_goto (o := (-55)) (ab_io ci163 (by decide +kernel)) (by decide)
theorem k163_77 : At 163 77 [some (.ref r)] st I J Q ↔ At 163 78 [some (.ref r)] (.ref r :: st) I J Q := A_aload_n (q := 0) (ab_io ci163 (by decide +kernel)) rfl
theorem k163_78 : At 163 78 ls (.ref 49 :: st) I J Q ↔ At 163 81 ls (.int (I 49 21) :: st) I J Q := A_getI (ab_io ci163 (by decide +kernel)) ow163 fq8_201_49
theorem k163_81 : At 163 81 ls [.int x] I J Q ↔ Q (some (.int x)) I J := A_iret (ab_io ci163 (by decide +kernel)) rt163
theorem k164_0 : At 164 0 [some (.ref r)] st I J Q ↔ At 164 1 [some (.ref r)] (.ref r :: st) I J Q := A_aload_n (q := 0) (ab_io ci164 (by decide +kernel)) rfl
theorem k164_1 : At 164 1 ls [.ref 49] I J Q ↔ Cal 163 [.ref 49] I J (fun v I' J' => At 164 4 ls (v.toList ++ []) I' J' Q) := A_cal (kd := 0) (j := 211) (na := 1) (ea := 1) (rk := 49) (by decide +kernel) rfl rfl rfl (Or.inr rfl) (Nat.le_of_ble_eq_true rfl)
theorem k164_4 : At 164 4 ls [.int x] I J Q ↔ Q (some (.int x)) I J := A_iret (ab_io ci164 (by decide +kernel)) rt164
theorem k165_0 : At 165 0 ls st I J Q ↔ At 165 1 ls (.int (nI 0) :: st) I J Q := A_iconst (ab_io ci165 (by decide +kernel)) ic_0
theorem k165_1 : At 165 1 [a0, a1, a2, a3, a4, a5, a6] (.int x :: st) I J Q ↔ At 165 3 [a0, a1, a2, a3, a4, ab_nv a5, some (.int x)] st I J Q := A_istore (q := 6) (ab_io ci165 (by decide +kernel)) (Nat.le_of_ble_eq_true rfl) rfl
theorem k165_3 : At 165 3 [a0, a1, a2, a3, a4, a5, some (.int x)] st I J Q ↔ At 165 5 [a0, a1, a2, a3, a4, a5, some (.int x)] (.int x :: st) I J Q := A_iload (q := 6) (ab_io ci165 (by decide +kernel)) rfl
theorem k165_5 : At 165 5 [some (.ref r), a1, a2, a3, a4, a5, a6] st I J Q ↔ At 165 6 [some (.ref r), a1, a2, a3, a4, a5, a6] (.ref r :: st) I J Q := A_aload_n (q := 0) (ab_io ci165 (by decide +kernel)) rfl
theorem k165_6 : At 165 6 ls (.ref 49 :: st) I J Q ↔ At 165 9 ls (.int (I 49 22) :: st) I J Q := A_getI (ab_io ci165 (by decide +kernel)) ow165 fq8_198_49
theorem k165_9 : At 165 9 ls (.int x1 :: .int x :: st) I J Q ↔ if x1 ≤ x then At 165 51 ls st I J Q else At 165 12 ls st I J Q := A_if_icmp_ge (o := 42) (ab_io ci165 (by decide +kernel)) (by decide)
theorem k165_12 : At 165 12 ls st I J Q ↔ At 165 15 ls (.long 10 :: st) I J Q := A_ldc2_w (j := 214) (q := 1123) (ab_io ci165 (by decide +kernel)) ow165 (by decide +kernel)
theorem k165_15 : At 165 15 [a0, some (.long u), a2, a3, a4, a5, a6] st I J Q ↔ At 165 16 [a0, some (.long u), a2, a3, a4, a5, a6] (.long u :: st) I J Q := A_lload_n (q := 1) (ab_io ci165 (by decide +kernel)) rfl
theorem k165_16 : At 165 16 ls (.long u1 :: .long u :: st) I J Q ↔ At 165 17 ls (.long (u * u1) :: st) I J Q := A_lmul (ab_io ci165 (by decide +kernel))
theorem k165_17 : At 165 17 [a0, a1, a2, a3, a4, some (.int x), a6] st I J Q ↔ At 165 19 [a0, a1, a2, a3, a4, some (.int x), a6] (.int x :: st) I J Q := A_iload (q := 5) (ab_io ci165 (by decide +kernel)) rfl
theorem k165_19 : At 165 19 ls (.int x :: st) I J Q ↔ At 165 20 ls (.long x.toInt64 :: st) I J Q := A_i2l (ab_io ci165 (by decide +kernel))
theorem k165_20 : At 165 20 [a0, a1, a2, some (.long u), a4, a5, a6] st I J Q ↔ At 165 21 [a0, a1, a2, some (.long u), a4, a5, a6] (.long u :: st) I J Q := A_lload_n (q := 3) (ab_io ci165 (by decide +kernel)) rfl
theorem k165_21 : At 165 21 ls (.long u1 :: .long u :: st) I J Q ↔ At 165 22 ls (.long (u * u1) :: st) I J Q := A_lmul (ab_io ci165 (by decide +kernel))
theorem k165_22 : At 165 22 ls (.long u1 :: .long u :: st) I J Q ↔ At 165 23 ls (.long (u + u1) :: st) I J Q := A_ladd (ab_io ci165 (by decide +kernel))
theorem k165_23 : At 165 23 [some (.ref r), a1, a2, a3, a4, a5, a6] st I J Q ↔ At 165 24 [some (.ref r), a1, a2, a3, a4, a5, a6] (.ref r :: st) I J Q := A_aload_n (q := 0) (ab_io ci165 (by decide +kernel)) rfl
theorem k165_24 : At 165 24 ls (.ref 49 :: st) I J Q ↔ At 165 27 ls (.ref 66 :: st) I J Q := A_getR (ab_io ci165 (by decide +kernel)) ow165 fq8_63_49
theorem k165_27 : At 165 27 [a0, a1, a2, a3, a4, a5, some (.int x)] st I J Q ↔ At 165 29 [a0, a1, a2, a3, a4, a5, some (.int x)] (.int x :: st) I J Q := A_iload (q := 6) (ab_io ci165 (by decide +kernel)) rfl
theorem k165_29 : At 165 29 ls (.int x :: .ref r :: st) I J Q ↔ ((ab_ly r).1 = 1 ∧ r < 75 ∧ 0 ≤ x.toInt ∧ x.toInt < (ab_ly r).2) ∧ At 165 30 ls (.int (I r x.toNatClampNeg) :: st) I J Q := A_iaload (ab_io ci165 (by decide +kernel))
theorem k165_30 : At 165 30 ls (.int x :: st) I J Q ↔ At 165 31 ls (.long x.toInt64 :: st) I J Q := A_i2l (ab_io ci165 (by decide +kernel))
theorem k165_31 : At 165 31 [a0, a1, a2, some (.long u), a4, a5, a6] st I J Q ↔ At 165 32 [a0, a1, a2, some (.long u), a4, a5, a6] (.long u :: st) I J Q := A_lload_n (q := 3) (ab_io ci165 (by decide +kernel)) rfl
theorem k165_32 : At 165 32 ls (.long u1 :: .long u :: st) I J Q ↔ At 165 33 ls (.long (u * u1) :: st) I J Q := A_lmul (ab_io ci165 (by decide +kernel))
theorem k165_33 : At 165 33 ls (.long u1 :: .long u :: st) I J Q ↔ At 165 34 ls (.int (lg_cmp u u1) :: st) I J Q := A_lcmp (ab_io ci165 (by decide +kernel))
theorem k165_34 : At 165 34 ls (.int x :: st) I J Q ↔ if x < 0 then At 165 45 ls st I J Q else At 165 37 ls st I J Q := A_ifCond_lt (o := 11) (ab_io ci165 (by decide +kernel)) (by decide)
theorem k165_37 : At 165 37 [some (.ref r), a1, a2, a3, a4, a5, a6] st I J Q ↔ At 165 38 [some (.ref r), a1, a2, a3, a4, a5, a6] (.ref r :: st) I J Q := A_aload_n (q := 0) (ab_io ci165 (by decide +kernel)) rfl
theorem k165_38 : At 165 38 ls (.ref 49 :: st) I J Q ↔ At 165 41 ls (.ref 65 :: st) I J Q := A_getR (ab_io ci165 (by decide +kernel)) ow165 fq8_60_49
theorem k165_41 : At 165 41 [a0, a1, a2, a3, a4, a5, some (.int x)] st I J Q ↔ At 165 43 [a0, a1, a2, a3, a4, a5, some (.int x)] (.int x :: st) I J Q := A_iload (q := 6) (ab_io ci165 (by decide +kernel)) rfl
theorem k165_43 : At 165 43 ls (.int x :: .ref r :: st) I J Q ↔ ((ab_ly r).1 = 1 ∧ r < 75 ∧ 0 ≤ x.toInt ∧ x.toInt < (ab_ly r).2) ∧ At 165 44 ls (.int (I r x.toNatClampNeg) :: st) I J Q := A_iaload (ab_io ci165 (by decide +kernel))
theorem k165_44 : At 165 44 ls [.int x] I J Q ↔ Q (some (.int x)) I J := A_iret (ab_io ci165 (by decide +kernel)) rt165
theorem k165_45 : At 165 45 [a0, a1, a2, a3, a4, a5, some (.int x)] st I J Q ↔ At 165 48 [a0, a1, a2, a3, a4, ab_nv a5, some (.int (x + (nI 1)))] st I J Q := A_iinc (q := 6) (ab_io ci165 (by decide +kernel)) ic_1 (Nat.le_of_ble_eq_true rfl) rfl rfl
theorem k165_48 : At 165 48 ls st I J Q ↔ At 165 3 ls st I J Q := A_goto (o := (-45)) (ab_io ci165 (by decide +kernel)) (by decide)
theorem k165_51 : At 165 51 ls st I J Q ↔ At 165 53 ls (.int (nI 6) :: st) I J Q := A_bipush (ab_io ci165 (by decide +kernel)) bc_6
theorem k165_53 : At 165 53 ls [.int x] I J Q ↔ Q (some (.int x)) I J := A_iret (ab_io ci165 (by decide +kernel)) rt165
theorem k166_0 : At 166 0 [some (.ref r), a1] st I J Q ↔ At 166 1 [some (.ref r), a1] (.ref r :: st) I J Q := A_aload_n (q := 0) (ab_io ci166 (by decide +kernel)) rfl
theorem k166_1 : At 166 1 [some (.ref r), a1] st I J Q ↔ At 166 2 [some (.ref r), a1] (.ref r :: st) I J Q := A_aload_n (q := 0) (ab_io ci166 (by decide +kernel)) rfl
theorem k166_2 : At 166 2 [a0, some (.int x)] st I J Q ↔ At 166 3 [a0, some (.int x)] (.int x :: st) I J Q := A_iload_n (q := 1) (ab_io ci166 (by decide +kernel)) rfl
theorem k166_3 : At 166 3 ls [.int p0, .ref 49, .ref qr0] I J Q ↔ Cal 147 [.ref 49, .int p0] I J (fun v I' J' => At 166 6 ls (v.toList ++ [.ref qr0]) I' J' Q) := A_cal (kd := 0) (j := 153) (na := 2) (ea := 2) (rk := 49) (by decide +kernel) rfl rfl rfl (Or.inr rfl) (Nat.le_of_ble_eq_true rfl)
theorem k166_6 : At 166 6 ls (.int x :: st) I J Q ↔ At 166 7 ls (.long x.toInt64 :: st) I J Q := A_i2l (ab_io ci166 (by decide +kernel))
theorem k166_7 : At 166 7 [some (.ref r), a1] st I J Q ↔ At 166 8 [some (.ref r), a1] (.ref r :: st) I J Q := A_aload_n (q := 0) (ab_io ci166 (by decide +kernel)) rfl
theorem k166_8 : At 166 8 [a0, some (.int x)] st I J Q ↔ At 166 9 [a0, some (.int x)] (.int x :: st) I J Q := A_iload_n (q := 1) (ab_io ci166 (by decide +kernel)) rfl
theorem k166_9 : At 166 9 ls [.int p0, .ref 49, .long qu0, .ref qr1] I J Q ↔ Cal 143 [.ref 49, .int p0] I J (fun v I' J' => At 166 12 ls (v.toList ++ [.long qu0, .ref qr1]) I' J' Q) := A_cal (kd := 0) (j := 140) (na := 2) (ea := 2) (rk := 49) (by decide +kernel) rfl rfl rfl (Or.inr rfl) (Nat.le_of_ble_eq_true rfl)
theorem k166_12 : At 166 12 ls (.int x :: st) I J Q ↔ At 166 13 ls (.long x.toInt64 :: st) I J Q := A_i2l (ab_io ci166 (by decide +kernel))
theorem k166_13 : At 166 13 ls st I J Q ↔ At 166 14 ls (.int (nI 0) :: st) I J Q := A_iconst (ab_io ci166 (by decide +kernel)) ic_0
theorem k166_14 : At 166 14 ls [.int p0, .long pu1, .long pu2, .ref 49] I J Q ↔ Cal 165 [.ref 49, .long pu2, .long pu1, .int p0] I J (fun v I' J' => At 166 17 ls (v.toList ++ []) I' J' Q) := A_cal (kd := 0) (j := 216) (na := 4) (ea := 6) (rk := 49) (by decide +kernel) rfl rfl rfl (Or.inr rfl) (Nat.le_of_ble_eq_true rfl)
theorem k166_17 : At 166 17 ls [.int x] I J Q ↔ Q (some (.int x)) I J := A_iret (ab_io ci166 (by decide +kernel)) rt166
theorem k167_0 : At 167 0 [a0, some (.int x)] st I J Q ↔ At 167 1 [a0, some (.int x)] (.int x :: st) I J Q := A_iload_n (q := 1) (ab_io ci167 (by decide +kernel)) rfl
theorem k167_1 : At 167 1 ls [.int p0] I J Q ↔ Cal 131 [.int p0] I J (fun v I' J' => At 167 4 ls (v.toList ++ []) I' J' Q) := A_cal (kd := 1) (j := 108) (na := 1) (ea := 1) (rk := 0) (by decide +kernel) rfl rfl rfl (Or.inl rfl) (Nat.le_of_ble_eq_true rfl)
theorem k167_4 : At 167 4 ls (.int x :: st) I J Q ↔ if ¬ x = 0 then At 167 10 ls st I J Q else At 167 7 ls st I J Q := A_ifCond_ne (o := 6) (ab_io ci167 (by decide +kernel)) (by decide)
theorem k167_7 : At 167 7 ls st I J Q ↔ At 167 9 ls (.int (-2) :: st) I J Q := A_bipush (ab_io ci167 (by decide +kernel)) bc_m2
theorem k167_9 : At 167 9 ls [.int x] I J Q ↔ Q (some (.int x)) I J := A_iret (ab_io ci167 (by decide +kernel)) rt167
theorem k167_10 : At 167 10 [some (.ref r), a1] st I J Q ↔ At 167 11 [some (.ref r), a1] (.ref r :: st) I J Q := A_aload_n (q := 0) (ab_io ci167 (by decide +kernel)) rfl
theorem k167_11 : At 167 11 ls [.ref 49] I J Q ↔ Cal 138 [.ref 49] I J (fun v I' J' => At 167 14 ls (v.toList ++ []) I' J' Q) := A_cal (kd := 0) (j := 133) (na := 1) (ea := 1) (rk := 49) (by decide +kernel) rfl rfl rfl (Or.inr rfl) (Nat.le_of_ble_eq_true rfl)
theorem k167_14 : At 167 14 [some (.ref r), a1] st I J Q ↔ At 167 15 [some (.ref r), a1] (.ref r :: st) I J Q := A_aload_n (q := 0) (ab_io ci167 (by decide +kernel)) rfl
theorem k167_15 : At 167 15 ls [.ref 49] I J Q ↔ Cal 163 [.ref 49] I J (fun v I' J' => At 167 18 ls (v.toList ++ []) I' J' Q) := A_cal (kd := 0) (j := 211) (na := 1) (ea := 1) (rk := 49) (by decide +kernel) rfl rfl rfl (Or.inr rfl) (Nat.le_of_ble_eq_true rfl)
theorem k167_18 : At 167 18 ls st I J Q ↔ At 167 19 ls (.int (-1) :: st) I J Q := A_iconst (ab_io ci167 (by decide +kernel)) ic_m1
theorem k167_19 : At 167 19 ls (.int x1 :: .int x :: st) I J Q ↔ if ¬ x = x1 then At 167 32 ls st I J Q else At 167 22 ls st I J Q := A_if_icmp_ne (o := 13) (ab_io ci167 (by decide +kernel)) (by decide)
theorem k167_22 : At 167 22 [some (.ref r), a1] st I J Q ↔ At 167 23 [some (.ref r), a1] (.ref r :: st) I J Q := A_aload_n (q := 0) (ab_io ci167 (by decide +kernel)) rfl
theorem k167_23 : At 167 23 ls (.ref 49 :: st) I J Q ↔ At 167 26 ls (.ref 57 :: st) I J Q := A_getR (ab_io ci167 (by decide +kernel)) ow167 fq8_35_49
theorem k167_26 : At 167 26 [a0, some (.int x)] st I J Q ↔ At 167 27 [a0, some (.int x)] (.int x :: st) I J Q := A_iload_n (q := 1) (ab_io ci167 (by decide +kernel)) rfl
theorem k167_27 : At 167 27 ls (.int x :: .ref r :: st) I J Q ↔ ((ab_ly r).1 = 1 ∧ r < 75 ∧ 0 ≤ x.toInt ∧ x.toInt < (ab_ly r).2) ∧ At 167 28 ls (.int (I r x.toNatClampNeg) :: st) I J Q := A_iaload (ab_io ci167 (by decide +kernel))
theorem k167_28 : At 167 28 ls st I J Q ↔ At 167 29 ls (.int (-1) :: st) I J Q := A_iconst (ab_io ci167 (by decide +kernel)) ic_m1
theorem k167_29 : At 167 29 ls (.int x1 :: .int x :: st) I J Q ↔ if ¬ x = x1 then At 167 35 ls st I J Q else At 167 32 ls st I J Q := A_if_icmp_ne (o := 6) (ab_io ci167 (by decide +kernel)) (by decide)
theorem k167_32 : At 167 32 ls st I J Q ↔ At 167 34 ls (.int (-3) :: st) I J Q := A_bipush (ab_io ci167 (by decide +kernel)) bc_m3
theorem k167_34 : At 167 34 ls [.int x] I J Q ↔ Q (some (.int x)) I J := A_iret (ab_io ci167 (by decide +kernel)) rt167
theorem k167_35 : At 167 35 [some (.ref r), a1] st I J Q ↔ At 167 36 [some (.ref r), a1] (.ref r :: st) I J Q := A_aload_n (q := 0) (ab_io ci167 (by decide +kernel)) rfl
theorem k167_36 : At 167 36 [some (.ref r), a1] st I J Q ↔ At 167 37 [some (.ref r), a1] (.ref r :: st) I J Q := A_aload_n (q := 0) (ab_io ci167 (by decide +kernel)) rfl
theorem k167_37 : At 167 37 ls (.ref 49 :: st) I J Q ↔ At 167 40 ls (.ref 57 :: st) I J Q := A_getR (ab_io ci167 (by decide +kernel)) ow167 fq8_35_49
theorem k167_40 : At 167 40 [a0, some (.int x)] st I J Q ↔ At 167 41 [a0, some (.int x)] (.int x :: st) I J Q := A_iload_n (q := 1) (ab_io ci167 (by decide +kernel)) rfl
theorem k167_41 : At 167 41 ls (.int x :: .ref r :: st) I J Q ↔ ((ab_ly r).1 = 1 ∧ r < 75 ∧ 0 ≤ x.toInt ∧ x.toInt < (ab_ly r).2) ∧ At 167 42 ls (.int (I r x.toNatClampNeg) :: st) I J Q := A_iaload (ab_io ci167 (by decide +kernel))
theorem k167_42 : At 167 42 ls [.int p0, .ref 49] I J Q ↔ Cal 146 [.ref 49, .int p0] I J (fun v I' J' => At 167 45 ls (v.toList ++ []) I' J' Q) := A_cal (kd := 0) (j := 166) (na := 2) (ea := 2) (rk := 49) (by decide +kernel) rfl rfl rfl (Or.inr rfl) (Nat.le_of_ble_eq_true rfl)
theorem k167_45 : At 167 45 [some (.ref r), a1] st I J Q ↔ At 167 46 [some (.ref r), a1] (.ref r :: st) I J Q := A_aload_n (q := 0) (ab_io ci167 (by decide +kernel)) rfl
theorem k167_46 : At 167 46 [some (.ref r), a1] st I J Q ↔ At 167 47 [some (.ref r), a1] (.ref r :: st) I J Q := A_aload_n (q := 0) (ab_io ci167 (by decide +kernel)) rfl
theorem k167_47 : At 167 47 ls (.ref 49 :: st) I J Q ↔ At 167 50 ls (.ref 63 :: st) I J Q := A_getR (ab_io ci167 (by decide +kernel)) ow167 fq8_54_49
theorem k167_50 : At 167 50 [a0, some (.int x)] st I J Q ↔ At 167 51 [a0, some (.int x)] (.int x :: st) I J Q := A_iload_n (q := 1) (ab_io ci167 (by decide +kernel)) rfl
theorem k167_51 : At 167 51 ls (.int x :: .ref r :: st) I J Q ↔ ((ab_ly r).1 = 2 ∧ r < 75 ∧ 0 ≤ x.toInt ∧ x.toInt < (ab_ly r).2) ∧ At 167 52 ls (.long (J r x.toNatClampNeg) :: st) I J Q := A_laload (ab_io ci167 (by decide +kernel))
theorem k167_52 : At 167 52 [some (.ref r), a1] st I J Q ↔ At 167 53 [some (.ref r), a1] (.ref r :: st) I J Q := A_aload_n (q := 0) (ab_io ci167 (by decide +kernel)) rfl
theorem k167_53 : At 167 53 ls (.ref 49 :: st) I J Q ↔ At 167 56 ls (.long (J 49 17) :: st) I J Q := A_getJ (ab_io ci167 (by decide +kernel)) ow167 fq8_159_49
theorem k167_56 : At 167 56 ls st I J Q ↔ At 167 57 ls (.int (nI 0) :: st) I J Q := A_iconst (ab_io ci167 (by decide +kernel)) ic_0
theorem k167_57 : At 167 57 ls [.int p0, .long pu1, .long pu2, .ref 49] I J Q ↔ Cal 165 [.ref 49, .long pu2, .long pu1, .int p0] I J (fun v I' J' => At 167 60 ls (v.toList ++ []) I' J' Q) := A_cal (kd := 0) (j := 216) (na := 4) (ea := 6) (rk := 49) (by decide +kernel) rfl rfl rfl (Or.inr rfl) (Nat.le_of_ble_eq_true rfl)
theorem k167_60 : At 167 60 ls [.int x] I J Q ↔ Q (some (.int x)) I J := A_iret (ab_io ci167 (by decide +kernel)) rt167
theorem k168_0 : At 168 0 [a0, some (.int x)] st I J Q ↔ At 168 1 [a0, some (.int x)] (.int x :: st) I J Q := A_iload_n (q := 1) (ab_io ci168 (by decide +kernel)) rfl
theorem k168_1 : At 168 1 ls [.int p0] I J Q ↔ Cal 131 [.int p0] I J (fun v I' J' => At 168 4 ls (v.toList ++ []) I' J' Q) := A_cal (kd := 1) (j := 108) (na := 1) (ea := 1) (rk := 0) (by decide +kernel) rfl rfl rfl (Or.inl rfl) (Nat.le_of_ble_eq_true rfl)
theorem k168_4 : At 168 4 ls (.int x :: st) I J Q ↔ if ¬ x = 0 then At 168 10 ls st I J Q else At 168 7 ls st I J Q := A_ifCond_ne (o := 6) (ab_io ci168 (by decide +kernel)) (by decide)
theorem k168_7 : At 168 7 ls st I J Q ↔ At 168 9 ls (.int (-2) :: st) I J Q := A_bipush (ab_io ci168 (by decide +kernel)) bc_m2
theorem k168_9 : At 168 9 ls [.int x] I J Q ↔ Q (some (.int x)) I J := A_iret (ab_io ci168 (by decide +kernel)) rt168
theorem k168_10 : At 168 10 [some (.ref r), a1] st I J Q ↔ At 168 11 [some (.ref r), a1] (.ref r :: st) I J Q := A_aload_n (q := 0) (ab_io ci168 (by decide +kernel)) rfl
theorem k168_11 : At 168 11 ls [.ref 49] I J Q ↔ Cal 138 [.ref 49] I J (fun v I' J' => At 168 14 ls (v.toList ++ []) I' J' Q) := A_cal (kd := 0) (j := 133) (na := 1) (ea := 1) (rk := 49) (by decide +kernel) rfl rfl rfl (Or.inr rfl) (Nat.le_of_ble_eq_true rfl)
theorem k168_14 : At 168 14 [some (.ref r), a1] st I J Q ↔ At 168 15 [some (.ref r), a1] (.ref r :: st) I J Q := A_aload_n (q := 0) (ab_io ci168 (by decide +kernel)) rfl
theorem k168_15 : At 168 15 ls [.ref 49] I J Q ↔ Cal 163 [.ref 49] I J (fun v I' J' => At 168 18 ls (v.toList ++ []) I' J' Q) := A_cal (kd := 0) (j := 211) (na := 1) (ea := 1) (rk := 49) (by decide +kernel) rfl rfl rfl (Or.inr rfl) (Nat.le_of_ble_eq_true rfl)
theorem k168_18 : At 168 18 ls st I J Q ↔ At 168 19 ls (.int (-1) :: st) I J Q := A_iconst (ab_io ci168 (by decide +kernel)) ic_m1
theorem k168_19 : At 168 19 ls (.int x1 :: .int x :: st) I J Q ↔ if ¬ x = x1 then At 168 32 ls st I J Q else At 168 22 ls st I J Q := A_if_icmp_ne (o := 13) (ab_io ci168 (by decide +kernel)) (by decide)
theorem k168_22 : At 168 22 [some (.ref r), a1] st I J Q ↔ At 168 23 [some (.ref r), a1] (.ref r :: st) I J Q := A_aload_n (q := 0) (ab_io ci168 (by decide +kernel)) rfl
theorem k168_23 : At 168 23 ls (.ref 49 :: st) I J Q ↔ At 168 26 ls (.ref 57 :: st) I J Q := A_getR (ab_io ci168 (by decide +kernel)) ow168 fq8_35_49
theorem k168_26 : At 168 26 [a0, some (.int x)] st I J Q ↔ At 168 27 [a0, some (.int x)] (.int x :: st) I J Q := A_iload_n (q := 1) (ab_io ci168 (by decide +kernel)) rfl
theorem k168_27 : At 168 27 ls (.int x :: .ref r :: st) I J Q ↔ ((ab_ly r).1 = 1 ∧ r < 75 ∧ 0 ≤ x.toInt ∧ x.toInt < (ab_ly r).2) ∧ At 168 28 ls (.int (I r x.toNatClampNeg) :: st) I J Q := A_iaload (ab_io ci168 (by decide +kernel))
theorem k168_28 : At 168 28 ls st I J Q ↔ At 168 29 ls (.int (-1) :: st) I J Q := A_iconst (ab_io ci168 (by decide +kernel)) ic_m1
theorem k168_29 : At 168 29 ls (.int x1 :: .int x :: st) I J Q ↔ if ¬ x = x1 then At 168 35 ls st I J Q else At 168 32 ls st I J Q := A_if_icmp_ne (o := 6) (ab_io ci168 (by decide +kernel)) (by decide)
theorem k168_32 : At 168 32 ls st I J Q ↔ At 168 34 ls (.int (-3) :: st) I J Q := A_bipush (ab_io ci168 (by decide +kernel)) bc_m3
theorem k168_34 : At 168 34 ls [.int x] I J Q ↔ Q (some (.int x)) I J := A_iret (ab_io ci168 (by decide +kernel)) rt168
theorem k168_35 : At 168 35 [some (.ref r), a1] st I J Q ↔ At 168 36 [some (.ref r), a1] (.ref r :: st) I J Q := A_aload_n (q := 0) (ab_io ci168 (by decide +kernel)) rfl
theorem k168_36 : At 168 36 [some (.ref r), a1] st I J Q ↔ At 168 37 [some (.ref r), a1] (.ref r :: st) I J Q := A_aload_n (q := 0) (ab_io ci168 (by decide +kernel)) rfl
theorem k168_37 : At 168 37 ls (.ref 49 :: st) I J Q ↔ At 168 40 ls (.ref 57 :: st) I J Q := A_getR (ab_io ci168 (by decide +kernel)) ow168 fq8_35_49
theorem k168_40 : At 168 40 [a0, some (.int x)] st I J Q ↔ At 168 41 [a0, some (.int x)] (.int x :: st) I J Q := A_iload_n (q := 1) (ab_io ci168 (by decide +kernel)) rfl
theorem k168_41 : At 168 41 ls (.int x :: .ref r :: st) I J Q ↔ ((ab_ly r).1 = 1 ∧ r < 75 ∧ 0 ≤ x.toInt ∧ x.toInt < (ab_ly r).2) ∧ At 168 42 ls (.int (I r x.toNatClampNeg) :: st) I J Q := A_iaload (ab_io ci168 (by decide +kernel))
theorem k168_42 : At 168 42 ls [.int p0, .ref 49] I J Q ↔ Cal 146 [.ref 49, .int p0] I J (fun v I' J' => At 168 45 ls (v.toList ++ []) I' J' Q) := A_cal (kd := 0) (j := 166) (na := 2) (ea := 2) (rk := 49) (by decide +kernel) rfl rfl rfl (Or.inr rfl) (Nat.le_of_ble_eq_true rfl)
theorem k168_45 : At 168 45 [some (.ref r), a1] st I J Q ↔ At 168 46 [some (.ref r), a1] (.ref r :: st) I J Q := A_aload_n (q := 0) (ab_io ci168 (by decide +kernel)) rfl
theorem k168_46 : At 168 46 [some (.ref r), a1] st I J Q ↔ At 168 47 [some (.ref r), a1] (.ref r :: st) I J Q := A_aload_n (q := 0) (ab_io ci168 (by decide +kernel)) rfl
theorem k168_47 : At 168 47 ls (.ref 49 :: st) I J Q ↔ At 168 50 ls (.ref 63 :: st) I J Q := A_getR (ab_io ci168 (by decide +kernel)) ow168 fq8_54_49
theorem k168_50 : At 168 50 [a0, some (.int x)] st I J Q ↔ At 168 51 [a0, some (.int x)] (.int x :: st) I J Q := A_iload_n (q := 1) (ab_io ci168 (by decide +kernel)) rfl
theorem k168_51 : At 168 51 ls (.int x :: .ref r :: st) I J Q ↔ ((ab_ly r).1 = 2 ∧ r < 75 ∧ 0 ≤ x.toInt ∧ x.toInt < (ab_ly r).2) ∧ At 168 52 ls (.long (J r x.toNatClampNeg) :: st) I J Q := A_laload (ab_io ci168 (by decide +kernel))
theorem k168_52 : At 168 52 [some (.ref r), a1] st I J Q ↔ At 168 53 [some (.ref r), a1] (.ref r :: st) I J Q := A_aload_n (q := 0) (ab_io ci168 (by decide +kernel)) rfl
theorem k168_53 : At 168 53 ls (.ref 49 :: st) I J Q ↔ At 168 56 ls (.long (J 49 17) :: st) I J Q := A_getJ (ab_io ci168 (by decide +kernel)) ow168 fq8_159_49
theorem k168_56 : At 168 56 ls st I J Q ↔ At 168 57 ls (.int (nI 0) :: st) I J Q := A_iconst (ab_io ci168 (by decide +kernel)) ic_0
theorem k168_57 : At 168 57 ls [.int p0, .long pu1, .long pu2, .ref 49] I J Q ↔ Cal 165 [.ref 49, .long pu2, .long pu1, .int p0] I J (fun v I' J' => At 168 60 ls (v.toList ++ []) I' J' Q) := A_cal (kd := 0) (j := 216) (na := 4) (ea := 6) (rk := 49) (by decide +kernel) rfl rfl rfl (Or.inr rfl) (Nat.le_of_ble_eq_true rfl)
theorem k168_60 : At 168 60 [some (.ref r), a1] st I J Q ↔ At 168 61 [some (.ref r), a1] (.ref r :: st) I J Q := A_aload_n (q := 0) (ab_io ci168 (by decide +kernel)) rfl
theorem k168_61 : At 168 61 [a0, some (.int x)] st I J Q ↔ At 168 62 [a0, some (.int x)] (.int x :: st) I J Q := A_iload_n (q := 1) (ab_io ci168 (by decide +kernel)) rfl
theorem k168_62 : At 168 62 ls [.int p0, .ref 49, .int q0] I J Q ↔ Cal 166 [.ref 49, .int p0] I J (fun v I' J' => At 168 65 ls (v.toList ++ [.int q0]) I' J' Q) := A_cal (kd := 0) (j := 220) (na := 2) (ea := 2) (rk := 49) (by decide +kernel) rfl rfl rfl (Or.inr rfl) (Nat.le_of_ble_eq_true rfl)
theorem k168_65 : At 168 65 ls (.int x1 :: .int x :: st) I J Q ↔ if ¬ x = x1 then At 168 72 ls st I J Q else At 168 68 ls st I J Q := A_if_icmp_ne (o := 7) (ab_io ci168 (by decide +kernel)) (by decide)
theorem k168_68 : At 168 68 ls st I J Q ↔ At 168 69 ls (.int (nI 0) :: st) I J Q := A_iconst (ab_io ci168 (by decide +kernel)) ic_0
theorem k168_69 : At 168 69 ls st I J Q ↔ At 168 73 ls st I J Q := A_goto (o := 4) (ab_io ci168 (by decide +kernel)) (by decide)
theorem k168_72 : At 168 72 ls st I J Q ↔ At 168 73 ls (.int (nI 1) :: st) I J Q := A_iconst (ab_io ci168 (by decide +kernel)) ic_1
theorem k168_73 : At 168 73 ls [.int x] I J Q ↔ Q (some (.int x)) I J := A_iret (ab_io ci168 (by decide +kernel)) rt168
theorem k169_0 : At 169 0 [a0, some (.int x), a2, a3, a4] st I J Q ↔ At 169 1 [a0, some (.int x), a2, a3, a4] (.int x :: st) I J Q := A_iload_n (q := 1) (ab_io ci169 (by decide +kernel)) rfl
theorem k169_1 : At 169 1 ls [.int p0] I J Q ↔ Cal 132 [.int p0] I J (fun v I' J' => At 169 4 ls (v.toList ++ []) I' J' Q) := A_cal (kd := 1) (j := 112) (na := 1) (ea := 1) (rk := 0) (by decide +kernel) rfl rfl rfl (Or.inl rfl) (Nat.le_of_ble_eq_true rfl)
theorem k169_4 : At 169 4 ls (.int x :: st) I J Q ↔ if x = 0 then At 169 20 ls st I J Q else At 169 7 ls st I J Q := A_ifCond_eq (o := 16) (ab_io ci169 (by decide +kernel)) (by decide)
theorem k169_7 : At 169 7 [a0, a1, some (.int x), a3, a4] st I J Q ↔ At 169 8 [a0, a1, some (.int x), a3, a4] (.int x :: st) I J Q := A_iload_n (q := 2) (ab_io ci169 (by decide +kernel)) rfl
theorem k169_8 : At 169 8 ls st I J Q ↔ At 169 11 ls (.int (-1000) :: st) I J Q := A_sipush (ab_io ci169 (by decide +kernel)) sc_m1000
theorem k169_11 : At 169 11 ls st I J Q ↔ At 169 14 ls (.int (nI 1000) :: st) I J Q := A_sipush (ab_io ci169 (by decide +kernel)) sc_1000
theorem k169_14 : At 169 14 ls [.int p0, .int p1, .int p2] I J Q ↔ Cal 126 [.int p2, .int p1, .int p0] I J (fun v I' J' => At 169 17 ls (v.toList ++ []) I' J' Q) := A_cal (kd := 1) (j := 101) (na := 3) (ea := 3) (rk := 0) (by decide +kernel) rfl rfl rfl (Or.inl rfl) (Nat.le_of_ble_eq_true rfl)
theorem k169_17 : At 169 17 ls (.int x :: st) I J Q ↔ if ¬ x = 0 then At 169 23 ls st I J Q else At 169 20 ls st I J Q := A_ifCond_ne (o := 6) (ab_io ci169 (by decide +kernel)) (by decide)
theorem k169_20 : At 169 20 ls st I J Q ↔ At 169 22 ls (.int (-2) :: st) I J Q := A_bipush (ab_io ci169 (by decide +kernel)) bc_m2
theorem k169_22 : At 169 22 ls [.int x] I J Q ↔ Q (some (.int x)) I J := A_iret (ab_io ci169 (by decide +kernel)) rt169
theorem k169_23 : At 169 23 [some (.ref r), a1, a2, a3, a4] st I J Q ↔ At 169 24 [some (.ref r), a1, a2, a3, a4] (.ref r :: st) I J Q := A_aload_n (q := 0) (ab_io ci169 (by decide +kernel)) rfl
theorem k169_24 : At 169 24 ls [.ref 49] I J Q ↔ Cal 138 [.ref 49] I J (fun v I' J' => At 169 27 ls (v.toList ++ []) I' J' Q) := A_cal (kd := 0) (j := 133) (na := 1) (ea := 1) (rk := 49) (by decide +kernel) rfl rfl rfl (Or.inr rfl) (Nat.le_of_ble_eq_true rfl)
theorem k169_27 : At 169 27 [some (.ref r), a1, a2, a3, a4] st I J Q ↔ At 169 28 [some (.ref r), a1, a2, a3, a4] (.ref r :: st) I J Q := A_aload_n (q := 0) (ab_io ci169 (by decide +kernel)) rfl
theorem k169_28 : At 169 28 ls [.ref 49] I J Q ↔ Cal 163 [.ref 49] I J (fun v I' J' => At 169 31 ls (v.toList ++ []) I' J' Q) := A_cal (kd := 0) (j := 211) (na := 1) (ea := 1) (rk := 49) (by decide +kernel) rfl rfl rfl (Or.inr rfl) (Nat.le_of_ble_eq_true rfl)
theorem k169_31 : At 169 31 ls st I J Q ↔ At 169 32 ls (.int (-1) :: st) I J Q := A_iconst (ab_io ci169 (by decide +kernel)) ic_m1
theorem k169_32 : At 169 32 ls (.int x1 :: .int x :: st) I J Q ↔ if ¬ x = x1 then At 169 43 ls st I J Q else At 169 35 ls st I J Q := A_if_icmp_ne (o := 11) (ab_io ci169 (by decide +kernel)) (by decide)
theorem k169_35 : At 169 35 [some (.ref r), a1, a2, a3, a4] st I J Q ↔ At 169 36 [some (.ref r), a1, a2, a3, a4] (.ref r :: st) I J Q := A_aload_n (q := 0) (ab_io ci169 (by decide +kernel)) rfl
theorem k169_36 : At 169 36 [a0, some (.int x), a2, a3, a4] st I J Q ↔ At 169 37 [a0, some (.int x), a2, a3, a4] (.int x :: st) I J Q := A_iload_n (q := 1) (ab_io ci169 (by decide +kernel)) rfl
theorem k169_37 : At 169 37 ls [.int p0, .ref 49] I J Q ↔ Cal 154 [.ref 49, .int p0] I J (fun v I' J' => At 169 40 ls (v.toList ++ []) I' J' Q) := A_cal (kd := 0) (j := 183) (na := 2) (ea := 2) (rk := 49) (by decide +kernel) rfl rfl rfl (Or.inr rfl) (Nat.le_of_ble_eq_true rfl)
theorem k169_40 : At 169 40 ls (.int x :: st) I J Q ↔ if ¬ x = 0 then At 169 46 ls st I J Q else At 169 43 ls st I J Q := A_ifCond_ne (o := 6) (ab_io ci169 (by decide +kernel)) (by decide)
theorem k169_43 : At 169 43 ls st I J Q ↔ At 169 45 ls (.int (-3) :: st) I J Q := A_bipush (ab_io ci169 (by decide +kernel)) bc_m3
theorem k169_45 : At 169 45 ls [.int x] I J Q ↔ Q (some (.int x)) I J := A_iret (ab_io ci169 (by decide +kernel)) rt169
theorem k169_46 : At 169 46 [some (.ref r), a1, a2, a3, a4] st I J Q ↔ At 169 47 [some (.ref r), a1, a2, a3, a4] (.ref r :: st) I J Q := A_aload_n (q := 0) (ab_io ci169 (by decide +kernel)) rfl
theorem k169_47 : At 169 47 [a0, some (.int x), a2, a3, a4] st I J Q ↔ At 169 48 [a0, some (.int x), a2, a3, a4] (.int x :: st) I J Q := A_iload_n (q := 1) (ab_io ci169 (by decide +kernel)) rfl
theorem k169_48 : At 169 48 ls [.int p0, .ref 49] I J Q ↔ Cal 146 [.ref 49, .int p0] I J (fun v I' J' => At 169 51 ls (v.toList ++ []) I' J' Q) := A_cal (kd := 0) (j := 166) (na := 2) (ea := 2) (rk := 49) (by decide +kernel) rfl rfl rfl (Or.inr rfl) (Nat.le_of_ble_eq_true rfl)
theorem k169_51 : At 169 51 ls st I J Q ↔ At 169 52 ls (.int (nI 0) :: st) I J Q := A_iconst (ab_io ci169 (by decide +kernel)) ic_0
theorem k169_52 : At 169 52 [a0, a1, a2, a3, a4] (.int x :: st) I J Q ↔ At 169 53 [a0, a1, ab_nv a2, some (.int x), a4] st I J Q := A_istore_n (q := 3) (ab_io ci169 (by decide +kernel)) (Nat.le_of_ble_eq_true rfl) rfl
theorem k169_53 : At 169 53 ls st I J Q ↔ At 169 54 ls (.int (nI 0) :: st) I J Q := A_iconst (ab_io ci169 (by decide +kernel)) ic_0
theorem k169_54 : At 169 54 [a0, a1, a2, a3, a4] (.int x :: st) I J Q ↔ At 169 56 [a0, a1, a2, ab_nv a3, some (.int x)] st I J Q := A_istore (q := 4) (ab_io ci169 (by decide +kernel)) (Nat.le_of_ble_eq_true rfl) rfl
theorem k169_56 : At 169 56 [a0, a1, a2, a3, some (.int x)] st I J Q ↔ At 169 58 [a0, a1, a2, a3, some (.int x)] (.int x :: st) I J Q := A_iload (q := 4) (ab_io ci169 (by decide +kernel)) rfl
theorem k169_58 : At 169 58 ls st I J Q ↔ At 169 60 ls (.int (nI 12) :: st) I J Q := A_bipush (ab_io ci169 (by decide +kernel)) bc_12
theorem k169_60 : At 169 60 ls (.int x1 :: .int x :: st) I J Q ↔ if x1 ≤ x then At 169 123 ls st I J Q else At 169 63 ls st I J Q := A_if_icmp_ge (o := 63) (ab_io ci169 (by decide +kernel)) (by decide)
theorem k169_63 : At 169 63 [a0, a1, a2, some (.int x), a4] st I J Q ↔ At 169 64 [a0, a1, a2, some (.int x), a4] (.int x :: st) I J Q := A_iload_n (q := 3) (ab_io ci169 (by decide +kernel)) rfl
theorem k169_64 : At 169 64 [some (.ref r), a1, a2, a3, a4] st I J Q ↔ At 169 65 [some (.ref r), a1, a2, a3, a4] (.ref r :: st) I J Q := A_aload_n (q := 0) (ab_io ci169 (by decide +kernel)) rfl
theorem k169_65 : At 169 65 ls (.ref 49 :: st) I J Q ↔ At 169 68 ls (.ref 57 :: st) I J Q := A_getR (ab_io ci169 (by decide +kernel)) ow169 fq8_35_49
theorem k169_68 : At 169 68 [a0, a1, a2, a3, some (.int x)] st I J Q ↔ At 169 70 [a0, a1, a2, a3, some (.int x)] (.int x :: st) I J Q := A_iload (q := 4) (ab_io ci169 (by decide +kernel)) rfl
theorem k169_70 : At 169 70 ls (.int x :: .ref r :: st) I J Q ↔ ((ab_ly r).1 = 1 ∧ r < 75 ∧ 0 ≤ x.toInt ∧ x.toInt < (ab_ly r).2) ∧ At 169 71 ls (.int (I r x.toNatClampNeg) :: st) I J Q := A_iaload (ab_io ci169 (by decide +kernel))
theorem k169_71 : At 169 71 [a0, some (.int x), a2, a3, a4] st I J Q ↔ At 169 72 [a0, some (.int x), a2, a3, a4] (.int x :: st) I J Q := A_iload_n (q := 1) (ab_io ci169 (by decide +kernel)) rfl
theorem k169_72 : At 169 72 ls (.int x1 :: .int x :: st) I J Q ↔ if ¬ x = x1 then At 169 114 ls st I J Q else At 169 75 ls st I J Q := A_if_icmp_ne (o := 42) (ab_io ci169 (by decide +kernel)) (by decide)
theorem k169_75 : At 169 75 [some (.ref r), a1, a2, a3, a4] st I J Q ↔ At 169 76 [some (.ref r), a1, a2, a3, a4] (.ref r :: st) I J Q := A_aload_n (q := 0) (ab_io ci169 (by decide +kernel)) rfl
theorem k169_76 : At 169 76 [some (.ref r), a1, a2, a3, a4] st I J Q ↔ At 169 77 [some (.ref r), a1, a2, a3, a4] (.ref r :: st) I J Q := A_aload_n (q := 0) (ab_io ci169 (by decide +kernel)) rfl
theorem k169_77 : At 169 77 ls (.ref 49 :: st) I J Q ↔ At 169 80 ls (.ref 63 :: st) I J Q := A_getR (ab_io ci169 (by decide +kernel)) ow169 fq8_54_49
theorem k169_80 : At 169 80 [a0, a1, a2, a3, some (.int x)] st I J Q ↔ At 169 82 [a0, a1, a2, a3, some (.int x)] (.int x :: st) I J Q := A_iload (q := 4) (ab_io ci169 (by decide +kernel)) rfl
theorem k169_82 : At 169 82 ls (.int x :: .ref r :: st) I J Q ↔ ((ab_ly r).1 = 2 ∧ r < 75 ∧ 0 ≤ x.toInt ∧ x.toInt < (ab_ly r).2) ∧ At 169 83 ls (.long (J r x.toNatClampNeg) :: st) I J Q := A_laload (ab_io ci169 (by decide +kernel))
theorem k169_83 : At 169 83 [some (.ref r), a1, a2, a3, a4] st I J Q ↔ At 169 84 [some (.ref r), a1, a2, a3, a4] (.ref r :: st) I J Q := A_aload_n (q := 0) (ab_io ci169 (by decide +kernel)) rfl
theorem k169_84 : At 169 84 ls (.ref 49 :: st) I J Q ↔ At 169 87 ls (.long (J 49 17) :: st) I J Q := A_getJ (ab_io ci169 (by decide +kernel)) ow169 fq8_159_49
theorem k169_87 : At 169 87 ls st I J Q ↔ At 169 88 ls (.int (nI 0) :: st) I J Q := A_iconst (ab_io ci169 (by decide +kernel)) ic_0
theorem k169_88 : At 169 88 ls [.int p0, .long pu1, .long pu2, .ref 49, .int q0] I J Q ↔ Cal 165 [.ref 49, .long pu2, .long pu1, .int p0] I J (fun v I' J' => At 169 91 ls (v.toList ++ [.int q0]) I' J' Q) := A_cal (kd := 0) (j := 216) (na := 4) (ea := 6) (rk := 49) (by decide +kernel) rfl rfl rfl (Or.inr rfl) (Nat.le_of_ble_eq_true rfl)
theorem k169_91 : At 169 91 [some (.ref r), a1, a2, a3, a4] st I J Q ↔ At 169 92 [some (.ref r), a1, a2, a3, a4] (.ref r :: st) I J Q := A_aload_n (q := 0) (ab_io ci169 (by decide +kernel)) rfl
theorem k169_92 : At 169 92 [some (.ref r), a1, a2, a3, a4] st I J Q ↔ At 169 93 [some (.ref r), a1, a2, a3, a4] (.ref r :: st) I J Q := A_aload_n (q := 0) (ab_io ci169 (by decide +kernel)) rfl
theorem k169_93 : At 169 93 ls (.ref 49 :: st) I J Q ↔ At 169 96 ls (.ref 63 :: st) I J Q := A_getR (ab_io ci169 (by decide +kernel)) ow169 fq8_54_49
theorem k169_96 : At 169 96 [a0, a1, a2, a3, some (.int x)] st I J Q ↔ At 169 98 [a0, a1, a2, a3, some (.int x)] (.int x :: st) I J Q := A_iload (q := 4) (ab_io ci169 (by decide +kernel)) rfl
theorem k169_98 : At 169 98 ls (.int x :: .ref r :: st) I J Q ↔ ((ab_ly r).1 = 2 ∧ r < 75 ∧ 0 ≤ x.toInt ∧ x.toInt < (ab_ly r).2) ∧ At 169 99 ls (.long (J r x.toNatClampNeg) :: st) I J Q := A_laload (ab_io ci169 (by decide +kernel))
theorem k169_99 : At 169 99 [some (.ref r), a1, a2, a3, a4] st I J Q ↔ At 169 100 [some (.ref r), a1, a2, a3, a4] (.ref r :: st) I J Q := A_aload_n (q := 0) (ab_io ci169 (by decide +kernel)) rfl
theorem k169_100 : At 169 100 ls (.ref 49 :: st) I J Q ↔ At 169 103 ls (.long (J 49 17) :: st) I J Q := A_getJ (ab_io ci169 (by decide +kernel)) ow169 fq8_159_49
theorem k169_103 : At 169 103 [a0, a1, some (.int x), a3, a4] st I J Q ↔ At 169 104 [a0, a1, some (.int x), a3, a4] (.int x :: st) I J Q := A_iload_n (q := 2) (ab_io ci169 (by decide +kernel)) rfl
theorem k169_104 : At 169 104 ls [.int p0, .long pu1, .long pu2, .ref 49, .int q0, .int q1] I J Q ↔ Cal 165 [.ref 49, .long pu2, .long pu1, .int p0] I J (fun v I' J' => At 169 107 ls (v.toList ++ [.int q0, .int q1]) I' J' Q) := A_cal (kd := 0) (j := 216) (na := 4) (ea := 6) (rk := 49) (by decide +kernel) rfl rfl rfl (Or.inr rfl) (Nat.le_of_ble_eq_true rfl)
theorem k169_107 : At 169 107 ls (.int x1 :: .int x :: st) I J Q ↔ if x = x1 then At 169 114 ls st I J Q else At 169 110 ls st I J Q := A_if_icmp_eq (o := 7) (ab_io ci169 (by decide +kernel)) (by decide)
theorem k169_110 : At 169 110 ls st I J Q ↔ At 169 111 ls (.int (nI 1) :: st) I J Q := A_iconst (ab_io ci169 (by decide +kernel)) ic_1
theorem k169_111 : At 169 111 ls st I J Q ↔ At 169 115 ls st I J Q := A_goto (o := 4) (ab_io ci169 (by decide +kernel)) (by decide)
theorem k169_114 : At 169 114 ls st I J Q ↔ At 169 115 ls (.int (nI 0) :: st) I J Q := A_iconst (ab_io ci169 (by decide +kernel)) ic_0
theorem k169_115 : At 169 115 ls (.int x1 :: .int x :: st) I J Q ↔ At 169 116 ls (.int (x + x1) :: st) I J Q := A_iadd (ab_io ci169 (by decide +kernel))
theorem k169_116 : At 169 116 [a0, a1, a2, a3, a4] (.int x :: st) I J Q ↔ At 169 117 [a0, a1, ab_nv a2, some (.int x), a4] st I J Q := A_istore_n (q := 3) (ab_io ci169 (by decide +kernel)) (Nat.le_of_ble_eq_true rfl) rfl
theorem k169_117 : At 169 117 [a0, a1, a2, a3, some (.int x)] st I J Q ↔ At 169 120 [a0, a1, a2, ab_nv a3, some (.int (x + (nI 1)))] st I J Q := A_iinc (q := 4) (ab_io ci169 (by decide +kernel)) ic_1 (Nat.le_of_ble_eq_true rfl) rfl rfl
theorem k169_120 : At 169 120 ls st I J Q ↔ At 169 56 ls st I J Q := A_goto (o := (-64)) (ab_io ci169 (by decide +kernel)) (by decide)
theorem k169_123 : At 169 123 [a0, a1, a2, some (.int x), a4] st I J Q ↔ At 169 124 [a0, a1, a2, some (.int x), a4] (.int x :: st) I J Q := A_iload_n (q := 3) (ab_io ci169 (by decide +kernel)) rfl
theorem k169_124 : At 169 124 ls [.int x] I J Q ↔ Q (some (.int x)) I J := A_iret (ab_io ci169 (by decide +kernel)) rt169
end KROWS
