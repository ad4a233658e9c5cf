section KROWS
variable {ls : ab_L} {st : List Value} {I : ab_I} {J : ab_J} {Q : Option Value → ab_I → ab_J → Prop} {x x1 x2 : Int32} {u u1 : Int64} {r r1 : Nat}
variable {a0 a1 a2 a3 a4 a5 a6 a7 a8 a9 a10 a11 a12 a13 a14 a15 a16 a17 a18 a19 : Option Value}
variable {p0 q0 p1 q1 p2 q2 p3 q3 p4 q4 p5 q5 : Int32} {pu0 qu0 pu1 qu1 pu2 qu2 pu3 qu3 pu4 qu4 pu5 qu5 : Int64} {pr0 qr0 pr1 qr1 pr2 qr2 pr3 qr3 pr4 qr4 pr5 qr5 : Nat}
theorem k42_0 : At 42 0 [some (.ref r)] st I J Q ↔ At 42 1 [some (.ref r)] (.ref r :: st) I J Q := A_aload_n (q := 0) (ab_io ci42 (by decide +kernel)) rfl
theorem k42_1 : At 42 1 ls (.ref 39 :: st) I J Q ↔ At 42 4 ls (.int (I 39 3) :: st) I J Q := A_getI (ab_io ci42 (by decide +kernel)) ow42 fq2_21_39
theorem k42_4 : At 42 4 ls st I J Q ↔ At 42 6 ls (.int (nI 60) :: st) I J Q := A_bipush (ab_io ci42 (by decide +kernel)) bc_60
theorem k42_6 : At 42 6 ls (.int x1 :: .int x :: st) I J Q ↔ if x < x1 then At 42 13 ls st I J Q else At 42 9 ls st I J Q := A_if_icmp_lt (o := 7) (ab_io ci42 (by decide +kernel)) (by decide)
theorem k42_9 : At 42 9 ls st I J Q ↔ At 42 10 ls (.int (nI 1) :: st) I J Q := A_iconst (ab_io ci42 (by decide +kernel)) ic_1
theorem k42_10 : At 42 10 ls st I J Q ↔ At 42 14 ls st I J Q := A_goto (o := 4) (ab_io ci42 (by decide +kernel)) (by decide)
theorem k42_13 : At 42 13 ls st I J Q ↔ At 42 14 ls (.int (nI 0) :: st) I J Q := A_iconst (ab_io ci42 (by decide +kernel)) ic_0
theorem k42_14 : At 42 14 ls [.int x] I J Q ↔ (x = 0 ∨ x = 1) ∧ Q (some (.int x)) I J := A_zret (ab_io ci42 (by decide +kernel)) rt42
theorem k43_0 : At 43 0 [some (.ref r), a1] st I J Q ↔ At 43 1 [some (.ref r), a1] (.ref r :: st) I J Q := A_aload_n (q := 0) (ab_io ci43 (by decide +kernel)) rfl
theorem k43_1 : At 43 1 ls [.ref 39] I J Q ↔ Cal 42 [.ref 39] I J (fun v I' J' => At 43 4 ls (v.toList ++ []) I' J' Q) := A_cal (kd := 0) (j := 34) (na := 1) (ea := 1) (rk := 39) (by decide +kernel) rfl rfl rfl (Or.inr rfl) (Nat.le_of_ble_eq_true rfl)
theorem k43_4 : At 43 4 ls (.int x :: st) I J Q ↔ if x = 0 then At 43 8 ls st I J Q else At 43 7 ls st I J Q := A_ifCond_eq (o := 4) (ab_io ci43 (by decide +kernel)) (by decide)
theorem k43_7 : At 43 7 ls [] I J Q ↔ Q none I J := A_vret (ab_io ci43 (by decide +kernel)) rt43
theorem k43_8 : At 43 8 [some (.ref r), a1] st I J Q ↔ At 43 9 [some (.ref r), a1] (.ref r :: st) I J Q := A_aload_n (q := 0) (ab_io ci43 (by decide +kernel)) rfl
theorem k43_9 : At 43 9 ls (.ref 39 :: st) I J Q ↔ At 43 12 ls (.ref 40 :: st) I J Q := A_getR (ab_io ci43 (by decide +kernel)) ow43 fq2_11_39
theorem k43_12 : At 43 12 [some (.ref r), a1] st I J Q ↔ At 43 13 [some (.ref r), a1] (.ref r :: st) I J Q := A_aload_n (q := 0) (ab_io ci43 (by decide +kernel)) rfl
theorem k43_13 : At 43 13 ls (.ref 39 :: st) I J Q ↔ At 43 16 ls (.int (I 39 3) :: st) I J Q := A_getI (ab_io ci43 (by decide +kernel)) ow43 fq2_21_39
theorem k43_16 : At 43 16 [a0, some (.int x)] st I J Q ↔ At 43 17 [a0, some (.int x)] (.int x :: st) I J Q := A_iload_n (q := 1) (ab_io ci43 (by decide +kernel)) rfl
theorem k43_17 : At 43 17 ls (.int x1 :: .int x :: .ref r :: st) I J Q ↔ ((ab_ly r).1 = 1 ∧ r < 75 ∧ 0 ≤ x.toInt ∧ x.toInt < (ab_ly r).2) ∧ At 43 18 ls st (va_up I r (va_up (I r) x.toNatClampNeg x1)) J Q := A_iastore (ab_io ci43 (by decide +kernel))
theorem k43_18 : At 43 18 [some (.ref r), a1] st I J Q ↔ At 43 19 [some (.ref r), a1] (.ref r :: st) I J Q := A_aload_n (q := 0) (ab_io ci43 (by decide +kernel)) rfl
theorem k43_19 : At 43 19 ls (.ref r :: st) I J Q ↔ At 43 20 ls (.ref r :: .ref r :: st) I J Q := A_dupA (ab_io ci43 (by decide +kernel))
theorem k43_20 : At 43 20 ls (.ref 39 :: st) I J Q ↔ At 43 23 ls (.int (I 39 3) :: st) I J Q := A_getI (ab_io ci43 (by decide +kernel)) ow43 fq2_21_39
theorem k43_23 : At 43 23 ls st I J Q ↔ At 43 24 ls (.int (nI 1) :: st) I J Q := A_iconst (ab_io ci43 (by decide +kernel)) ic_1
theorem k43_24 : At 43 24 ls (.int x1 :: .int x :: st) I J Q ↔ At 43 25 ls (.int (x + x1) :: st) I J Q := A_iadd (ab_io ci43 (by decide +kernel))
theorem k43_25 : At 43 25 ls (.int x :: .ref 39 :: st) I J Q ↔ At 43 28 ls st (va_up I 39 (va_up (I 39) 3 x)) J Q := A_putI (ab_io ci43 (by decide +kernel)) ow43 fq2_21_39
theorem k43_28 : At 43 28 [some (.ref r), a1] st I J Q ↔ At 43 29 [some (.ref r), a1] (.ref r :: st) I J Q := A_aload_n (q := 0) (ab_io ci43 (by decide +kernel)) rfl
theorem k43_29 : At 43 29 ls [.ref 39] I J Q ↔ Cal 45 [.ref 39] I J (fun v I' J' => At 43 32 ls (v.toList ++ []) I' J' Q) := A_cal (kd := 0) (j := 38) (na := 1) (ea := 1) (rk := 39) (by decide +kernel) rfl rfl rfl (Or.inr rfl) (Nat.le_of_ble_eq_true rfl)
theorem k43_32 : At 43 32 ls [] I J Q ↔ Q none I J := A_vret (ab_io ci43 (by decide +kernel)) rt43
theorem k44_0 : At 44 0 [some (.ref r), a1] st I J Q ↔ At 44 1 [some (.ref r), a1] (.ref r :: st) I J Q := A_aload_n (q := 0) (ab_io ci44 (by decide +kernel)) rfl
theorem k44_1 : At 44 1 ls (.ref 39 :: st) I J Q ↔ At 44 4 ls (.int (I 39 3) :: st) I J Q := A_getI (ab_io ci44 (by decide +kernel)) ow44 fq2_21_39
theorem k44_4 : At 44 4 [a0, a1] (.int x :: st) I J Q ↔ At 44 5 [ab_nv a0, some (.int x)] st I J Q := A_istore_n (q := 1) (ab_io ci44 (by decide +kernel)) (Nat.le_of_ble_eq_true rfl) rfl
theorem k44_5 : At 44 5 [some (.ref r), a1] st I J Q ↔ At 44 6 [some (.ref r), a1] (.ref r :: st) I J Q := A_aload_n (q := 0) (ab_io ci44 (by decide +kernel)) rfl
theorem k44_6 : At 44 6 ls st I J Q ↔ At 44 7 ls (.int (nI 0) :: st) I J Q := A_iconst (ab_io ci44 (by decide +kernel)) ic_0
theorem k44_7 : At 44 7 ls (.int x :: .ref 39 :: st) I J Q ↔ At 44 10 ls st (va_up I 39 (va_up (I 39) 3 x)) J Q := A_putI (ab_io ci44 (by decide +kernel)) ow44 fq2_21_39
theorem k44_10 : At 44 10 [some (.ref r), a1] st I J Q ↔ At 44 11 [some (.ref r), a1] (.ref r :: st) I J Q := A_aload_n (q := 0) (ab_io ci44 (by decide +kernel)) rfl
theorem k44_11 : At 44 11 ls [.ref 39] I J Q ↔ Cal 45 [.ref 39] I J (fun v I' J' => At 44 14 ls (v.toList ++ []) I' J' Q) := A_cal (kd := 0) (j := 38) (na := 1) (ea := 1) (rk := 39) (by decide +kernel) rfl rfl rfl (Or.inr rfl) (Nat.le_of_ble_eq_true rfl)
theorem k44_14 : At 44 14 [a0, some (.int x)] st I J Q ↔ At 44 15 [a0, some (.int x)] (.int x :: st) I J Q := A_iload_n (q := 1) (ab_io ci44 (by decide +kernel)) rfl
theorem k44_15 : At 44 15 ls [.int x] I J Q ↔ Q (some (.int x)) I J := A_iret (ab_io ci44 (by decide +kernel)) rt44
theorem k45_0 : At 45 0 [some (.ref r), a1, a2] st I J Q ↔ At 45 1 [some (.ref r), a1, a2] (.ref r :: st) I J Q := A_aload_n (q := 0) (ab_io ci45 (by decide +kernel)) rfl
theorem k45_1 : At 45 1 ls st I J Q ↔ At 45 2 ls (.int (nI 0) :: st) I J Q := A_iconst (ab_io ci45 (by decide +kernel)) ic_0
theorem k45_2 : At 45 2 ls (.int x :: .ref 39 :: st) I J Q ↔ At 45 5 ls st (va_up I 39 (va_up (I 39) 4 x)) J Q := A_putI (ab_io ci45 (by decide +kernel)) ow45 fq2_25_39
theorem k45_5 : At 45 5 [some (.ref r), a1, a2] st I J Q ↔ At 45 6 [some (.ref r), a1, a2] (.ref r :: st) I J Q := A_aload_n (q := 0) (ab_io ci45 (by decide +kernel)) rfl
theorem k45_6 : At 45 6 ls st I J Q ↔ At 45 7 ls (.int (nI 0) :: st) I J Q := A_iconst (ab_io ci45 (by decide +kernel)) ic_0
theorem k45_7 : At 45 7 ls (.int x :: .ref 39 :: st) I J Q ↔ At 45 10 ls st (va_up I 39 (va_up (I 39) 5 x)) J Q := A_putI (ab_io ci45 (by decide +kernel)) ow45 fq2_28_39
theorem k45_10 : At 45 10 [some (.ref r), a1, a2] st I J Q ↔ At 45 11 [some (.ref r), a1, a2] (.ref r :: st) I J Q := A_aload_n (q := 0) (ab_io ci45 (by decide +kernel)) rfl
theorem k45_11 : At 45 11 ls st I J Q ↔ At 45 12 ls (.int (-1) :: st) I J Q := A_iconst (ab_io ci45 (by decide +kernel)) ic_m1
theorem k45_12 : At 45 12 ls (.int x :: .ref 39 :: st) I J Q ↔ At 45 15 ls st (va_up I 39 (va_up (I 39) 6 x)) J Q := A_putI (ab_io ci45 (by decide +kernel)) ow45 fq2_31_39
theorem k45_15 : At 45 15 ls st I J Q ↔ At 45 16 ls (.int (nI 1) :: st) I J Q := A_iconst (ab_io ci45 (by decide +kernel)) ic_1
theorem k45_16 : At 45 16 [a0, a1, a2] (.int x :: st) I J Q ↔ At 45 17 [ab_nv a0, some (.int x), a2] st I J Q := A_istore_n (q := 1) (ab_io ci45 (by decide +kernel)) (Nat.le_of_ble_eq_true rfl) rfl
theorem k45_17 : At 45 17 ls st I J Q ↔ At 45 18 ls (.int (nI 0) :: st) I J Q := A_iconst (ab_io ci45 (by decide +kernel)) ic_0
theorem k45_18 : At 45 18 [a0, a1, a2] (.int x :: st) I J Q ↔ At 45 19 [a0, ab_nv a1, some (.int x)] st I J Q := A_istore_n (q := 2) (ab_io ci45 (by decide +kernel)) (Nat.le_of_ble_eq_true rfl) rfl
theorem k45_19 : At 45 19 [a0, a1, some (.int x)] st I J Q ↔ At 45 20 [a0, a1, some (.int x)] (.int x :: st) I J Q := A_iload_n (q := 2) (ab_io ci45 (by decide +kernel)) rfl
theorem k45_20 : At 45 20 ls st I J Q ↔ At 45 22 ls (.int (nI 6) :: st) I J Q := A_bipush (ab_io ci45 (by decide +kernel)) bc_6
theorem k45_22 : At 45 22 ls (.int x1 :: .int x :: st) I J Q ↔ if x1 < x then At 45 40 ls st I J Q else At 45 25 ls st I J Q := A_if_icmp_gt (o := 18) (ab_io ci45 (by decide +kernel)) (by decide)
theorem k45_25 : At 45 25 [a0, some (.int x), a2] st I J Q ↔ At 45 26 [a0, some (.int x), a2] (.int x :: st) I J Q := A_iload_n (q := 1) (ab_io ci45 (by decide +kernel)) rfl
theorem k45_26 : At 45 26 ls (.int x :: st) I J Q ↔ if x = 0 then At 45 40 ls st I J Q else At 45 29 ls st I J Q := A_ifCond_eq (o := 14) (ab_io ci45 (by decide +kernel)) (by decide)
theorem k45_29 : At 45 29 [some (.ref r), a1, a2] st I J Q ↔ At 45 30 [some (.ref r), a1, a2] (.ref r :: st) I J Q := A_aload_n (q := 0) (ab_io ci45 (by decide +kernel)) rfl
theorem k45_30 : At 45 30 ls [.ref 39] I J Q ↔ Cal 46 [.ref 39] I J (fun v I' J' => At 45 33 ls (v.toList ++ []) I' J' Q) := A_cal (kd := 0) (j := 41) (na := 1) (ea := 1) (rk := 39) (by decide +kernel) rfl rfl rfl (Or.inr rfl) (Nat.le_of_ble_eq_true rfl)
theorem k45_33 : At 45 33 [a0, a1, a2] (.int x :: st) I J Q ↔ At 45 34 [ab_nv a0, some (.int x), a2] st I J Q := A_istore_n (q := 1) (ab_io ci45 (by decide +kernel)) (Nat.le_of_ble_eq_true rfl) rfl
theorem k45_34 : At 45 34 [a0, a1, some (.int x)] st I J Q ↔ At 45 37 [a0, ab_nv a1, some (.int (x + (nI 1)))] st I J Q := A_iinc (q := 2) (ab_io ci45 (by decide +kernel)) ic_1 (Nat.le_of_ble_eq_true rfl) rfl rfl
theorem k45_37 : At 45 37 ls st I J Q ↔ At 45 19 ls st I J Q := A_goto (o := (-18)) (ab_io ci45 (by decide +kernel)) (by decide)
theorem k45_40 : At 45 40 ls [] I J Q ↔ Q none I J := A_vret (ab_io ci45 (by decide +kernel)) rt45
theorem k46_0 : At 46 0 [some (.ref r), a1, a2, a3] st I J Q ↔ At 46 1 [some (.ref r), a1, a2, a3] (.ref r :: st) I J Q := A_aload_n (q := 0) (ab_io ci46 (by decide +kernel)) rfl
theorem k46_1 : At 46 1 [some (.ref r), a1, a2, a3] st I J Q ↔ At 46 2 [some (.ref r), a1, a2, a3] (.ref r :: st) I J Q := A_aload_n (q := 0) (ab_io ci46 (by decide +kernel)) rfl
theorem k46_2 : At 46 2 ls (.ref 39 :: st) I J Q ↔ At 46 5 ls (.int (I 39 5) :: st) I J Q := A_getI (ab_io ci46 (by decide +kernel)) ow46 fq2_28_39
theorem k46_5 : At 46 5 ls [.int p0, .ref 39] I J Q ↔ Cal 50 [.ref 39, .int p0] I J (fun v I' J' => At 46 8 ls (v.toList ++ []) I' J' Q) := A_cal (kd := 0) (j := 44) (na := 2) (ea := 2) (rk := 39) (by decide +kernel) rfl rfl rfl (Or.inr rfl) (Nat.le_of_ble_eq_true rfl)
theorem k46_8 : At 46 8 ls st I J Q ↔ At 46 10 ls (.int (nI 65) :: st) I J Q := A_bipush (ab_io ci46 (by decide +kernel)) bc_65
theorem k46_10 : At 46 10 ls (.int x1 :: .int x :: st) I J Q ↔ At 46 11 ls (.int (x - x1) :: st) I J Q := A_isub (ab_io ci46 (by decide +kernel))
theorem k46_11 : At 46 11 [a0, a1, a2, a3] (.int x :: st) I J Q ↔ At 46 12 [ab_nv a0, some (.int x), a2, a3] st I J Q := A_istore_n (q := 1) (ab_io ci46 (by decide +kernel)) (Nat.le_of_ble_eq_true rfl) rfl
theorem k46_12 : At 46 12 [some (.ref r), a1, a2, a3] st I J Q ↔ At 46 13 [some (.ref r), a1, a2, a3] (.ref r :: st) I J Q := A_aload_n (q := 0) (ab_io ci46 (by decide +kernel)) rfl
theorem k46_13 : At 46 13 ls (.ref 39 :: st) I J Q ↔ At 46 16 ls (.int (I 39 4) :: st) I J Q := A_getI (ab_io ci46 (by decide +kernel)) ow46 fq2_25_39
theorem k46_16 : At 46 16 ls (.int x :: st) I J Q ↔ if ¬ x = 0 then At 46 23 ls st I J Q else At 46 19 ls st I J Q := A_ifCond_ne (o := 7) (ab_io ci46 (by decide +kernel)) (by decide)
theorem k46_19 : At 46 19 ls st I J Q ↔ At 46 20 ls (.int (nI 0) :: st) I J Q := A_iconst (ab_io ci46 (by decide +kernel)) ic_0
theorem k46_20 : At 46 20 ls st I J Q ↔ At 46 36 ls st I J Q := A_goto (o := 16) (ab_io ci46 (by decide +kernel)) (by decide)
theorem k46_23 : At 46 23 [some (.ref r), a1, a2, a3] st I J Q ↔ At 46 24 [some (.ref r), a1, a2, a3] (.ref r :: st) I J Q := A_aload_n (q := 0) (ab_io ci46 (by decide +kernel)) rfl
theorem k46_24 : At 46 24 ls (.ref 39 :: st) I J Q ↔ At 46 27 ls (.ref 41 :: st) I J Q := A_getR (ab_io ci46 (by decide +kernel)) ow46 fq2_15_39
theorem k46_27 : At 46 27 [some (.ref r), a1, a2, a3] st I J Q ↔ At 46 28 [some (.ref r), a1, a2, a3] (.ref r :: st) I J Q := A_aload_n (q := 0) (ab_io ci46 (by decide +kernel)) rfl
theorem k46_28 : At 46 28 ls (.ref 39 :: st) I J Q ↔ At 46 31 ls (.int (I 39 4) :: st) I J Q := A_getI (ab_io ci46 (by decide +kernel)) ow46 fq2_25_39
theorem k46_31 : At 46 31 ls st I J Q ↔ At 46 32 ls (.int (nI 1) :: st) I J Q := A_iconst (ab_io ci46 (by decide +kernel)) ic_1
theorem k46_32 : At 46 32 ls (.int x1 :: .int x :: st) I J Q ↔ At 46 33 ls (.int (x - x1) :: st) I J Q := A_isub (ab_io ci46 (by decide +kernel))
theorem k46_33 : At 46 33 ls (.int x :: .ref r :: st) I J Q ↔ ((ab_ly r).1 = 1 ∧ r < 75 ∧ 0 ≤ x.toInt ∧ x.toInt < (ab_ly r).2) ∧ At 46 34 ls (.int (I r x.toNatClampNeg) :: st) I J Q := A_iaload (ab_io ci46 (by decide +kernel))
theorem k46_34 : At 46 34 ls st I J Q ↔ At 46 35 ls (.int (nI 1) :: st) I J Q := A_iconst (ab_io ci46 (by decide +kernel)) ic_1
theorem k46_35 : At 46 35 ls (.int x1 :: .int x :: st) I J Q ↔ At 46 36 ls (.int (x + x1) :: st) I J Q := A_iadd (ab_io ci46 (by decide +kernel))
theorem k46_36 : At 46 36 [a0, a1, a2, a3] (.int x :: st) I J Q ↔ At 46 37 [a0, ab_nv a1, some (.int x), a3] st I J Q := A_istore_n (q := 2) (ab_io ci46 (by decide +kernel)) (Nat.le_of_ble_eq_true rfl) rfl
theorem k46_37 : At 46 37 [a0, some (.int x), a2, a3] st I J Q ↔ At 46 38 [a0, some (.int x), a2, a3] (.int x :: st) I J Q := A_iload_n (q := 1) (ab_io ci46 (by decide +kernel)) rfl
theorem k46_38 : At 46 38 [a0, a1, some (.int x), a3] st I J Q ↔ At 46 39 [a0, a1, some (.int x), a3] (.int x :: st) I J Q := A_iload_n (q := 2) (ab_io ci46 (by decide +kernel)) rfl
theorem k46_39 : At 46 39 ls (.int x1 :: .int x :: st) I J Q ↔ if x < x1 then At 46 57 ls st I J Q else At 46 42 ls st I J Q := A_if_icmp_lt (o := 18) (ab_io ci46 (by decide +kernel)) (by decide)
theorem k46_42 : At 46 42 [a0, some (.int x), a2, a3] st I J Q ↔ At 46 43 [a0, some (.int x), a2, a3] (.int x :: st) I J Q := A_iload_n (q := 1) (ab_io ci46 (by decide +kernel)) rfl
theorem k46_43 : At 46 43 ls st I J Q ↔ At 46 45 ls (.int (nI 6) :: st) I J Q := A_bipush (ab_io ci46 (by decide +kernel)) bc_6
theorem k46_45 : At 46 45 ls (.int x1 :: .int x :: st) I J Q ↔ if x1 ≤ x then At 46 57 ls st I J Q else At 46 48 ls st I J Q := A_if_icmp_ge (o := 12) (ab_io ci46 (by decide +kernel)) (by decide)
theorem k46_48 : At 46 48 [some (.ref r), a1, a2, a3] st I J Q ↔ At 46 49 [some (.ref r), a1, a2, a3] (.ref r :: st) I J Q := A_aload_n (q := 0) (ab_io ci46 (by decide +kernel)) rfl
theorem k46_49 : At 46 49 ls (.ref 39 :: st) I J Q ↔ At 46 52 ls (.int (I 39 4) :: st) I J Q := A_getI (ab_io ci46 (by decide +kernel)) ow46 fq2_25_39
theorem k46_52 : At 46 52 ls st I J Q ↔ At 46 54 ls (.int (nI 6) :: st) I J Q := A_bipush (ab_io ci46 (by decide +kernel)) bc_6
theorem k46_54 : At 46 54 ls (.int x1 :: .int x :: st) I J Q ↔ if x < x1 then At 46 66 ls st I J Q else At 46 57 ls st I J Q := A_if_icmp_lt (o := 12) (ab_io ci46 (by decide +kernel)) (by decide)
theorem k46_57 : At 46 57 [some (.ref r), a1, a2, a3] st I J Q ↔ At 46 58 [some (.ref r), a1, a2, a3] (.ref r :: st) I J Q := A_aload_n (q := 0) (ab_io ci46 (by decide +kernel)) rfl
theorem k46_58 : At 46 58 [some (.ref r), a1, a2, a3] st I J Q ↔ At 46 59 [some (.ref r), a1, a2, a3] (.ref r :: st) I J Q := A_aload_n (q := 0) (ab_io ci46 (by decide +kernel)) rfl
theorem k46_59 : At 46 59 ls (.ref 39 :: st) I J Q ↔ At 46 62 ls (.int (I 39 5) :: st) I J Q := A_getI (ab_io ci46 (by decide +kernel)) ow46 fq2_28_39
theorem k46_62 : At 46 62 ls [.int p0, .ref 39] I J Q ↔ Cal 48 [.ref 39, .int p0] I J (fun v I' J' => At 46 65 ls (v.toList ++ []) I' J' Q) := A_cal (kd := 0) (j := 48) (na := 2) (ea := 2) (rk := 39) (by decide +kernel) rfl rfl rfl (Or.inr rfl) (Nat.le_of_ble_eq_true rfl)
theorem k46_65 : At 46 65 ls [.int x] I J Q ↔ (x = 0 ∨ x = 1) ∧ Q (some (.int x)) I J := A_zret (ab_io ci46 (by decide +kernel)) rt46
theorem k46_66 : At 46 66 [some (.ref r), a1, a2, a3] st I J Q ↔ At 46 67 [some (.ref r), a1, a2, a3] (.ref r :: st) I J Q := A_aload_n (q := 0) (ab_io ci46 (by decide +kernel)) rfl
theorem k46_67 : At 46 67 ls (.ref r :: st) I J Q ↔ At 46 68 ls (.ref r :: .ref r :: st) I J Q := A_dupA (ab_io ci46 (by decide +kernel))
theorem k46_68 : At 46 68 ls (.ref 39 :: st) I J Q ↔ At 46 71 ls (.int (I 39 5) :: st) I J Q := A_getI (ab_io ci46 (by decide +kernel)) ow46 fq2_28_39
theorem k46_71 : At 46 71 ls st I J Q ↔ At 46 72 ls (.int (nI 1) :: st) I J Q := A_iconst (ab_io ci46 (by decide +kernel)) ic_1
theorem k46_72 : At 46 72 ls (.int x1 :: .int x :: st) I J Q ↔ At 46 73 ls (.int (x + x1) :: st) I J Q := A_iadd (ab_io ci46 (by decide +kernel))
theorem k46_73 : At 46 73 ls (.int x :: .ref 39 :: st) I J Q ↔ At 46 76 ls st (va_up I 39 (va_up (I 39) 5 x)) J Q := A_putI (ab_io ci46 (by decide +kernel)) ow46 fq2_28_39
theorem k46_76 : At 46 76 [some (.ref r), a1, a2, a3] st I J Q ↔ At 46 77 [some (.ref r), a1, a2, a3] (.ref r :: st) I J Q := A_aload_n (q := 0) (ab_io ci46 (by decide +kernel)) rfl
theorem k46_77 : At 46 77 [some (.ref r), a1, a2, a3] st I J Q ↔ At 46 78 [some (.ref r), a1, a2, a3] (.ref r :: st) I J Q := A_aload_n (q := 0) (ab_io ci46 (by decide +kernel)) rfl
theorem k46_78 : At 46 78 ls (.ref 39 :: st) I J Q ↔ At 46 81 ls (.int (I 39 5) :: st) I J Q := A_getI (ab_io ci46 (by decide +kernel)) ow46 fq2_28_39
theorem k46_81 : At 46 81 ls [.int p0, .ref 39] I J Q ↔ Cal 50 [.ref 39, .int p0] I J (fun v I' J' => At 46 84 ls (v.toList ++ []) I' J' Q) := A_cal (kd := 0) (j := 44) (na := 2) (ea := 2) (rk := 39) (by decide +kernel) rfl rfl rfl (Or.inr rfl) (Nat.le_of_ble_eq_true rfl)
theorem k46_84 : At 46 84 ls st I J Q ↔ At 46 86 ls (.int (nI 61) :: st) I J Q := A_bipush (ab_io ci46 (by decide +kernel)) bc_61
theorem k46_86 : At 46 86 ls (.int x1 :: .int x :: st) I J Q ↔ if x = x1 then At 46 98 ls st I J Q else At 46 89 ls st I J Q := A_if_icmp_eq (o := 12) (ab_io ci46 (by decide +kernel)) (by decide)
theorem k46_89 : At 46 89 [some (.ref r), a1, a2, a3] st I J Q ↔ At 46 90 [some (.ref r), a1, a2, a3] (.ref r :: st) I J Q := A_aload_n (q := 0) (ab_io ci46 (by decide +kernel)) rfl
theorem k46_90 : At 46 90 [some (.ref r), a1, a2, a3] st I J Q ↔ At 46 91 [some (.ref r), a1, a2, a3] (.ref r :: st) I J Q := A_aload_n (q := 0) (ab_io ci46 (by decide +kernel)) rfl
theorem k46_91 : At 46 91 ls (.ref 39 :: st) I J Q ↔ At 46 94 ls (.int (I 39 5) :: st) I J Q := A_getI (ab_io ci46 (by decide +kernel)) ow46 fq2_28_39
theorem k46_94 : At 46 94 ls [.int p0, .ref 39] I J Q ↔ Cal 48 [.ref 39, .int p0] I J (fun v I' J' => At 46 97 ls (v.toList ++ []) I' J' Q) := A_cal (kd := 0) (j := 48) (na := 2) (ea := 2) (rk := 39) (by decide +kernel) rfl rfl rfl (Or.inr rfl) (Nat.le_of_ble_eq_true rfl)
theorem k46_97 : At 46 97 ls [.int x] I J Q ↔ (x = 0 ∨ x = 1) ∧ Q (some (.int x)) I J := A_zret (ab_io ci46 (by decide +kernel)) rt46
theorem k46_98 : At 46 98 [some (.ref r), a1, a2, a3] st I J Q ↔ At 46 99 [some (.ref r), a1, a2, a3] (.ref r :: st) I J Q := A_aload_n (q := 0) (ab_io ci46 (by decide +kernel)) rfl
theorem k46_99 : At 46 99 ls (.ref r :: st) I J Q ↔ At 46 100 ls (.ref r :: .ref r :: st) I J Q := A_dupA (ab_io ci46 (by decide +kernel))
theorem k46_100 : At 46 100 ls (.ref 39 :: st) I J Q ↔ At 46 103 ls (.int (I 39 5) :: st) I J Q := A_getI (ab_io ci46 (by decide +kernel)) ow46 fq2_28_39
theorem k46_103 : At 46 103 ls st I J Q ↔ At 46 104 ls (.int (nI 1) :: st) I J Q := A_iconst (ab_io ci46 (by decide +kernel)) ic_1
theorem k46_104 : At 46 104 ls (.int x1 :: .int x :: st) I J Q ↔ At 46 105 ls (.int (x + x1) :: st) I J Q := A_iadd (ab_io ci46 (by decide +kernel))
theorem k46_105 : At 46 105 ls (.int x :: .ref 39 :: st) I J Q ↔ At 46 108 ls st (va_up I 39 (va_up (I 39) 5 x)) J Q := A_putI (ab_io ci46 (by decide +kernel)) ow46 fq2_28_39
theorem k46_108 : At 46 108 [some (.ref r), a1, a2, a3] st I J Q ↔ At 46 109 [some (.ref r), a1, a2, a3] (.ref r :: st) I J Q := A_aload_n (q := 0) (ab_io ci46 (by decide +kernel)) rfl
theorem k46_109 : At 46 109 ls [.ref 39] I J Q ↔ Cal 47 [.ref 39] I J (fun v I' J' => At 46 112 ls (v.toList ++ []) I' J' Q) := A_cal (kd := 0) (j := 52) (na := 1) (ea := 1) (rk := 39) (by decide +kernel) rfl rfl rfl (Or.inr rfl) (Nat.le_of_ble_eq_true rfl)
theorem k46_112 : At 46 112 [a0, a1, a2, a3] (.int x :: st) I J Q ↔ At 46 113 [a0, a1, ab_nv a2, some (.int x)] st I J Q := A_istore_n (q := 3) (ab_io ci46 (by decide +kernel)) (Nat.le_of_ble_eq_true rfl) rfl
theorem k46_113 : At 46 113 [a0, a1, a2, some (.int x)] st I J Q ↔ At 46 114 [a0, a1, a2, some (.int x)] (.int x :: st) I J Q := A_iload_n (q := 3) (ab_io ci46 (by decide +kernel)) rfl
theorem k46_114 : At 46 114 ls (.int x :: st) I J Q ↔ if 0 ≤ x then At 46 119 ls st I J Q else At 46 117 ls st I J Q := A_ifCond_ge (o := 5) (ab_io ci46 (by decide +kernel)) (by decide)
theorem k46_117 : At 46 117 ls st I J Q ↔ At 46 118 ls (.int (nI 0) :: st) I J Q := A_iconst (ab_io ci46 (by decide +kernel)) ic_0
theorem k46_118 : At 46 118 ls [.int x] I J Q ↔ (x = 0 ∨ x = 1) ∧ Q (some (.int x)) I J := A_zret (ab_io ci46 (by decide +kernel)) rt46
theorem k46_119 : At 46 119 [some (.ref r), a1, a2, a3] st I J Q ↔ At 46 120 [some (.ref r), a1, a2, a3] (.ref r :: st) I J Q := A_aload_n (q := 0) (ab_io ci46 (by decide +kernel)) rfl
theorem k46_120 : At 46 120 ls (.ref 39 :: st) I J Q ↔ At 46 123 ls (.ref 41 :: st) I J Q := A_getR (ab_io ci46 (by decide +kernel)) ow46 fq2_15_39
theorem k46_123 : At 46 123 [some (.ref r), a1, a2, a3] st I J Q ↔ At 46 124 [some (.ref r), a1, a2, a3] (.ref r :: st) I J Q := A_aload_n (q := 0) (ab_io ci46 (by decide +kernel)) rfl
theorem k46_124 : At 46 124 ls (.ref 39 :: st) I J Q ↔ At 46 127 ls (.int (I 39 4) :: st) I J Q := A_getI (ab_io ci46 (by decide +kernel)) ow46 fq2_25_39
theorem k46_127 : At 46 127 [a0, some (.int x), a2, a3] st I J Q ↔ At 46 128 [a0, some (.int x), a2, a3] (.int x :: st) I J Q := A_iload_n (q := 1) (ab_io ci46 (by decide +kernel)) rfl
theorem k46_128 : At 46 128 ls (.int x1 :: .int x :: .ref r :: st) I J Q ↔ ((ab_ly r).1 = 1 ∧ r < 75 ∧ 0 ≤ x.toInt ∧ x.toInt < (ab_ly r).2) ∧ At 46 129 ls st (va_up I r (va_up (I r) x.toNatClampNeg x1)) J Q := A_iastore (ab_io ci46 (by decide +kernel))
theorem k46_129 : At 46 129 [some (.ref r), a1, a2, a3] st I J Q ↔ At 46 130 [some (.ref r), a1, a2, a3] (.ref r :: st) I J Q := A_aload_n (q := 0) (ab_io ci46 (by decide +kernel)) rfl
theorem k46_130 : At 46 130 ls (.ref 39 :: st) I J Q ↔ At 46 133 ls (.ref 42 :: st) I J Q := A_getR (ab_io ci46 (by decide +kernel)) ow46 fq2_18_39
theorem k46_133 : At 46 133 [some (.ref r), a1, a2, a3] st I J Q ↔ At 46 134 [some (.ref r), a1, a2, a3] (.ref r :: st) I J Q := A_aload_n (q := 0) (ab_io ci46 (by decide +kernel)) rfl
theorem k46_134 : At 46 134 ls (.ref 39 :: st) I J Q ↔ At 46 137 ls (.int (I 39 4) :: st) I J Q := A_getI (ab_io ci46 (by decide +kernel)) ow46 fq2_25_39
theorem k46_137 : At 46 137 [a0, a1, a2, some (.int x)] st I J Q ↔ At 46 138 [a0, a1, a2, some (.int x)] (.int x :: st) I J Q := A_iload_n (q := 3) (ab_io ci46 (by decide +kernel)) rfl
theorem k46_138 : At 46 138 ls (.int x1 :: .int x :: .ref r :: st) I J Q ↔ ((ab_ly r).1 = 1 ∧ r < 75 ∧ 0 ≤ x.toInt ∧ x.toInt < (ab_ly r).2) ∧ At 46 139 ls st (va_up I r (va_up (I r) x.toNatClampNeg x1)) J Q := A_iastore (ab_io ci46 (by decide +kernel))
theorem k46_139 : At 46 139 [some (.ref r), a1, a2, a3] st I J Q ↔ At 46 140 [some (.ref r), a1, a2, a3] (.ref r :: st) I J Q := A_aload_n (q := 0) (ab_io ci46 (by decide +kernel)) rfl
theorem k46_140 : At 46 140 ls (.ref r :: st) I J Q ↔ At 46 141 ls (.ref r :: .ref r :: st) I J Q := A_dupA (ab_io ci46 (by decide +kernel))
theorem k46_141 : At 46 141 ls (.ref 39 :: st) I J Q ↔ At 46 144 ls (.int (I 39 4) :: st) I J Q := A_getI (ab_io ci46 (by decide +kernel)) ow46 fq2_25_39
theorem k46_144 : At 46 144 ls st I J Q ↔ At 46 145 ls (.int (nI 1) :: st) I J Q := A_iconst (ab_io ci46 (by decide +kernel)) ic_1
theorem k46_145 : At 46 145 ls (.int x1 :: .int x :: st) I J Q ↔ At 46 146 ls (.int (x + x1) :: st) I J Q := A_iadd (ab_io ci46 (by decide +kernel))
theorem k46_146 : At 46 146 ls (.int x :: .ref 39 :: st) I J Q ↔ At 46 149 ls st (va_up I 39 (va_up (I 39) 4 x)) J Q := A_putI (ab_io ci46 (by decide +kernel)) ow46 fq2_25_39
theorem k46_149 : At 46 149 [some (.ref r), a1, a2, a3] st I J Q ↔ At 46 150 [some (.ref r), a1, a2, a3] (.ref r :: st) I J Q := A_aload_n (q := 0) (ab_io ci46 (by decide +kernel)) rfl
theorem k46_150 : At 46 150 ls (.ref 39 :: st) I J Q ↔ At 46 153 ls (.int (I 39 5) :: st) I J Q := A_getI (ab_io ci46 (by decide +kernel)) ow46 fq2_28_39
theorem k46_153 : At 46 153 [some (.ref r), a1, a2, a3] st I J Q ↔ At 46 154 [some (.ref r), a1, a2, a3] (.ref r :: st) I J Q := A_aload_n (q := 0) (ab_io ci46 (by decide +kernel)) rfl
theorem k46_154 : At 46 154 ls (.ref 39 :: st) I J Q ↔ At 46 157 ls (.int (I 39 3) :: st) I J Q := A_getI (ab_io ci46 (by decide +kernel)) ow46 fq2_21_39
theorem k46_157 : At 46 157 ls (.int x1 :: .int x :: st) I J Q ↔ if ¬ x = x1 then At 46 162 ls st I J Q else At 46 160 ls st I J Q := A_if_icmp_ne (o := 5) (ab_io ci46 (by decide +kernel)) (by decide)
theorem k46_160 : At 46 160 ls st I J Q ↔ At 46 161 ls (.int (nI 0) :: st) I J Q := A_iconst (ab_io ci46 (by decide +kernel)) ic_0
theorem k46_161 : At 46 161 ls [.int x] I J Q ↔ (x = 0 ∨ x = 1) ∧ Q (some (.int x)) I J := A_zret (ab_io ci46 (by decide +kernel)) rt46
theorem k46_162 : At 46 162 [some (.ref r), a1, a2, a3] st I J Q ↔ At 46 163 [some (.ref r), a1, a2, a3] (.ref r :: st) I J Q := A_aload_n (q := 0) (ab_io ci46 (by decide +kernel)) rfl
theorem k46_163 : At 46 163 [some (.ref r), a1, a2, a3] st I J Q ↔ At 46 164 [some (.ref r), a1, a2, a3] (.ref r :: st) I J Q := A_aload_n (q := 0) (ab_io ci46 (by decide +kernel)) rfl
theorem k46_164 : At 46 164 ls (.ref 39 :: st) I J Q ↔ At 46 167 ls (.int (I 39 5) :: st) I J Q := A_getI (ab_io ci46 (by decide +kernel)) ow46 fq2_28_39
theorem k46_167 : At 46 167 ls [.int p0, .ref 39] I J Q ↔ Cal 50 [.ref 39, .int p0] I J (fun v I' J' => At 46 170 ls (v.toList ++ []) I' J' Q) := A_cal (kd := 0) (j := 44) (na := 2) (ea := 2) (rk := 39) (by decide +kernel) rfl rfl rfl (Or.inr rfl) (Nat.le_of_ble_eq_true rfl)
theorem k46_170 : At 46 170 ls st I J Q ↔ At 46 172 ls (.int (nI 59) :: st) I J Q := A_bipush (ab_io ci46 (by decide +kernel)) bc_59
theorem k46_172 : At 46 172 ls (.int x1 :: .int x :: st) I J Q ↔ if x = x1 then At 46 184 ls st I J Q else At 46 175 ls st I J Q := A_if_icmp_eq (o := 12) (ab_io ci46 (by decide +kernel)) (by decide)
theorem k46_175 : At 46 175 [some (.ref r), a1, a2, a3] st I J Q ↔ At 46 176 [some (.ref r), a1, a2, a3] (.ref r :: st) I J Q := A_aload_n (q := 0) (ab_io ci46 (by decide +kernel)) rfl
theorem k46_176 : At 46 176 [some (.ref r), a1, a2, a3] st I J Q ↔ At 46 177 [some (.ref r), a1, a2, a3] (.ref r :: st) I J Q := A_aload_n (q := 0) (ab_io ci46 (by decide +kernel)) rfl
theorem k46_177 : At 46 177 ls (.ref 39 :: st) I J Q ↔ At 46 180 ls (.int (I 39 5) :: st) I J Q := A_getI (ab_io ci46 (by decide +kernel)) ow46 fq2_28_39
theorem k46_180 : At 46 180 ls [.int p0, .ref 39] I J Q ↔ Cal 48 [.ref 39, .int p0] I J (fun v I' J' => At 46 183 ls (v.toList ++ []) I' J' Q) := A_cal (kd := 0) (j := 48) (na := 2) (ea := 2) (rk := 39) (by decide +kernel) rfl rfl rfl (Or.inr rfl) (Nat.le_of_ble_eq_true rfl)
theorem k46_183 : At 46 183 ls [.int x] I J Q ↔ (x = 0 ∨ x = 1) ∧ Q (some (.int x)) I J := A_zret (ab_io ci46 (by decide +kernel)) rt46
theorem k46_184 : At 46 184 [some (.ref r), a1, a2, a3] st I J Q ↔ At 46 185 [some (.ref r), a1, a2, a3] (.ref r :: st) I J Q := A_aload_n (q := 0) (ab_io ci46 (by decide +kernel)) rfl
theorem k46_185 : At 46 185 ls (.ref r :: st) I J Q ↔ At 46 186 ls (.ref r :: .ref r :: st) I J Q := A_dupA (ab_io ci46 (by decide +kernel))
theorem k46_186 : At 46 186 ls (.ref 39 :: st) I J Q ↔ At 46 189 ls (.int (I 39 5) :: st) I J Q := A_getI (ab_io ci46 (by decide +kernel)) ow46 fq2_28_39
theorem k46_189 : At 46 189 ls st I J Q ↔ At 46 190 ls (.int (nI 1) :: st) I J Q := A_iconst (ab_io ci46 (by decide +kernel)) ic_1
theorem k46_190 : At 46 190 ls (.int x1 :: .int x :: st) I J Q ↔ At 46 191 ls (.int (x + x1) :: st) I J Q := A_iadd (ab_io ci46 (by decide +kernel))
theorem k46_191 : At 46 191 ls (.int x :: .ref 39 :: st) I J Q ↔ At 46 194 ls st (va_up I 39 (va_up (I 39) 5 x)) J Q := A_putI (ab_io ci46 (by decide +kernel)) ow46 fq2_28_39
theorem k46_194 : At 46 194 ls st I J Q ↔ At 46 195 ls (.int (nI 1) :: st) I J Q := A_iconst (ab_io ci46 (by decide +kernel)) ic_1
theorem k46_195 : At 46 195 ls [.int x] I J Q ↔ (x = 0 ∨ x = 1) ∧ Q (some (.int x)) I J := A_zret (ab_io ci46 (by decide +kernel)) rt46
theorem k47_0 : At 47 0 [some (.ref r), a1, a2, a3] st I J Q ↔ At 47 1 [some (.ref r), a1, a2, a3] (.ref r :: st) I J Q := A_aload_n (q := 0) (ab_io ci47 (by decide +kernel)) rfl
theorem k47_1 : At 47 1 ls (.ref 39 :: st) I J Q ↔ At 47 4 ls (.int (I 39 5) :: st) I J Q := A_getI (ab_io ci47 (by decide +kernel)) ow47 fq2_28_39
theorem k47_4 : At 47 4 [a0, a1, a2, a3] (.int x :: st) I J Q ↔ At 47 5 [ab_nv a0, some (.int x), a2, a3] st I J Q := A_istore_n (q := 1) (ab_io ci47 (by decide +kernel)) (Nat.le_of_ble_eq_true rfl) rfl
theorem k47_5 : At 47 5 ls st I J Q ↔ At 47 6 ls (.int (nI 0) :: st) I J Q := A_iconst (ab_io ci47 (by decide +kernel)) ic_0
theorem k47_6 : At 47 6 [a0, a1, a2, a3] (.int x :: st) I J Q ↔ At 47 7 [a0, ab_nv a1, some (.int x), a3] st I J Q := A_istore_n (q := 2) (ab_io ci47 (by decide +kernel)) (Nat.le_of_ble_eq_true rfl) rfl
theorem k47_7 : At 47 7 ls st I J Q ↔ At 47 8 ls (.int (nI 0) :: st) I J Q := A_iconst (ab_io ci47 (by decide +kernel)) ic_0
theorem k47_8 : At 47 8 [a0, a1, a2, a3] (.int x :: st) I J Q ↔ At 47 9 [a0, a1, ab_nv a2, some (.int x)] st I J Q := A_istore_n (q := 3) (ab_io ci47 (by decide +kernel)) (Nat.le_of_ble_eq_true rfl) rfl
theorem k47_9 : At 47 9 [a0, a1, a2, some (.int x)] st I J Q ↔ At 47 10 [a0, a1, a2, some (.int x)] (.int x :: st) I J Q := A_iload_n (q := 3) (ab_io ci47 (by decide +kernel)) rfl
theorem k47_10 : At 47 10 ls st I J Q ↔ At 47 11 ls (.int (nI 3) :: st) I J Q := A_iconst (ab_io ci47 (by decide +kernel)) ic_3
theorem k47_11 : At 47 11 ls (.int x1 :: .int x :: st) I J Q ↔ if x1 ≤ x then At 47 61 ls st I J Q else At 47 14 ls st I J Q := A_if_icmp_ge (o := 50) (ab_io ci47 (by decide +kernel)) (by decide)
theorem k47_14 : At 47 14 [some (.ref r), a1, a2, a3] st I J Q ↔ At 47 15 [some (.ref r), a1, a2, a3] (.ref r :: st) I J Q := A_aload_n (q := 0) (ab_io ci47 (by decide +kernel)) rfl
theorem k47_15 : At 47 15 [some (.ref r), a1, a2, a3] st I J Q ↔ At 47 16 [some (.ref r), a1, a2, a3] (.ref r :: st) I J Q := A_aload_n (q := 0) (ab_io ci47 (by decide +kernel)) rfl
theorem k47_16 : At 47 16 ls (.ref 39 :: st) I J Q ↔ At 47 19 ls (.int (I 39 5) :: st) I J Q := A_getI (ab_io ci47 (by decide +kernel)) ow47 fq2_28_39
theorem k47_19 : At 47 19 ls [.int p0, .ref 39] I J Q ↔ Cal 49 [.ref 39, .int p0] I J (fun v I' J' => At 47 22 ls (v.toList ++ []) I' J' Q) := A_cal (kd := 0) (j := 56) (na := 2) (ea := 2) (rk := 39) (by decide +kernel) rfl rfl rfl (Or.inr rfl) (Nat.le_of_ble_eq_true rfl)
theorem k47_22 : At 47 22 ls (.int x :: st) I J Q ↔ if x = 0 then At 47 61 ls st I J Q else At 47 25 ls st I J Q := A_ifCond_eq (o := 39) (ab_io ci47 (by decide +kernel)) (by decide)
theorem k47_25 : At 47 25 ls st I J Q ↔ At 47 27 ls (.int (nI 10) :: st) I J Q := A_bipush (ab_io ci47 (by decide +kernel)) bc_10
theorem k47_27 : At 47 27 [a0, a1, some (.int x), a3] st I J Q ↔ At 47 28 [a0, a1, some (.int x), a3] (.int x :: st) I J Q := A_iload_n (q := 2) (ab_io ci47 (by decide +kernel)) rfl
theorem k47_28 : At 47 28 ls (.int x1 :: .int x :: st) I J Q ↔ At 47 29 ls (.int (x * x1) :: st) I J Q := A_imul (ab_io ci47 (by decide +kernel))
theorem k47_29 : At 47 29 ls st I J Q ↔ At 47 31 ls (.int (nI 10) :: st) I J Q := A_bipush (ab_io ci47 (by decide +kernel)) bc_10
theorem k47_31 : At 47 31 [some (.ref r), a1, a2, a3] st I J Q ↔ At 47 32 [some (.ref r), a1, a2, a3] (.ref r :: st) I J Q := A_aload_n (q := 0) (ab_io ci47 (by decide +kernel)) rfl
theorem k47_32 : At 47 32 [some (.ref r), a1, a2, a3] st I J Q ↔ At 47 33 [some (.ref r), a1, a2, a3] (.ref r :: st) I J Q := A_aload_n (q := 0) (ab_io ci47 (by decide +kernel)) rfl
theorem k47_33 : At 47 33 ls (.ref 39 :: st) I J Q ↔ At 47 36 ls (.int (I 39 5) :: st) I J Q := A_getI (ab_io ci47 (by decide +kernel)) ow47 fq2_28_39
theorem k47_36 : At 47 36 ls [.int p0, .ref 39, .int q0, .int q1] I J Q ↔ Cal 50 [.ref 39, .int p0] I J (fun v I' J' => At 47 39 ls (v.toList ++ [.int q0, .int q1]) I' J' Q) := A_cal (kd := 0) (j := 44) (na := 2) (ea := 2) (rk := 39) (by decide +kernel) rfl rfl rfl (Or.inr rfl) (Nat.le_of_ble_eq_true rfl)
theorem k47_39 : At 47 39 ls st I J Q ↔ At 47 41 ls (.int (nI 48) :: st) I J Q := A_bipush (ab_io ci47 (by decide +kernel)) bc_48
theorem k47_41 : At 47 41 ls (.int x1 :: .int x :: st) I J Q ↔ At 47 42 ls (.int (x - x1) :: st) I J Q := A_isub (ab_io ci47 (by decide +kernel))
theorem k47_42 : At 47 42 ls (.int x1 :: .int x :: st) I J Q ↔ At 47 43 ls (.int (x * x1) :: st) I J Q := A_imul (ab_io ci47 (by decide +kernel))
theorem k47_43 : At 47 43 ls (.int x1 :: .int x :: st) I J Q ↔ At 47 44 ls (.int (x + x1) :: st) I J Q := A_iadd (ab_io ci47 (by decide +kernel))
theorem k47_44 : At 47 44 [a0, a1, a2, a3] (.int x :: st) I J Q ↔ At 47 45 [a0, ab_nv a1, some (.int x), a3] st I J Q := A_istore_n (q := 2) (ab_io ci47 (by decide +kernel)) (Nat.le_of_ble_eq_true rfl) rfl
theorem k47_45 : At 47 45 [some (.ref r), a1, a2, a3] st I J Q ↔ At 47 46 [some (.ref r), a1, a2, a3] (.ref r :: st) I J Q := A_aload_n (q := 0) (ab_io ci47 (by decide +kernel)) rfl
theorem k47_46 : At 47 46 ls (.ref r :: st) I J Q ↔ At 47 47 ls (.ref r :: .ref r :: st) I J Q := A_dupA (ab_io ci47 (by decide +kernel))
theorem k47_47 : At 47 47 ls (.ref 39 :: st) I J Q ↔ At 47 50 ls (.int (I 39 5) :: st) I J Q := A_getI (ab_io ci47 (by decide +kernel)) ow47 fq2_28_39
theorem k47_50 : At 47 50 ls st I J Q ↔ At 47 51 ls (.int (nI 1) :: st) I J Q := A_iconst (ab_io ci47 (by decide +kernel)) ic_1
theorem k47_51 : At 47 51 ls (.int x1 :: .int x :: st) I J Q ↔ At 47 52 ls (.int (x + x1) :: st) I J Q := A_iadd (ab_io ci47 (by decide +kernel))
theorem k47_52 : At 47 52 ls (.int x :: .ref 39 :: st) I J Q ↔ At 47 55 ls st (va_up I 39 (va_up (I 39) 5 x)) J Q := A_putI (ab_io ci47 (by decide +kernel)) ow47 fq2_28_39
theorem k47_55 : At 47 55 [a0, a1, a2, some (.int x)] st I J Q ↔ At 47 58 [a0, a1, ab_nv a2, some (.int (x + (nI 1)))] st I J Q := A_iinc (q := 3) (ab_io ci47 (by decide +kernel)) ic_1 (Nat.le_of_ble_eq_true rfl) rfl rfl
theorem k47_58 : At 47 58 ls st I J Q ↔ At 47 9 ls st I J Q := A_goto (o := (-49)) (ab_io ci47 (by decide +kernel)) (by decide)
theorem k47_61 : At 47 61 [some (.ref r), a1, a2, a3] st I J Q ↔ At 47 62 [some (.ref r), a1, a2, a3] (.ref r :: st) I J Q := A_aload_n (q := 0) (ab_io ci47 (by decide +kernel)) rfl
theorem k47_62 : At 47 62 ls (.ref 39 :: st) I J Q ↔ At 47 65 ls (.int (I 39 5) :: st) I J Q := A_getI (ab_io ci47 (by decide +kernel)) ow47 fq2_28_39
theorem k47_65 : At 47 65 [a0, some (.int x), a2, a3] st I J Q ↔ At 47 66 [a0, some (.int x), a2, a3] (.int x :: st) I J Q := A_iload_n (q := 1) (ab_io ci47 (by decide +kernel)) rfl
theorem k47_66 : At 47 66 ls (.int x1 :: .int x :: st) I J Q ↔ if ¬ x = x1 then At 47 80 ls st I J Q else At 47 69 ls st I J Q := A_if_icmp_ne (o := 14) (ab_io ci47 (by decide +kernel)) (by decide)
theorem k47_69 : At 47 69 [some (.ref r), a1, a2, a3] st I J Q ↔ At 47 70 [some (.ref r), a1, a2, a3] (.ref r :: st) I J Q := A_aload_n (q := 0) (ab_io ci47 (by decide +kernel)) rfl
theorem k47_70 : At 47 70 [some (.ref r), a1, a2, a3] st I J Q ↔ At 47 71 [some (.ref r), a1, a2, a3] (.ref r :: st) I J Q := A_aload_n (q := 0) (ab_io ci47 (by decide +kernel)) rfl
theorem k47_71 : At 47 71 ls (.ref 39 :: st) I J Q ↔ At 47 74 ls (.int (I 39 5) :: st) I J Q := A_getI (ab_io ci47 (by decide +kernel)) ow47 fq2_28_39
theorem k47_74 : At 47 74 ls [.int p0, .ref 39] I J Q ↔ Cal 48 [.ref 39, .int p0] I J (fun v I' J' => At 47 77 ls (v.toList ++ []) I' J' Q) := A_cal (kd := 0) (j := 48) (na := 2) (ea := 2) (rk := 39) (by decide +kernel) rfl rfl rfl (Or.inr rfl) (Nat.le_of_ble_eq_true rfl)
theorem k47_77 : At 47 77 ls (.int x :: st) I J Q ↔ At 47 78 ls st I J Q := A_popI (ab_io ci47 (by decide +kernel))
theorem k47_78 : At 47 78 ls st I J Q ↔ At 47 79 ls (.int (-1) :: st) I J Q := A_iconst (ab_io ci47 (by decide +kernel)) ic_m1
theorem k47_79 : At 47 79 ls [.int x] I J Q ↔ Q (some (.int x)) I J := A_iret (ab_io ci47 (by decide +kernel)) rt47
theorem k47_80 : At 47 80 [some (.ref r), a1, a2, a3] st I J Q ↔ At 47 81 [some (.ref r), a1, a2, a3] (.ref r :: st) I J Q := A_aload_n (q := 0) (ab_io ci47 (by decide +kernel)) rfl
theorem k47_81 : At 47 81 [some (.ref r), a1, a2, a3] st I J Q ↔ At 47 82 [some (.ref r), a1, a2, a3] (.ref r :: st) I J Q := A_aload_n (q := 0) (ab_io ci47 (by decide +kernel)) rfl
theorem k47_82 : At 47 82 ls (.ref 39 :: st) I J Q ↔ At 47 85 ls (.int (I 39 5) :: st) I J Q := A_getI (ab_io ci47 (by decide +kernel)) ow47 fq2_28_39
theorem k47_85 : At 47 85 ls [.int p0, .ref 39] I J Q ↔ Cal 50 [.ref 39, .int p0] I J (fun v I' J' => At 47 88 ls (v.toList ++ []) I' J' Q) := A_cal (kd := 0) (j := 44) (na := 2) (ea := 2) (rk := 39) (by decide +kernel) rfl rfl rfl (Or.inr rfl) (Nat.le_of_ble_eq_true rfl)
theorem k47_88 : At 47 88 ls st I J Q ↔ At 47 90 ls (.int (nI 46) :: st) I J Q := A_bipush (ab_io ci47 (by decide +kernel)) bc_46
theorem k47_90 : At 47 90 ls (.int x1 :: .int x :: st) I J Q ↔ if ¬ x = x1 then At 47 149 ls st I J Q else At 47 93 ls st I J Q := A_if_icmp_ne (o := 59) (ab_io ci47 (by decide +kernel)) (by decide)
theorem k47_93 : At 47 93 [some (.ref r), a1, a2, a3] st I J Q ↔ At 47 94 [some (.ref r), a1, a2, a3] (.ref r :: st) I J Q := A_aload_n (q := 0) (ab_io ci47 (by decide +kernel)) rfl
theorem k47_94 : At 47 94 ls (.ref r :: st) I J Q ↔ At 47 95 ls (.ref r :: .ref r :: st) I J Q := A_dupA (ab_io ci47 (by decide +kernel))
theorem k47_95 : At 47 95 ls (.ref 39 :: st) I J Q ↔ At 47 98 ls (.int (I 39 5) :: st) I J Q := A_getI (ab_io ci47 (by decide +kernel)) ow47 fq2_28_39
theorem k47_98 : At 47 98 ls st I J Q ↔ At 47 99 ls (.int (nI 1) :: st) I J Q := A_iconst (ab_io ci47 (by decide +kernel)) ic_1
theorem k47_99 : At 47 99 ls (.int x1 :: .int x :: st) I J Q ↔ At 47 100 ls (.int (x + x1) :: st) I J Q := A_iadd (ab_io ci47 (by decide +kernel))
theorem k47_100 : At 47 100 ls (.int x :: .ref 39 :: st) I J Q ↔ At 47 103 ls st (va_up I 39 (va_up (I 39) 5 x)) J Q := A_putI (ab_io ci47 (by decide +kernel)) ow47 fq2_28_39
theorem k47_103 : At 47 103 [some (.ref r), a1, a2, a3] st I J Q ↔ At 47 104 [some (.ref r), a1, a2, a3] (.ref r :: st) I J Q := A_aload_n (q := 0) (ab_io ci47 (by decide +kernel)) rfl
theorem k47_104 : At 47 104 [some (.ref r), a1, a2, a3] st I J Q ↔ At 47 105 [some (.ref r), a1, a2, a3] (.ref r :: st) I J Q := A_aload_n (q := 0) (ab_io ci47 (by decide +kernel)) rfl
theorem k47_105 : At 47 105 ls (.ref 39 :: st) I J Q ↔ At 47 108 ls (.int (I 39 5) :: st) I J Q := A_getI (ab_io ci47 (by decide +kernel)) ow47 fq2_28_39
theorem k47_108 : At 47 108 ls [.int p0, .ref 39] I J Q ↔ Cal 49 [.ref 39, .int p0] I J (fun v I' J' => At 47 111 ls (v.toList ++ []) I' J' Q) := A_cal (kd := 0) (j := 56) (na := 2) (ea := 2) (rk := 39) (by decide +kernel) rfl rfl rfl (Or.inr rfl) (Nat.le_of_ble_eq_true rfl)
theorem k47_111 : At 47 111 ls (.int x :: st) I J Q ↔ if ¬ x = 0 then At 47 125 ls st I J Q else At 47 114 ls st I J Q := A_ifCond_ne (o := 14) (ab_io ci47 (by decide +kernel)) (by decide)
theorem k47_114 : At 47 114 [some (.ref r), a1, a2, a3] st I J Q ↔ At 47 115 [some (.ref r), a1, a2, a3] (.ref r :: st) I J Q := A_aload_n (q := 0) (ab_io ci47 (by decide +kernel)) rfl
theorem k47_115 : At 47 115 [some (.ref r), a1, a2, a3] st I J Q ↔ At 47 116 [some (.ref r), a1, a2, a3] (.ref r :: st) I J Q := A_aload_n (q := 0) (ab_io ci47 (by decide +kernel)) rfl
theorem k47_116 : At 47 116 ls (.ref 39 :: st) I J Q ↔ At 47 119 ls (.int (I 39 5) :: st) I J Q := A_getI (ab_io ci47 (by decide +kernel)) ow47 fq2_28_39
theorem k47_119 : At 47 119 ls [.int p0, .ref 39] I J Q ↔ Cal 48 [.ref 39, .int p0] I J (fun v I' J' => At 47 122 ls (v.toList ++ []) I' J' Q) := A_cal (kd := 0) (j := 48) (na := 2) (ea := 2) (rk := 39) (by decide +kernel) rfl rfl rfl (Or.inr rfl) (Nat.le_of_ble_eq_true rfl)
theorem k47_122 : At 47 122 ls (.int x :: st) I J Q ↔ At 47 123 ls st I J Q := A_popI (ab_io ci47 (by decide +kernel))
theorem k47_123 : At 47 123 ls st I J Q ↔ At 47 124 ls (.int (-1) :: st) I J Q := A_iconst (ab_io ci47 (by decide +kernel)) ic_m1
theorem k47_124 : At 47 124 ls [.int x] I J Q ↔ Q (some (.int x)) I J := A_iret (ab_io ci47 (by decide +kernel)) rt47
theorem k47_125 : At 47 125 [a0, a1, some (.int x), a3] st I J Q ↔ At 47 126 [a0, a1, some (.int x), a3] (.int x :: st) I J Q := A_iload_n (q := 2) (ab_io ci47 (by decide +kernel)) rfl
theorem k47_126 : At 47 126 [some (.ref r), a1, a2, a3] st I J Q ↔ At 47 127 [some (.ref r), a1, a2, a3] (.ref r :: st) I J Q := A_aload_n (q := 0) (ab_io ci47 (by decide +kernel)) rfl
theorem k47_127 : At 47 127 [some (.ref r), a1, a2, a3] st I J Q ↔ At 47 128 [some (.ref r), a1, a2, a3] (.ref r :: st) I J Q := A_aload_n (q := 0) (ab_io ci47 (by decide +kernel)) rfl
theorem k47_128 : At 47 128 ls (.ref 39 :: st) I J Q ↔ At 47 131 ls (.int (I 39 5) :: st) I J Q := A_getI (ab_io ci47 (by decide +kernel)) ow47 fq2_28_39
theorem k47_131 : At 47 131 ls [.int p0, .ref 39, .int q0] I J Q ↔ Cal 50 [.ref 39, .int p0] I J (fun v I' J' => At 47 134 ls (v.toList ++ [.int q0]) I' J' Q) := A_cal (kd := 0) (j := 44) (na := 2) (ea := 2) (rk := 39) (by decide +kernel) rfl rfl rfl (Or.inr rfl) (Nat.le_of_ble_eq_true rfl)
theorem k47_134 : At 47 134 ls st I J Q ↔ At 47 136 ls (.int (nI 48) :: st) I J Q := A_bipush (ab_io ci47 (by decide +kernel)) bc_48
theorem k47_136 : At 47 136 ls (.int x1 :: .int x :: st) I J Q ↔ At 47 137 ls (.int (x - x1) :: st) I J Q := A_isub (ab_io ci47 (by decide +kernel))
theorem k47_137 : At 47 137 ls (.int x1 :: .int x :: st) I J Q ↔ At 47 138 ls (.int (x + x1) :: st) I J Q := A_iadd (ab_io ci47 (by decide +kernel))
theorem k47_138 : At 47 138 [a0, a1, a2, a3] (.int x :: st) I J Q ↔ At 47 139 [a0, ab_nv a1, some (.int x), a3] st I J Q := A_istore_n (q := 2) (ab_io ci47 (by decide +kernel)) (Nat.le_of_ble_eq_true rfl) rfl
theorem k47_139 : At 47 139 [some (.ref r), a1, a2, a3] st I J Q ↔ At 47 140 [some (.ref r), a1, a2, a3] (.ref r :: st) I J Q := A_aload_n (q := 0) (ab_io ci47 (by decide +kernel)) rfl
theorem k47_140 : At 47 140 ls (.ref r :: st) I J Q ↔ At 47 141 ls (.ref r :: .ref r :: st) I J Q := A_dupA (ab_io ci47 (by decide +kernel))
theorem k47_141 : At 47 141 ls (.ref 39 :: st) I J Q ↔ At 47 144 ls (.int (I 39 5) :: st) I J Q := A_getI (ab_io ci47 (by decide +kernel)) ow47 fq2_28_39
theorem k47_144 : At 47 144 ls st I J Q ↔ At 47 145 ls (.int (nI 1) :: st) I J Q := A_iconst (ab_io ci47 (by decide +kernel)) ic_1
theorem k47_145 : At 47 145 ls (.int x1 :: .int x :: st) I J Q ↔ At 47 146 ls (.int (x + x1) :: st) I J Q := A_iadd (ab_io ci47 (by decide +kernel))
theorem k47_146 : At 47 146 ls (.int x :: .ref 39 :: st) I J Q ↔ At 47 149 ls st (va_up I 39 (va_up (I 39) 5 x)) J Q := A_putI (ab_io ci47 (by decide +kernel)) ow47 fq2_28_39
theorem k47_149 : At 47 149 [a0, a1, some (.int x), a3] st I J Q ↔ At 47 150 [a0, a1, some (.int x), a3] (.int x :: st) I J Q := A_iload_n (q := 2) (ab_io ci47 (by decide +kernel)) rfl
theorem k47_150 : At 47 150 ls st I J Q ↔ At 47 153 ls (.int (nI 1000) :: st) I J Q := A_sipush (ab_io ci47 (by decide +kernel)) sc_1000
theorem k47_153 : At 47 153 ls (.int x1 :: .int x :: st) I J Q ↔ if x1 < x then At 47 178 ls st I J Q else At 47 156 ls st I J Q := A_if_icmp_gt (o := 25) (ab_io ci47 (by decide +kernel)) (by decide)
theorem k47_156 : At 47 156 [some (.ref r), a1, a2, a3] st I J Q ↔ At 47 157 [some (.ref r), a1, a2, a3] (.ref r :: st) I J Q := A_aload_n (q := 0) (ab_io ci47 (by decide +kernel)) rfl
theorem k47_157 : At 47 157 ls (.ref 39 :: st) I J Q ↔ At 47 160 ls (.int (I 39 4) :: st) I J Q := A_getI (ab_io ci47 (by decide +kernel)) ow47 fq2_25_39
theorem k47_160 : At 47 160 ls (.int x :: st) I J Q ↔ if x ≤ 0 then At 47 186 ls st I J Q else At 47 163 ls st I J Q := A_ifCond_le (o := 26) (ab_io ci47 (by decide +kernel)) (by decide)
theorem k47_163 : At 47 163 [a0, a1, some (.int x), a3] st I J Q ↔ At 47 164 [a0, a1, some (.int x), a3] (.int x :: st) I J Q := A_iload_n (q := 2) (ab_io ci47 (by decide +kernel)) rfl
theorem k47_164 : At 47 164 [some (.ref r), a1, a2, a3] st I J Q ↔ At 47 165 [some (.ref r), a1, a2, a3] (.ref r :: st) I J Q := A_aload_n (q := 0) (ab_io ci47 (by decide +kernel)) rfl
theorem k47_165 : At 47 165 ls (.ref 39 :: st) I J Q ↔ At 47 168 ls (.ref 42 :: st) I J Q := A_getR (ab_io ci47 (by decide +kernel)) ow47 fq2_18_39
theorem k47_168 : At 47 168 [some (.ref r), a1, a2, a3] st I J Q ↔ At 47 169 [some (.ref r), a1, a2, a3] (.ref r :: st) I J Q := A_aload_n (q := 0) (ab_io ci47 (by decide +kernel)) rfl
theorem k47_169 : At 47 169 ls (.ref 39 :: st) I J Q ↔ At 47 172 ls (.int (I 39 4) :: st) I J Q := A_getI (ab_io ci47 (by decide +kernel)) ow47 fq2_25_39
theorem k47_172 : At 47 172 ls st I J Q ↔ At 47 173 ls (.int (nI 1) :: st) I J Q := A_iconst (ab_io ci47 (by decide +kernel)) ic_1
theorem k47_173 : At 47 173 ls (.int x1 :: .int x :: st) I J Q ↔ At 47 174 ls (.int (x - x1) :: st) I J Q := A_isub (ab_io ci47 (by decide +kernel))
theorem k47_174 : At 47 174 ls (.int x :: .ref r :: st) I J Q ↔ ((ab_ly r).1 = 1 ∧ r < 75 ∧ 0 ≤ x.toInt ∧ x.toInt < (ab_ly r).2) ∧ At 47 175 ls (.int (I r x.toNatClampNeg) :: st) I J Q := A_iaload (ab_io ci47 (by decide +kernel))
theorem k47_175 : At 47 175 ls (.int x1 :: .int x :: st) I J Q ↔ if x < x1 then At 47 186 ls st I J Q else At 47 178 ls st I J Q := A_if_icmp_lt (o := 11) (ab_io ci47 (by decide +kernel)) (by decide)
theorem k47_178 : At 47 178 [some (.ref r), a1, a2, a3] st I J Q ↔ At 47 179 [some (.ref r), a1, a2, a3] (.ref r :: st) I J Q := A_aload_n (q := 0) (ab_io ci47 (by decide +kernel)) rfl
theorem k47_179 : At 47 179 [a0, some (.int x), a2, a3] st I J Q ↔ At 47 180 [a0, some (.int x), a2, a3] (.int x :: st) I J Q := A_iload_n (q := 1) (ab_io ci47 (by decide +kernel)) rfl
theorem k47_180 : At 47 180 ls [.int p0, .ref 39] I J Q ↔ Cal 48 [.ref 39, .int p0] I J (fun v I' J' => At 47 183 ls (v.toList ++ []) I' J' Q) := A_cal (kd := 0) (j := 48) (na := 2) (ea := 2) (rk := 39) (by decide +kernel) rfl rfl rfl (Or.inr rfl) (Nat.le_of_ble_eq_true rfl)
theorem k47_183 : At 47 183 ls (.int x :: st) I J Q ↔ At 47 184 ls st I J Q := A_popI (ab_io ci47 (by decide +kernel))
theorem k47_184 : At 47 184 ls st I J Q ↔ At 47 185 ls (.int (-1) :: st) I J Q := A_iconst (ab_io ci47 (by decide +kernel)) ic_m1
theorem k47_185 : At 47 185 ls [.int x] I J Q ↔ Q (some (.int x)) I J := A_iret (ab_io ci47 (by decide +kernel)) rt47
theorem k47_186 : At 47 186 [a0, a1, some (.int x), a3] st I J Q ↔ At 47 187 [a0, a1, some (.int x), a3] (.int x :: st) I J Q := A_iload_n (q := 2) (ab_io ci47 (by decide +kernel)) rfl
theorem k47_187 : At 47 187 ls [.int x] I J Q ↔ Q (some (.int x)) I J := A_iret (ab_io ci47 (by decide +kernel)) rt47
theorem k48_0 : At 48 0 [some (.ref r), a1] st I J Q ↔ At 48 1 [some (.ref r), a1] (.ref r :: st) I J Q := A_aload_n (q := 0) (ab_io ci48 (by decide +kernel)) rfl
theorem k48_1 : At 48 1 [a0, some (.int x)] st I J Q ↔ At 48 2 [a0, some (.int x)] (.int x :: st) I J Q := A_iload_n (q := 1) (ab_io ci48 (by decide +kernel)) rfl
theorem k48_2 : At 48 2 ls (.int x :: .ref 39 :: st) I J Q ↔ At 48 5 ls st (va_up I 39 (va_up (I 39) 6 x)) J Q := A_putI (ab_io ci48 (by decide +kernel)) ow48 fq2_31_39
theorem k48_5 : At 48 5 ls st I J Q ↔ At 48 6 ls (.int (nI 0) :: st) I J Q := A_iconst (ab_io ci48 (by decide +kernel)) ic_0
theorem k48_6 : At 48 6 ls [.int x] I J Q ↔ (x = 0 ∨ x = 1) ∧ Q (some (.int x)) I J := A_zret (ab_io ci48 (by decide +kernel)) rt48
theorem k49_0 : At 49 0 [some (.ref r), a1] st I J Q ↔ At 49 1 [some (.ref r), a1] (.ref r :: st) I J Q := A_aload_n (q := 0) (ab_io ci49 (by decide +kernel)) rfl
theorem k49_1 : At 49 1 [a0, some (.int x)] st I J Q ↔ At 49 2 [a0, some (.int x)] (.int x :: st) I J Q := A_iload_n (q := 1) (ab_io ci49 (by decide +kernel)) rfl
theorem k49_2 : At 49 2 ls [.int p0, .ref 39] I J Q ↔ Cal 50 [.ref 39, .int p0] I J (fun v I' J' => At 49 5 ls (v.toList ++ []) I' J' Q) := A_cal (kd := 0) (j := 44) (na := 2) (ea := 2) (rk := 39) (by decide +kernel) rfl rfl rfl (Or.inr rfl) (Nat.le_of_ble_eq_true rfl)
theorem k49_5 : At 49 5 ls st I J Q ↔ At 49 7 ls (.int (nI 48) :: st) I J Q := A_bipush (ab_io ci49 (by decide +kernel)) bc_48
theorem k49_7 : At 49 7 ls (.int x1 :: .int x :: st) I J Q ↔ if x < x1 then At 49 24 ls st I J Q else At 49 10 ls st I J Q := A_if_icmp_lt (o := 17) (ab_io ci49 (by decide +kernel)) (by decide)
theorem k49_10 : At 49 10 [some (.ref r), a1] st I J Q ↔ At 49 11 [some (.ref r), a1] (.ref r :: st) I J Q := A_aload_n (q := 0) (ab_io ci49 (by decide +kernel)) rfl
theorem k49_11 : At 49 11 [a0, some (.int x)] st I J Q ↔ At 49 12 [a0, some (.int x)] (.int x :: st) I J Q := A_iload_n (q := 1) (ab_io ci49 (by decide +kernel)) rfl
theorem k49_12 : At 49 12 ls [.int p0, .ref 39] I J Q ↔ Cal 50 [.ref 39, .int p0] I J (fun v I' J' => At 49 15 ls (v.toList ++ []) I' J' Q) := A_cal (kd := 0) (j := 44) (na := 2) (ea := 2) (rk := 39) (by decide +kernel) rfl rfl rfl (Or.inr rfl) (Nat.le_of_ble_eq_true rfl)
theorem k49_15 : At 49 15 ls st I J Q ↔ At 49 17 ls (.int (nI 57) :: st) I J Q := A_bipush (ab_io ci49 (by decide +kernel)) bc_57
theorem k49_17 : At 49 17 ls (.int x1 :: .int x :: st) I J Q ↔ if x1 < x then At 49 24 ls st I J Q else At 49 20 ls st I J Q := A_if_icmp_gt (o := 7) (ab_io ci49 (by decide +kernel)) (by decide)
theorem k49_20 : At 49 20 ls st I J Q ↔ At 49 21 ls (.int (nI 1) :: st) I J Q := A_iconst (ab_io ci49 (by decide +kernel)) ic_1
theorem k49_21 : At 49 21 ls st I J Q ↔ At 49 25 ls st I J Q := A_goto (o := 4) (ab_io ci49 (by decide +kernel)) (by decide)
theorem k49_24 : At 49 24 ls st I J Q ↔ At 49 25 ls (.int (nI 0) :: st) I J Q := A_iconst (ab_io ci49 (by decide +kernel)) ic_0
theorem k49_25 : At 49 25 ls [.int x] I J Q ↔ (x = 0 ∨ x = 1) ∧ Q (some (.int x)) I J := A_zret (ab_io ci49 (by decide +kernel)) rt49
theorem k50_0 : At 50 0 [a0, some (.int x)] st I J Q ↔ At 50 1 [a0, some (.int x)] (.int x :: st) I J Q := A_iload_n (q := 1) (ab_io ci50 (by decide +kernel)) rfl
theorem k50_1 : At 50 1 ls (.int x :: st) I J Q ↔ if x < 0 then At 50 21 ls st I J Q else At 50 4 ls st I J Q := A_ifCond_lt (o := 20) (ab_io ci50 (by decide +kernel)) (by decide)
theorem k50_4 : At 50 4 [a0, some (.int x)] st I J Q ↔ At 50 5 [a0, some (.int x)] (.int x :: st) I J Q := A_iload_n (q := 1) (ab_io ci50 (by decide +kernel)) rfl
theorem k50_5 : At 50 5 [some (.ref r), a1] st I J Q ↔ At 50 6 [some (.ref r), a1] (.ref r :: st) I J Q := A_aload_n (q := 0) (ab_io ci50 (by decide +kernel)) rfl
theorem k50_6 : At 50 6 ls (.ref 39 :: st) I J Q ↔ At 50 9 ls (.int (I 39 3) :: st) I J Q := A_getI (ab_io ci50 (by decide +kernel)) ow50 fq2_21_39
theorem k50_9 : At 50 9 ls (.int x1 :: .int x :: st) I J Q ↔ if x1 ≤ x then At 50 21 ls st I J Q else At 50 12 ls st I J Q := A_if_icmp_ge (o := 12) (ab_io ci50 (by decide +kernel)) (by decide)
theorem k50_12 : At 50 12 [some (.ref r), a1] st I J Q ↔ At 50 13 [some (.ref r), a1] (.ref r :: st) I J Q := A_aload_n (q := 0) (ab_io ci50 (by decide +kernel)) rfl
theorem k50_13 : At 50 13 ls (.ref 39 :: st) I J Q ↔ At 50 16 ls (.ref 40 :: st) I J Q := A_getR (ab_io ci50 (by decide +kernel)) ow50 fq2_11_39
theorem k50_16 : At 50 16 [a0, some (.int x)] st I J Q ↔ At 50 17 [a0, some (.int x)] (.int x :: st) I J Q := A_iload_n (q := 1) (ab_io ci50 (by decide +kernel)) rfl
theorem k50_17 : At 50 17 ls (.int x :: .ref r :: st) I J Q ↔ ((ab_ly r).1 = 1 ∧ r < 75 ∧ 0 ≤ x.toInt ∧ x.toInt < (ab_ly r).2) ∧ At 50 18 ls (.int (I r x.toNatClampNeg) :: st) I J Q := A_iaload (ab_io ci50 (by decide +kernel))
theorem k50_18 : At 50 18 ls st I J Q ↔ At 50 22 ls st I J Q := A_goto (o := 4) (ab_io ci50 (by decide +kernel)) (by decide)
theorem k50_21 : At 50 21 ls st I J Q ↔ At 50 22 ls (.int (-1) :: st) I J Q := A_iconst (ab_io ci50 (by decide +kernel)) ic_m1
theorem k50_22 : At 50 22 ls [.int x] I J Q ↔ Q (some (.int x)) I J := A_iret (ab_io ci50 (by decide +kernel)) rt50
theorem k51_0 : At 51 0 ls st I J Q ↔ At 51 1 ls (.int (nI 0) :: st) I J Q := A_iconst (ab_io ci51 (by decide +kernel)) ic_0
theorem k51_1 : At 51 1 [a0, a1, a2, a3, a4, a5, a6] (.int x :: st) I J Q ↔ At 51 3 [a0, a1, a2, a3, a4, ab_nv a5, some (.int x)] st I J Q := A_istore (q := 6) (ab_io ci51 (by decide +kernel)) (Nat.le_of_ble_eq_true rfl) rfl
theorem k51_3 : At 51 3 [a0, a1, a2, a3, a4, a5, some (.int x)] st I J Q ↔ At 51 5 [a0, a1, a2, a3, a4, a5, some (.int x)] (.int x :: st) I J Q := A_iload (q := 6) (ab_io ci51 (by decide +kernel)) rfl
theorem k51_5 : At 51 5 [some (.ref r), a1, a2, a3, a4, a5, a6] st I J Q ↔ At 51 6 [some (.ref r), a1, a2, a3, a4, a5, a6] (.ref r :: st) I J Q := A_aload_n (q := 0) (ab_io ci51 (by decide +kernel)) rfl
theorem k51_6 : At 51 6 ls (.ref 39 :: st) I J Q ↔ At 51 9 ls (.int (I 39 4) :: st) I J Q := A_getI (ab_io ci51 (by decide +kernel)) ow51 fq2_25_39
theorem k51_9 : At 51 9 ls (.int x1 :: .int x :: st) I J Q ↔ if x1 ≤ x then At 51 51 ls st I J Q else At 51 12 ls st I J Q := A_if_icmp_ge (o := 42) (ab_io ci51 (by decide +kernel)) (by decide)
theorem k51_12 : At 51 12 ls st I J Q ↔ At 51 15 ls (.long 10 :: st) I J Q := A_ldc2_w (j := 59) (q := 592) (ab_io ci51 (by decide +kernel)) ow51 (by decide +kernel)
theorem k51_15 : At 51 15 [a0, some (.long u), a2, a3, a4, a5, a6] st I J Q ↔ At 51 16 [a0, some (.long u), a2, a3, a4, a5, a6] (.long u :: st) I J Q := A_lload_n (q := 1) (ab_io ci51 (by decide +kernel)) rfl
theorem k51_16 : At 51 16 ls (.long u1 :: .long u :: st) I J Q ↔ At 51 17 ls (.long (u * u1) :: st) I J Q := A_lmul (ab_io ci51 (by decide +kernel))
theorem k51_17 : At 51 17 [a0, a1, a2, a3, a4, some (.int x), a6] st I J Q ↔ At 51 19 [a0, a1, a2, a3, a4, some (.int x), a6] (.int x :: st) I J Q := A_iload (q := 5) (ab_io ci51 (by decide +kernel)) rfl
theorem k51_19 : At 51 19 ls (.int x :: st) I J Q ↔ At 51 20 ls (.long x.toInt64 :: st) I J Q := A_i2l (ab_io ci51 (by decide +kernel))
theorem k51_20 : At 51 20 [a0, a1, a2, some (.long u), a4, a5, a6] st I J Q ↔ At 51 21 [a0, a1, a2, some (.long u), a4, a5, a6] (.long u :: st) I J Q := A_lload_n (q := 3) (ab_io ci51 (by decide +kernel)) rfl
theorem k51_21 : At 51 21 ls (.long u1 :: .long u :: st) I J Q ↔ At 51 22 ls (.long (u * u1) :: st) I J Q := A_lmul (ab_io ci51 (by decide +kernel))
theorem k51_22 : At 51 22 ls (.long u1 :: .long u :: st) I J Q ↔ At 51 23 ls (.long (u + u1) :: st) I J Q := A_ladd (ab_io ci51 (by decide +kernel))
theorem k51_23 : At 51 23 [some (.ref r), a1, a2, a3, a4, a5, a6] st I J Q ↔ At 51 24 [some (.ref r), a1, a2, a3, a4, a5, a6] (.ref r :: st) I J Q := A_aload_n (q := 0) (ab_io ci51 (by decide +kernel)) rfl
theorem k51_24 : At 51 24 ls (.ref 39 :: st) I J Q ↔ At 51 27 ls (.ref 42 :: st) I J Q := A_getR (ab_io ci51 (by decide +kernel)) ow51 fq2_18_39
theorem k51_27 : At 51 27 [a0, a1, a2, a3, a4, a5, some (.int x)] st I J Q ↔ At 51 29 [a0, a1, a2, a3, a4, a5, some (.int x)] (.int x :: st) I J Q := A_iload (q := 6) (ab_io ci51 (by decide +kernel)) rfl
theorem k51_29 : At 51 29 ls (.int x :: .ref r :: st) I J Q ↔ ((ab_ly r).1 = 1 ∧ r < 75 ∧ 0 ≤ x.toInt ∧ x.toInt < (ab_ly r).2) ∧ At 51 30 ls (.int (I r x.toNatClampNeg) :: st) I J Q := A_iaload (ab_io ci51 (by decide +kernel))
theorem k51_30 : At 51 30 ls (.int x :: st) I J Q ↔ At 51 31 ls (.long x.toInt64 :: st) I J Q := A_i2l (ab_io ci51 (by decide +kernel))
theorem k51_31 : At 51 31 [a0, a1, a2, some (.long u), a4, a5, a6] st I J Q ↔ At 51 32 [a0, a1, a2, some (.long u), a4, a5, a6] (.long u :: st) I J Q := A_lload_n (q := 3) (ab_io ci51 (by decide +kernel)) rfl
theorem k51_32 : At 51 32 ls (.long u1 :: .long u :: st) I J Q ↔ At 51 33 ls (.long (u * u1) :: st) I J Q := A_lmul (ab_io ci51 (by decide +kernel))
theorem k51_33 : At 51 33 ls (.long u1 :: .long u :: st) I J Q ↔ At 51 34 ls (.int (lg_cmp u u1) :: st) I J Q := A_lcmp (ab_io ci51 (by decide +kernel))
theorem k51_34 : At 51 34 ls (.int x :: st) I J Q ↔ if x < 0 then At 51 45 ls st I J Q else At 51 37 ls st I J Q := A_ifCond_lt (o := 11) (ab_io ci51 (by decide +kernel)) (by decide)
theorem k51_37 : At 51 37 [some (.ref r), a1, a2, a3, a4, a5, a6] st I J Q ↔ At 51 38 [some (.ref r), a1, a2, a3, a4, a5, a6] (.ref r :: st) I J Q := A_aload_n (q := 0) (ab_io ci51 (by decide +kernel)) rfl
theorem k51_38 : At 51 38 ls (.ref 39 :: st) I J Q ↔ At 51 41 ls (.ref 41 :: st) I J Q := A_getR (ab_io ci51 (by decide +kernel)) ow51 fq2_15_39
theorem k51_41 : At 51 41 [a0, a1, a2, a3, a4, a5, some (.int x)] st I J Q ↔ At 51 43 [a0, a1, a2, a3, a4, a5, some (.int x)] (.int x :: st) I J Q := A_iload (q := 6) (ab_io ci51 (by decide +kernel)) rfl
theorem k51_43 : At 51 43 ls (.int x :: .ref r :: st) I J Q ↔ ((ab_ly r).1 = 1 ∧ r < 75 ∧ 0 ≤ x.toInt ∧ x.toInt < (ab_ly r).2) ∧ At 51 44 ls (.int (I r x.toNatClampNeg) :: st) I J Q := A_iaload (ab_io ci51 (by decide +kernel))
theorem k51_44 : At 51 44 ls [.int x] I J Q ↔ Q (some (.int x)) I J := A_iret (ab_io ci51 (by decide +kernel)) rt51
theorem k51_45 : At 51 45 [a0, a1, a2, a3, a4, a5, some (.int x)] st I J Q ↔ At 51 48 [a0, a1, a2, a3, a4, ab_nv a5, some (.int (x + (nI 1)))] st I J Q := A_iinc (q := 6) (ab_io ci51 (by decide +kernel)) ic_1 (Nat.le_of_ble_eq_true rfl) rfl rfl
theorem k51_48 : At 51 48 ls st I J Q ↔ At 51 3 ls st I J Q := A_goto (o := (-45)) (ab_io ci51 (by decide +kernel)) (by decide)
theorem k51_51 : At 51 51 ls st I J Q ↔ At 51 53 ls (.int (nI 6) :: st) I J Q := A_bipush (ab_io ci51 (by decide +kernel)) bc_6
theorem k51_53 : At 51 53 ls [.int x] I J Q ↔ Q (some (.int x)) I J := A_iret (ab_io ci51 (by decide +kernel)) rt51
theorem k53_0 : At 53 0 [some (.ref r), a1] st I J Q ↔ At 53 1 [some (.ref r), a1] (.ref r :: st) I J Q := A_aload_n (q := 0) (ab_io ci53 (by decide +kernel)) rfl
theorem k53_1 : At 53 1 ls (.ref 43 :: st) I J Q ↔ At 53 4 ls (.ref 45 :: st) I J Q := A_getR (ab_io ci53 (by decide +kernel)) ow53 fq3_15_43
theorem k53_4 : At 53 4 [a0, some (.int x)] st I J Q ↔ At 53 5 [a0, some (.int x)] (.int x :: st) I J Q := A_iload_n (q := 1) (ab_io ci53 (by decide +kernel)) rfl
theorem k53_5 : At 53 5 ls (.int x :: .ref r :: st) I J Q ↔ ((ab_ly r).1 = 1 ∧ r < 75 ∧ 0 ≤ x.toInt ∧ x.toInt < (ab_ly r).2) ∧ At 53 6 ls (.int (I r x.toNatClampNeg) :: st) I J Q := A_iaload (ab_io ci53 (by decide +kernel))
theorem k53_6 : At 53 6 ls st I J Q ↔ At 53 7 ls (.int (-1) :: st) I J Q := A_iconst (ab_io ci53 (by decide +kernel)) ic_m1
theorem k53_7 : At 53 7 ls (.int x1 :: .int x :: st) I J Q ↔ if ¬ x = x1 then At 53 14 ls st I J Q else At 53 10 ls st I J Q := A_if_icmp_ne (o := 7) (ab_io ci53 (by decide +kernel)) (by decide)
theorem k53_10 : At 53 10 ls st I J Q ↔ At 53 11 ls (.int (nI 1) :: st) I J Q := A_iconst (ab_io ci53 (by decide +kernel)) ic_1
theorem k53_11 : At 53 11 ls st I J Q ↔ At 53 15 ls st I J Q := A_goto (o := 4) (ab_io ci53 (by decide +kernel)) (by decide)
theorem k53_14 : At 53 14 ls st I J Q ↔ At 53 15 ls (.int (nI 0) :: st) I J Q := A_iconst (ab_io ci53 (by decide +kernel)) ic_0
theorem k53_15 : At 53 15 ls [.int x] I J Q ↔ (x = 0 ∨ x = 1) ∧ Q (some (.int x)) I J := A_zret (ab_io ci53 (by decide +kernel)) rt53
theorem k54_0 : At 54 0 [some (.ref r), a1, a2, a3, a4] st I J Q ↔ At 54 1 [some (.ref r), a1, a2, a3, a4] (.ref r :: st) I J Q := A_aload_n (q := 0) (ab_io ci54 (by decide +kernel)) rfl
theorem k54_1 : At 54 1 ls (.ref 43 :: st) I J Q ↔ At 54 4 ls (.ref 45 :: st) I J Q := A_getR (ab_io ci54 (by decide +kernel)) ow54 fq3_15_43
theorem k54_4 : At 54 4 [a0, some (.int x), a2, a3, a4] st I J Q ↔ At 54 5 [a0, some (.int x), a2, a3, a4] (.int x :: st) I J Q := A_iload_n (q := 1) (ab_io ci54 (by decide +kernel)) rfl
theorem k54_5 : At 54 5 [a0, a1, some (.int x), a3, a4] st I J Q ↔ At 54 6 [a0, a1, some (.int x), a3, a4] (.int x :: st) I J Q := A_iload_n (q := 2) (ab_io ci54 (by decide +kernel)) rfl
theorem k54_6 : At 54 6 ls (.int x1 :: .int x :: .ref r :: st) I J Q ↔ ((ab_ly r).1 = 1 ∧ r < 75 ∧ 0 ≤ x.toInt ∧ x.toInt < (ab_ly r).2) ∧ At 54 7 ls st (va_up I r (va_up (I r) x.toNatClampNeg x1)) J Q := A_iastore (ab_io ci54 (by decide +kernel))
theorem k54_7 : At 54 7 [some (.ref r), a1, a2, a3, a4] st I J Q ↔ At 54 8 [some (.ref r), a1, a2, a3, a4] (.ref r :: st) I J Q := A_aload_n (q := 0) (ab_io ci54 (by decide +kernel)) rfl
theorem k54_8 : At 54 8 ls (.ref 43 :: st) I J Q ↔ At 54 11 ls (.ref 46 :: st) I J Q := A_getR (ab_io ci54 (by decide +kernel)) ow54 fq3_18_43
theorem k54_11 : At 54 11 [a0, some (.int x), a2, a3, a4] st I J Q ↔ At 54 12 [a0, some (.int x), a2, a3, a4] (.int x :: st) I J Q := A_iload_n (q := 1) (ab_io ci54 (by decide +kernel)) rfl
theorem k54_12 : At 54 12 [a0, a1, a2, some (.int x), a4] st I J Q ↔ At 54 13 [a0, a1, a2, some (.int x), a4] (.int x :: st) I J Q := A_iload_n (q := 3) (ab_io ci54 (by decide +kernel)) rfl
theorem k54_13 : At 54 13 ls (.int x1 :: .int x :: .ref r :: st) I J Q ↔ ((ab_ly r).1 = 1 ∧ r < 75 ∧ 0 ≤ x.toInt ∧ x.toInt < (ab_ly r).2) ∧ At 54 14 ls st (va_up I r (va_up (I r) x.toNatClampNeg x1)) J Q := A_iastore (ab_io ci54 (by decide +kernel))
theorem k54_14 : At 54 14 ls st I J Q ↔ At 54 15 ls (.int (nI 0) :: st) I J Q := A_iconst (ab_io ci54 (by decide +kernel)) ic_0
theorem k54_15 : At 54 15 [a0, a1, a2, a3, a4] (.int x :: st) I J Q ↔ At 54 17 [a0, a1, a2, ab_nv a3, some (.int x)] st I J Q := A_istore (q := 4) (ab_io ci54 (by decide +kernel)) (Nat.le_of_ble_eq_true rfl) rfl
theorem k54_17 : At 54 17 [a0, a1, a2, a3, some (.int x)] st I J Q ↔ At 54 19 [a0, a1, a2, a3, some (.int x)] (.int x :: st) I J Q := A_iload (q := 4) (ab_io ci54 (by decide +kernel)) rfl
theorem k54_19 : At 54 19 ls st I J Q ↔ At 54 21 ls (.int (nI 48) :: st) I J Q := A_bipush (ab_io ci54 (by decide +kernel)) bc_48
theorem k54_21 : At 54 21 ls (.int x1 :: .int x :: st) I J Q ↔ if x1 ≤ x then At 54 43 ls st I J Q else At 54 24 ls st I J Q := A_if_icmp_ge (o := 22) (ab_io ci54 (by decide +kernel)) (by decide)
theorem k54_24 : At 54 24 [some (.ref r), a1, a2, a3, a4] st I J Q ↔ At 54 25 [some (.ref r), a1, a2, a3, a4] (.ref r :: st) I J Q := A_aload_n (q := 0) (ab_io ci54 (by decide +kernel)) rfl
theorem k54_25 : At 54 25 ls (.ref 43 :: st) I J Q ↔ At 54 28 ls (.ref 44 :: st) I J Q := A_getR (ab_io ci54 (by decide +kernel)) ow54 fq3_11_43
theorem k54_28 : At 54 28 ls st I J Q ↔ At 54 30 ls (.int (nI 48) :: st) I J Q := A_bipush (ab_io ci54 (by decide +kernel)) bc_48
theorem k54_30 : At 54 30 [a0, some (.int x), a2, a3, a4] st I J Q ↔ At 54 31 [a0, some (.int x), a2, a3, a4] (.int x :: st) I J Q := A_iload_n (q := 1) (ab_io ci54 (by decide +kernel)) rfl
theorem k54_31 : At 54 31 ls (.int x1 :: .int x :: st) I J Q ↔ At 54 32 ls (.int (x * x1) :: st) I J Q := A_imul (ab_io ci54 (by decide +kernel))
theorem k54_32 : At 54 32 [a0, a1, a2, a3, some (.int x)] st I J Q ↔ At 54 34 [a0, a1, a2, a3, some (.int x)] (.int x :: st) I J Q := A_iload (q := 4) (ab_io ci54 (by decide +kernel)) rfl
theorem k54_34 : At 54 34 ls (.int x1 :: .int x :: st) I J Q ↔ At 54 35 ls (.int (x + x1) :: st) I J Q := A_iadd (ab_io ci54 (by decide +kernel))
theorem k54_35 : At 54 35 ls st I J Q ↔ At 54 36 ls (.int (nI 0) :: st) I J Q := A_iconst (ab_io ci54 (by decide +kernel)) ic_0
theorem k54_36 : At 54 36 ls (.int x1 :: .int x :: .ref r :: st) I J Q ↔ ((ab_ly r).1 = 1 ∧ r < 75 ∧ 0 ≤ x.toInt ∧ x.toInt < (ab_ly r).2) ∧ At 54 37 ls st (va_up I r (va_up (I r) x.toNatClampNeg x1)) J Q := A_iastore (ab_io ci54 (by decide +kernel))
theorem k54_37 : At 54 37 [a0, a1, a2, a3, some (.int x)] st I J Q ↔ At 54 40 [a0, a1, a2, ab_nv a3, some (.int (x + (nI 1)))] st I J Q := A_iinc (q := 4) (ab_io ci54 (by decide +kernel)) ic_1 (Nat.le_of_ble_eq_true rfl) rfl rfl
theorem k54_40 : At 54 40 ls st I J Q ↔ At 54 17 ls st I J Q := A_goto (o := (-23)) (ab_io ci54 (by decide +kernel)) (by decide)
theorem k54_43 : At 54 43 ls [] I J Q ↔ Q none I J := A_vret (ab_io ci54 (by decide +kernel)) rt54
theorem k55_0 : At 55 0 [some (.ref r), a1] st I J Q ↔ At 55 1 [some (.ref r), a1] (.ref r :: st) I J Q := A_aload_n (q := 0) (ab_io ci55 (by decide +kernel)) rfl
theorem k55_1 : At 55 1 ls (.ref 43 :: st) I J Q ↔ At 55 4 ls (.ref 45 :: st) I J Q := A_getR (ab_io ci55 (by decide +kernel)) ow55 fq3_15_43
theorem k55_4 : At 55 4 [a0, some (.int x)] st I J Q ↔ At 55 5 [a0, some (.int x)] (.int x :: st) I J Q := A_iload_n (q := 1) (ab_io ci55 (by decide +kernel)) rfl
theorem k55_5 : At 55 5 ls st I J Q ↔ At 55 6 ls (.int (-1) :: st) I J Q := A_iconst (ab_io ci55 (by decide +kernel)) ic_m1
theorem k55_6 : At 55 6 ls (.int x1 :: .int x :: .ref r :: st) I J Q ↔ ((ab_ly r).1 = 1 ∧ r < 75 ∧ 0 ≤ x.toInt ∧ x.toInt < (ab_ly r).2) ∧ At 55 7 ls st (va_up I r (va_up (I r) x.toNatClampNeg x1)) J Q := A_iastore (ab_io ci55 (by decide +kernel))
theorem k55_7 : At 55 7 [some (.ref r), a1] st I J Q ↔ At 55 8 [some (.ref r), a1] (.ref r :: st) I J Q := A_aload_n (q := 0) (ab_io ci55 (by decide +kernel)) rfl
theorem k55_8 : At 55 8 ls (.ref 43 :: st) I J Q ↔ At 55 11 ls (.ref 46 :: st) I J Q := A_getR (ab_io ci55 (by decide +kernel)) ow55 fq3_18_43
theorem k55_11 : At 55 11 [a0, some (.int x)] st I J Q ↔ At 55 12 [a0, some (.int x)] (.int x :: st) I J Q := A_iload_n (q := 1) (ab_io ci55 (by decide +kernel)) rfl
theorem k55_12 : At 55 12 ls st I J Q ↔ At 55 13 ls (.int (nI 0) :: st) I J Q := A_iconst (ab_io ci55 (by decide +kernel)) ic_0
theorem k55_13 : At 55 13 ls (.int x1 :: .int x :: .ref r :: st) I J Q ↔ ((ab_ly r).1 = 1 ∧ r < 75 ∧ 0 ≤ x.toInt ∧ x.toInt < (ab_ly r).2) ∧ At 55 14 ls st (va_up I r (va_up (I r) x.toNatClampNeg x1)) J Q := A_iastore (ab_io ci55 (by decide +kernel))
theorem k55_14 : At 55 14 ls [] I J Q ↔ Q none I J := A_vret (ab_io ci55 (by decide +kernel)) rt55
theorem k56_0 : At 56 0 [some (.ref r), a1, a2, a3] st I J Q ↔ At 56 1 [some (.ref r), a1, a2, a3] (.ref r :: st) I J Q := A_aload_n (q := 0) (ab_io ci56 (by decide +kernel)) rfl
theorem k56_1 : At 56 1 [a0, some (.int x), a2, a3] st I J Q ↔ At 56 2 [a0, some (.int x), a2, a3] (.int x :: st) I J Q := A_iload_n (q := 1) (ab_io ci56 (by decide +kernel)) rfl
theorem k56_2 : At 56 2 ls [.int p0, .ref 43] I J Q ↔ Cal 53 [.ref 43, .int p0] I J (fun v I' J' => At 56 5 ls (v.toList ++ []) I' J' Q) := A_cal (kd := 0) (j := 21) (na := 2) (ea := 2) (rk := 43) (by decide +kernel) rfl rfl rfl (Or.inr rfl) (Nat.le_of_ble_eq_true rfl)
theorem k56_5 : At 56 5 ls (.int x :: st) I J Q ↔ if x = 0 then At 56 10 ls st I J Q else At 56 8 ls st I J Q := A_ifCond_eq (o := 5) (ab_io ci56 (by decide +kernel)) (by decide)
theorem k56_8 : At 56 8 ls st I J Q ↔ At 56 9 ls (.int (nI 1) :: st) I J Q := A_iconst (ab_io ci56 (by decide +kernel)) ic_1
theorem k56_9 : At 56 9 ls [.int x] I J Q ↔ Q (some (.int x)) I J := A_iret (ab_io ci56 (by decide +kernel)) rt56
theorem k56_10 : At 56 10 [some (.ref r), a1, a2, a3] st I J Q ↔ At 56 11 [some (.ref r), a1, a2, a3] (.ref r :: st) I J Q := A_aload_n (q := 0) (ab_io ci56 (by decide +kernel)) rfl
theorem k56_11 : At 56 11 ls (.ref 43 :: st) I J Q ↔ At 56 14 ls (.ref 45 :: st) I J Q := A_getR (ab_io ci56 (by decide +kernel)) ow56 fq3_15_43
theorem k56_14 : At 56 14 [a0, some (.int x), a2, a3] st I J Q ↔ At 56 15 [a0, some (.int x), a2, a3] (.int x :: st) I J Q := A_iload_n (q := 1) (ab_io ci56 (by decide +kernel)) rfl
theorem k56_15 : At 56 15 ls (.int x :: .ref r :: st) I J Q ↔ ((ab_ly r).1 = 1 ∧ r < 75 ∧ 0 ≤ x.toInt ∧ x.toInt < (ab_ly r).2) ∧ At 56 16 ls (.int (I r x.toNatClampNeg) :: st) I J Q := A_iaload (ab_io ci56 (by decide +kernel))
theorem k56_16 : At 56 16 [a0, a1, some (.int x), a3] st I J Q ↔ At 56 17 [a0, a1, some (.int x), a3] (.int x :: st) I J Q := A_iload_n (q := 2) (ab_io ci56 (by decide +kernel)) rfl
theorem k56_17 : At 56 17 ls (.int x1 :: .int x :: st) I J Q ↔ if x = x1 then At 56 22 ls st I J Q else At 56 20 ls st I J Q := A_if_icmp_eq (o := 5) (ab_io ci56 (by decide +kernel)) (by decide)
theorem k56_20 : At 56 20 ls st I J Q ↔ At 56 21 ls (.int (nI 3) :: st) I J Q := A_iconst (ab_io ci56 (by decide +kernel)) ic_3
theorem k56_21 : At 56 21 ls [.int x] I J Q ↔ Q (some (.int x)) I J := A_iret (ab_io ci56 (by decide +kernel)) rt56
theorem k56_22 : At 56 22 [some (.ref r), a1, a2, a3] st I J Q ↔ At 56 23 [some (.ref r), a1, a2, a3] (.ref r :: st) I J Q := A_aload_n (q := 0) (ab_io ci56 (by decide +kernel)) rfl
theorem k56_23 : At 56 23 [a0, some (.int x), a2, a3] st I J Q ↔ At 56 24 [a0, some (.int x), a2, a3] (.int x :: st) I J Q := A_iload_n (q := 1) (ab_io ci56 (by decide +kernel)) rfl
theorem k56_24 : At 56 24 [a0, a1, a2, some (.int x)] st I J Q ↔ At 56 25 [a0, a1, a2, some (.int x)] (.int x :: st) I J Q := A_iload_n (q := 3) (ab_io ci56 (by decide +kernel)) rfl
theorem k56_25 : At 56 25 ls st I J Q ↔ At 56 26 ls (.int (nI 1) :: st) I J Q := A_iconst (ab_io ci56 (by decide +kernel)) ic_1
theorem k56_26 : At 56 26 ls [.int p0, .int p1, .int p2, .ref 43] I J Q ↔ Cal 57 [.ref 43, .int p2, .int p1, .int p0] I J (fun v I' J' => At 56 29 ls (v.toList ++ []) I' J' Q) := A_cal (kd := 0) (j := 25) (na := 4) (ea := 4) (rk := 43) (by decide +kernel) rfl rfl rfl (Or.inr rfl) (Nat.le_of_ble_eq_true rfl)
theorem k56_29 : At 56 29 ls (.int x :: st) I J Q ↔ if x = 0 then At 56 36 ls st I J Q else At 56 32 ls st I J Q := A_ifCond_eq (o := 7) (ab_io ci56 (by decide +kernel)) (by decide)
theorem k56_32 : At 56 32 ls st I J Q ↔ At 56 33 ls (.int (nI 0) :: st) I J Q := A_iconst (ab_io ci56 (by decide +kernel)) ic_0
theorem k56_33 : At 56 33 ls st I J Q ↔ At 56 37 ls st I J Q := A_goto (o := 4) (ab_io ci56 (by decide +kernel)) (by decide)
theorem k56_36 : At 56 36 ls st I J Q ↔ At 56 37 ls (.int (nI 2) :: st) I J Q := A_iconst (ab_io ci56 (by decide +kernel)) ic_2
theorem k56_37 : At 56 37 ls [.int x] I J Q ↔ Q (some (.int x)) I J := A_iret (ab_io ci56 (by decide +kernel)) rt56
theorem k57_0 : At 57 0 [a0, a1, some (.int x), a3] st I J Q ↔ At 57 1 [a0, a1, some (.int x), a3] (.int x :: st) I J Q := A_iload_n (q := 2) (ab_io ci57 (by decide +kernel)) rfl
theorem k57_1 : At 57 1 ls (.int x :: st) I J Q ↔ if x < 0 then At 57 34 ls st I J Q else At 57 4 ls st I J Q := A_ifCond_lt (o := 33) (ab_io ci57 (by decide +kernel)) (by decide)
theorem k57_4 : At 57 4 [a0, a1, a2, some (.int x)] st I J Q ↔ At 57 5 [a0, a1, a2, some (.int x)] (.int x :: st) I J Q := A_iload_n (q := 3) (ab_io ci57 (by decide +kernel)) rfl
theorem k57_5 : At 57 5 ls (.int x :: st) I J Q ↔ if x < 0 then At 57 34 ls st I J Q else At 57 8 ls st I J Q := A_ifCond_lt (o := 29) (ab_io ci57 (by decide +kernel)) (by decide)
theorem k57_8 : At 57 8 [a0, a1, a2, some (.int x)] st I J Q ↔ At 57 9 [a0, a1, a2, some (.int x)] (.int x :: st) I J Q := A_iload_n (q := 3) (ab_io ci57 (by decide +kernel)) rfl
theorem k57_9 : At 57 9 [some (.ref r), a1, a2, a3] st I J Q ↔ At 57 10 [some (.ref r), a1, a2, a3] (.ref r :: st) I J Q := A_aload_n (q := 0) (ab_io ci57 (by decide +kernel)) rfl
theorem k57_10 : At 57 10 ls (.ref 43 :: st) I J Q ↔ At 57 13 ls (.ref 46 :: st) I J Q := A_getR (ab_io ci57 (by decide +kernel)) ow57 fq3_18_43
theorem k57_13 : At 57 13 [a0, some (.int x), a2, a3] st I J Q ↔ At 57 14 [a0, some (.int x), a2, a3] (.int x :: st) I J Q := A_iload_n (q := 1) (ab_io ci57 (by decide +kernel)) rfl
theorem k57_14 : At 57 14 ls (.int x :: .ref r :: st) I J Q ↔ ((ab_ly r).1 = 1 ∧ r < 75 ∧ 0 ≤ x.toInt ∧ x.toInt < (ab_ly r).2) ∧ At 57 15 ls (.int (I r x.toNatClampNeg) :: st) I J Q := A_iaload (ab_io ci57 (by decide +kernel))
theorem k57_15 : At 57 15 ls (.int x1 :: .int x :: st) I J Q ↔ if x1 < x then At 57 34 ls st I J Q else At 57 18 ls st I J Q := A_if_icmp_gt (o := 19) (ab_io ci57 (by decide +kernel)) (by decide)
theorem k57_18 : At 57 18 [a0, a1, some (.int x), a3] st I J Q ↔ At 57 19 [a0, a1, some (.int x), a3] (.int x :: st) I J Q := A_iload_n (q := 2) (ab_io ci57 (by decide +kernel)) rfl
theorem k57_19 : At 57 19 [some (.ref r), a1, a2, a3] st I J Q ↔ At 57 20 [some (.ref r), a1, a2, a3] (.ref r :: st) I J Q := A_aload_n (q := 0) (ab_io ci57 (by decide +kernel)) rfl
theorem k57_20 : At 57 20 ls (.ref 43 :: st) I J Q ↔ At 57 23 ls (.ref 46 :: st) I J Q := A_getR (ab_io ci57 (by decide +kernel)) ow57 fq3_18_43
theorem k57_23 : At 57 23 [a0, some (.int x), a2, a3] st I J Q ↔ At 57 24 [a0, some (.int x), a2, a3] (.int x :: st) I J Q := A_iload_n (q := 1) (ab_io ci57 (by decide +kernel)) rfl
theorem k57_24 : At 57 24 ls (.int x :: .ref r :: st) I J Q ↔ ((ab_ly r).1 = 1 ∧ r < 75 ∧ 0 ≤ x.toInt ∧ x.toInt < (ab_ly r).2) ∧ At 57 25 ls (.int (I r x.toNatClampNeg) :: st) I J Q := A_iaload (ab_io ci57 (by decide +kernel))
theorem k57_25 : At 57 25 [a0, a1, a2, some (.int x)] st I J Q ↔ At 57 26 [a0, a1, a2, some (.int x)] (.int x :: st) I J Q := A_iload_n (q := 3) (ab_io ci57 (by decide +kernel)) rfl
theorem k57_26 : At 57 26 ls (.int x1 :: .int x :: st) I J Q ↔ At 57 27 ls (.int (x - x1) :: st) I J Q := A_isub (ab_io ci57 (by decide +kernel))
theorem k57_27 : At 57 27 ls (.int x1 :: .int x :: st) I J Q ↔ if x1 < x then At 57 34 ls st I J Q else At 57 30 ls st I J Q := A_if_icmp_gt (o := 7) (ab_io ci57 (by decide +kernel)) (by decide)
theorem k57_30 : At 57 30 ls st I J Q ↔ At 57 31 ls (.int (nI 1) :: st) I J Q := A_iconst (ab_io ci57 (by decide +kernel)) ic_1
theorem k57_31 : At 57 31 ls st I J Q ↔ At 57 35 ls st I J Q := A_goto (o := 4) (ab_io ci57 (by decide +kernel)) (by decide)
theorem k57_34 : At 57 34 ls st I J Q ↔ At 57 35 ls (.int (nI 0) :: st) I J Q := A_iconst (ab_io ci57 (by decide +kernel)) ic_0
theorem k57_35 : At 57 35 ls [.int x] I J Q ↔ (x = 0 ∨ x = 1) ∧ Q (some (.int x)) I J := A_zret (ab_io ci57 (by decide +kernel)) rt57
theorem k58_0 : At 58 0 [some (.ref r), a1, a2] st I J Q ↔ At 58 1 [some (.ref r), a1, a2] (.ref r :: st) I J Q := A_aload_n (q := 0) (ab_io ci58 (by decide +kernel)) rfl
theorem k58_1 : At 58 1 ls (.ref 43 :: st) I J Q ↔ At 58 4 ls (.ref 44 :: st) I J Q := A_getR (ab_io ci58 (by decide +kernel)) ow58 fq3_11_43
theorem k58_4 : At 58 4 ls st I J Q ↔ At 58 6 ls (.int (nI 48) :: st) I J Q := A_bipush (ab_io ci58 (by decide +kernel)) bc_48
theorem k58_6 : At 58 6 [a0, some (.int x), a2] st I J Q ↔ At 58 7 [a0, some (.int x), a2] (.int x :: st) I J Q := A_iload_n (q := 1) (ab_io ci58 (by decide +kernel)) rfl
theorem k58_7 : At 58 7 ls (.int x1 :: .int x :: st) I J Q ↔ At 58 8 ls (.int (x * x1) :: st) I J Q := A_imul (ab_io ci58 (by decide +kernel))
theorem k58_8 : At 58 8 [a0, a1, some (.int x)] st I J Q ↔ At 58 9 [a0, a1, some (.int x)] (.int x :: st) I J Q := A_iload_n (q := 2) (ab_io ci58 (by decide +kernel)) rfl
theorem k58_9 : At 58 9 ls (.int x1 :: .int x :: st) I J Q ↔ At 58 10 ls (.int (x + x1) :: st) I J Q := A_iadd (ab_io ci58 (by decide +kernel))
theorem k58_10 : At 58 10 ls (.int x :: .ref r :: st) I J Q ↔ ((ab_ly r).1 = 1 ∧ r < 75 ∧ 0 ≤ x.toInt ∧ x.toInt < (ab_ly r).2) ∧ At 58 11 ls (.int (I r x.toNatClampNeg) :: st) I J Q := A_iaload (ab_io ci58 (by decide +kernel))
theorem k58_11 : At 58 11 ls [.int x] I J Q ↔ Q (some (.int x)) I J := A_iret (ab_io ci58 (by decide +kernel)) rt58
theorem k59_0 : At 59 0 [some (.ref r), a1, a2, a3] st I J Q ↔ At 59 1 [some (.ref r), a1, a2, a3] (.ref r :: st) I J Q := A_aload_n (q := 0) (ab_io ci59 (by decide +kernel)) rfl
theorem k59_1 : At 59 1 ls (.ref 43 :: st) I J Q ↔ At 59 4 ls (.ref 44 :: st) I J Q := A_getR (ab_io ci59 (by decide +kernel)) ow59 fq3_11_43
theorem k59_4 : At 59 4 ls st I J Q ↔ At 59 6 ls (.int (nI 48) :: st) I J Q := A_bipush (ab_io ci59 (by decide +kernel)) bc_48
theorem k59_6 : At 59 6 [a0, some (.int x), a2, a3] st I J Q ↔ At 59 7 [a0, some (.int x), a2, a3] (.int x :: st) I J Q := A_iload_n (q := 1) (ab_io ci59 (by decide +kernel)) rfl
theorem k59_7 : At 59 7 ls (.int x1 :: .int x :: st) I J Q ↔ At 59 8 ls (.int (x * x1) :: st) I J Q := A_imul (ab_io ci59 (by decide +kernel))
theorem k59_8 : At 59 8 [a0, a1, some (.int x), a3] st I J Q ↔ At 59 9 [a0, a1, some (.int x), a3] (.int x :: st) I J Q := A_iload_n (q := 2) (ab_io ci59 (by decide +kernel)) rfl
theorem k59_9 : At 59 9 ls (.int x1 :: .int x :: st) I J Q ↔ At 59 10 ls (.int (x + x1) :: st) I J Q := A_iadd (ab_io ci59 (by decide +kernel))
theorem k59_10 : At 59 10 [some (.ref r), a1, a2, a3] st I J Q ↔ At 59 11 [some (.ref r), a1, a2, a3] (.ref r :: st) I J Q := A_aload_n (q := 0) (ab_io ci59 (by decide +kernel)) rfl
theorem k59_11 : At 59 11 ls (.ref 43 :: st) I J Q ↔ At 59 14 ls (.ref 45 :: st) I J Q := A_getR (ab_io ci59 (by decide +kernel)) ow59 fq3_15_43
theorem k59_14 : At 59 14 [a0, some (.int x), a2, a3] st I J Q ↔ At 59 15 [a0, some (.int x), a2, a3] (.int x :: st) I J Q := A_iload_n (q := 1) (ab_io ci59 (by decide +kernel)) rfl
theorem k59_15 : At 59 15 ls (.int x :: .ref r :: st) I J Q ↔ ((ab_ly r).1 = 1 ∧ r < 75 ∧ 0 ≤ x.toInt ∧ x.toInt < (ab_ly r).2) ∧ At 59 16 ls (.int (I r x.toNatClampNeg) :: st) I J Q := A_iaload (ab_io ci59 (by decide +kernel))
theorem k59_16 : At 59 16 [a0, a1, a2, some (.int x)] st I J Q ↔ At 59 17 [a0, a1, a2, some (.int x)] (.int x :: st) I J Q := A_iload_n (q := 3) (ab_io ci59 (by decide +kernel)) rfl
theorem k59_17 : At 59 17 ls [.int p0, .int p1, .int q0, .ref qr1] I J Q ↔ Cal 60 [.int p1, .int p0] I J (fun v I' J' => At 59 20 ls (v.toList ++ [.int q0, .ref qr1]) I' J' Q) := A_cal (kd := 1) (j := 29) (na := 2) (ea := 2) (rk := 0) (by decide +kernel) rfl rfl rfl (Or.inl rfl) (Nat.le_of_ble_eq_true rfl)
theorem k59_20 : At 59 20 ls (.int x1 :: .int x :: .ref r :: st) I J Q ↔ ((ab_ly r).1 = 1 ∧ r < 75 ∧ 0 ≤ x.toInt ∧ x.toInt < (ab_ly r).2) ∧ At 59 21 ls st (va_up I r (va_up (I r) x.toNatClampNeg x1)) J Q := A_iastore (ab_io ci59 (by decide +kernel))
theorem k59_21 : At 59 21 ls [] I J Q ↔ Q none I J := A_vret (ab_io ci59 (by decide +kernel)) rt59
theorem k60_0 : At 60 0 [some (.int x), a1] st I J Q ↔ At 60 1 [some (.int x), a1] (.int x :: st) I J Q := A_iload_n (q := 0) (ab_io ci60 (by decide +kernel)) rfl
theorem k60_1 : At 60 1 ls (.int x :: st) I J Q ↔ if ¬ x = 0 then At 60 7 ls st I J Q else At 60 4 ls st I J Q := A_ifCond_ne (o := 6) (ab_io ci60 (by decide +kernel)) (by decide)
theorem k60_4 : At 60 4 [a0, some (.int x)] st I J Q ↔ At 60 5 [a0, some (.int x)] (.int x :: st) I J Q := A_iload_n (q := 1) (ab_io ci60 (by decide +kernel)) rfl
theorem k60_5 : At 60 5 ls (.int x :: st) I J Q ↔ At 60 6 ls (.int x.toInt8.toInt32 :: st) I J Q := A_i2b (ab_io ci60 (by decide +kernel))
theorem k60_6 : At 60 6 ls [.int x] I J Q ↔ Q (some (.int x)) I J := A_iret (ab_io ci60 (by decide +kernel)) rt60
theorem k60_7 : At 60 7 [some (.int x), a1] st I J Q ↔ At 60 8 [some (.int x), a1] (.int x :: st) I J Q := A_iload_n (q := 0) (ab_io ci60 (by decide +kernel)) rfl
theorem k60_8 : At 60 8 ls st I J Q ↔ At 60 9 ls (.int (nI 1) :: st) I J Q := A_iconst (ab_io ci60 (by decide +kernel)) ic_1
theorem k60_9 : At 60 9 ls (.int x1 :: .int x :: st) I J Q ↔ if ¬ x = x1 then At 60 17 ls st I J Q else At 60 12 ls st I J Q := A_if_icmp_ne (o := 8) (ab_io ci60 (by decide +kernel)) (by decide)
theorem k60_12 : At 60 12 [a0, some (.int x)] st I J Q ↔ At 60 13 [a0, some (.int x)] (.int x :: st) I J Q := A_iload_n (q := 1) (ab_io ci60 (by decide +kernel)) rfl
theorem k60_13 : At 60 13 ls (.int x :: st) I J Q ↔ At 60 14 ls (.int x.toInt16.toInt32 :: st) I J Q := A_i2s (ab_io ci60 (by decide +kernel))
theorem k60_14 : At 60 14 ls st I J Q ↔ At 60 18 ls st I J Q := A_goto (o := 4) (ab_io ci60 (by decide +kernel)) (by decide)
theorem k60_17 : At 60 17 [a0, some (.int x)] st I J Q ↔ At 60 18 [a0, some (.int x)] (.int x :: st) I J Q := A_iload_n (q := 1) (ab_io ci60 (by decide +kernel)) rfl
theorem k60_18 : At 60 18 ls [.int x] I J Q ↔ Q (some (.int x)) I J := A_iret (ab_io ci60 (by decide +kernel)) rt60
theorem k61_0 : At 61 0 [some (.ref r), a1, a2, a3, a4, a5] st I J Q ↔ At 61 1 [some (.ref r), a1, a2, a3, a4, a5] (.ref r :: st) I J Q := A_aload_n (q := 0) (ab_io ci61 (by decide +kernel)) rfl
theorem k61_1 : At 61 1 ls (.ref 43 :: st) I J Q ↔ At 61 4 ls (.ref 44 :: st) I J Q := A_getR (ab_io ci61 (by decide +kernel)) ow61 fq3_11_43
theorem k61_4 : At 61 4 ls st I J Q ↔ At 61 6 ls (.int (nI 48) :: st) I J Q := A_bipush (ab_io ci61 (by decide +kernel)) bc_48
theorem k61_6 : At 61 6 [a0, some (.int x), a2, a3, a4, a5] st I J Q ↔ At 61 7 [a0, some (.int x), a2, a3, a4, a5] (.int x :: st) I J Q := A_iload_n (q := 1) (ab_io ci61 (by decide +kernel)) rfl
theorem k61_7 : At 61 7 ls (.int x1 :: .int x :: st) I J Q ↔ At 61 8 ls (.int (x * x1) :: st) I J Q := A_imul (ab_io ci61 (by decide +kernel))
theorem k61_8 : At 61 8 [a0, a1, some (.int x), a3, a4, a5] st I J Q ↔ At 61 9 [a0, a1, some (.int x), a3, a4, a5] (.int x :: st) I J Q := A_iload_n (q := 2) (ab_io ci61 (by decide +kernel)) rfl
theorem k61_9 : At 61 9 ls (.int x1 :: .int x :: st) I J Q ↔ At 61 10 ls (.int (x + x1) :: st) I J Q := A_iadd (ab_io ci61 (by decide +kernel))
theorem k61_10 : At 61 10 [some (.ref r), a1, a2, a3, a4, a5] st I J Q ↔ At 61 11 [some (.ref r), a1, a2, a3, a4, a5] (.ref r :: st) I J Q := A_aload_n (q := 0) (ab_io ci61 (by decide +kernel)) rfl
theorem k61_11 : At 61 11 ls (.ref 43 :: st) I J Q ↔ At 61 14 ls (.ref 44 :: st) I J Q := A_getR (ab_io ci61 (by decide +kernel)) ow61 fq3_11_43
theorem k61_14 : At 61 14 ls st I J Q ↔ At 61 16 ls (.int (nI 48) :: st) I J Q := A_bipush (ab_io ci61 (by decide +kernel)) bc_48
theorem k61_16 : At 61 16 [a0, a1, a2, some (.int x), a4, a5] st I J Q ↔ At 61 17 [a0, a1, a2, some (.int x), a4, a5] (.int x :: st) I J Q := A_iload_n (q := 3) (ab_io ci61 (by decide +kernel)) rfl
theorem k61_17 : At 61 17 ls (.int x1 :: .int x :: st) I J Q ↔ At 61 18 ls (.int (x * x1) :: st) I J Q := A_imul (ab_io ci61 (by decide +kernel))
theorem k61_18 : At 61 18 [a0, a1, a2, a3, some (.int x), a5] st I J Q ↔ At 61 20 [a0, a1, a2, a3, some (.int x), a5] (.int x :: st) I J Q := A_iload (q := 4) (ab_io ci61 (by decide +kernel)) rfl
theorem k61_20 : At 61 20 ls (.int x1 :: .int x :: st) I J Q ↔ At 61 21 ls (.int (x + x1) :: st) I J Q := A_iadd (ab_io ci61 (by decide +kernel))
theorem k61_21 : At 61 21 [a0, a1, a2, a3, a4, some (.int x)] st I J Q ↔ At 61 23 [a0, a1, a2, a3, a4, some (.int x)] (.int x :: st) I J Q := A_iload (q := 5) (ab_io ci61 (by decide +kernel)) rfl
theorem k61_23 : At 61 23 ls [.int x2, .int x1, .ref r1, .int x, .ref r] I J Q ↔ ((0 ≤ 8 ∧ (ab_ly r1).1 = 1 ∧ (ab_ly r).1 = 1 ∧ r1 < 75 ∧ r < 75) ∧ (0 ≤ x2.toInt ∧ 0 ≤ x.toInt ∧ 0 ≤ x1.toInt ∧ x.toInt + x2.toInt ≤ (ab_ly r).2 ∧ x1.toInt + x2.toInt ≤ (ab_ly r1).2)) ∧ At 61 26 ls [] (va_up I r1 (va_cpy (I r) (I r1) x.toNatClampNeg x1.toNatClampNeg x2.toNatClampNeg)) J Q := At_hec (i := .invokestatic 33) rfl rfl rfl rfl rfl rfl rfl rfl
theorem k61_26 : At 61 26 ls [] I J Q ↔ Q none I J := A_vret (ab_io ci61 (by decide +kernel)) rt61
theorem k63_0 : At 63 0 [some (.ref r), a1, a2, a3] st I J Q ↔ At 63 1 [some (.ref r), a1, a2, a3] (.ref r :: st) I J Q := A_aload_n (q := 0) (ab_io ci63 (by decide +kernel)) rfl
theorem k63_1 : At 63 1 ls (.ref 29 :: st) I J Q ↔ At 63 4 ls (.int (I 29 0) :: st) I J Q := A_getZ (ab_io ci63 (by decide +kernel)) ow63 fq4_9_29
theorem k63_4 : At 63 4 ls (.int x :: st) I J Q ↔ if x = 0 then At 63 8 ls st I J Q else At 63 7 ls st I J Q := A_ifCond_eq (o := 4) (ab_io ci63 (by decide +kernel)) (by decide)
theorem k63_7 : At 63 7 ls [] I J Q ↔ Q none I J := A_vret (ab_io ci63 (by decide +kernel)) rt63
theorem k63_8 : At 63 8 [some (.ref r), a1, a2, a3] st I J Q ↔ At 63 9 [some (.ref r), a1, a2, a3] (.ref r :: st) I J Q := A_aload_n (q := 0) (ab_io ci63 (by decide +kernel)) rfl
theorem k63_9 : At 63 9 ls st I J Q ↔ At 63 10 ls (.int (nI 1) :: st) I J Q := A_iconst (ab_io ci63 (by decide +kernel)) ic_1
theorem k63_10v0 : At 63 10 ls (.int (nI 0) :: .ref 29 :: st) I J Q ↔ At 63 13 ls st (va_up I 29 (va_up (I 29) 0 (nI 0))) J Q := A_putZ (ab_io ci63 (by decide +kernel)) ow63 ⟨fq4_9_29.1, fq4_9_29.2, Or.inl rfl⟩
theorem k63_10v1 : At 63 10 ls (.int (nI 1) :: .ref 29 :: st) I J Q ↔ At 63 13 ls st (va_up I 29 (va_up (I 29) 0 (nI 1))) J Q := A_putZ (ab_io ci63 (by decide +kernel)) ow63 ⟨fq4_9_29.1, fq4_9_29.2, Or.inr rfl⟩
theorem k63_13 : At 63 13 [some (.ref r), a1, a2, a3] st I J Q ↔ At 63 14 [some (.ref r), a1, a2, a3] (.ref r :: st) I J Q := A_aload_n (q := 0) (ab_io ci63 (by decide +kernel)) rfl
theorem k63_14 : At 63 14 ls st I J Q ↔ At 63 15 ls (.int (-1) :: st) I J Q := A_iconst (ab_io ci63 (by decide +kernel)) ic_m1
theorem k63_15 : At 63 15 ls (.int x :: .ref 29 :: st) I J Q ↔ At 63 18 ls st (va_up I 29 (va_up (I 29) 1 x)) J Q := A_putI (ab_io ci63 (by decide +kernel)) ow63 fq4_15_29
theorem k63_18 : At 63 18 ls st I J Q ↔ At 63 19 ls (.int (nI 0) :: st) I J Q := A_iconst (ab_io ci63 (by decide +kernel)) ic_0
theorem k63_19 : At 63 19 [a0, a1, a2, a3] (.int x :: st) I J Q ↔ At 63 20 [a0, a1, ab_nv a2, some (.int x)] st I J Q := A_istore_n (q := 3) (ab_io ci63 (by decide +kernel)) (Nat.le_of_ble_eq_true rfl) rfl
theorem k63_20 : At 63 20 [a0, a1, a2, some (.int x)] st I J Q ↔ At 63 21 [a0, a1, a2, some (.int x)] (.int x :: st) I J Q := A_iload_n (q := 3) (ab_io ci63 (by decide +kernel)) rfl
theorem k63_21 : At 63 21 ls st I J Q ↔ At 63 23 ls (.int (nI 48) :: st) I J Q := A_bipush (ab_io ci63 (by decide +kernel)) bc_48
theorem k63_23 : At 63 23 ls (.int x1 :: .int x :: st) I J Q ↔ if x1 ≤ x then At 63 57 ls st I J Q else At 63 26 ls st I J Q := A_if_icmp_ge (o := 34) (ab_io ci63 (by decide +kernel)) (by decide)
theorem k63_26 : At 63 26 [a0, some (.ref r), a2, a3] st I J Q ↔ At 63 27 [a0, some (.ref r), a2, a3] (.ref r :: st) I J Q := A_aload_n (q := 1) (ab_io ci63 (by decide +kernel)) rfl
theorem k63_27 : At 63 27 [a0, a1, a2, some (.int x)] st I J Q ↔ At 63 28 [a0, a1, a2, some (.int x)] (.int x :: st) I J Q := A_iload_n (q := 3) (ab_io ci63 (by decide +kernel)) rfl
theorem k63_28 : At 63 28 ls [.int p0, .ref pr1] I J Q ↔ Cal 64 [.ref pr1, .int p0] I J (fun v I' J' => At 63 31 ls (v.toList ++ []) I' J' Q) := A_cal (kd := 1) (j := 26) (na := 2) (ea := 2) (rk := 0) (by decide +kernel) rfl rfl rfl (Or.inl rfl) (Nat.le_of_ble_eq_true rfl)
theorem k63_31 : At 63 31 ls (.int x :: st) I J Q ↔ if x = 0 then At 63 51 ls st I J Q else At 63 34 ls st I J Q := A_ifCond_eq (o := 20) (ab_io ci63 (by decide +kernel)) (by decide)
theorem k63_34 : At 63 34 [a0, a1, some (.ref r), a3] st I J Q ↔ At 63 35 [a0, a1, some (.ref r), a3] (.ref r :: st) I J Q := A_aload_n (q := 2) (ab_io ci63 (by decide +kernel)) rfl
theorem k63_35 : At 63 35 [a0, some (.ref r), a2, a3] st I J Q ↔ At 63 36 [a0, some (.ref r), a2, a3] (.ref r :: st) I J Q := A_aload_n (q := 1) (ab_io ci63 (by decide +kernel)) rfl
theorem k63_36 : At 63 36 [a0, a1, a2, some (.int x)] st I J Q ↔ At 63 37 [a0, a1, a2, some (.int x)] (.int x :: st) I J Q := A_iload_n (q := 3) (ab_io ci63 (by decide +kernel)) rfl
theorem k63_37 : At 63 37 ls st I J Q ↔ At 63 38 ls (.int (nI 0) :: st) I J Q := A_iconst (ab_io ci63 (by decide +kernel)) ic_0
theorem k63_38_5 : At 63 38 ls [.int p0, .int p1, .ref pr2, .ref 5] I J Q ↔ Cal 16 [.ref 5, .ref pr2, .int p1, .int p0] I J (fun v I' J' => At 63 41 ls (v.toList ++ []) I' J' Q) := A_cal (kd := 0) (j := 30) (na := 4) (ea := 4) (rk := 5) (by decide +kernel) rfl rfl rfl (Or.inr rfl) (Nat.le_of_ble_eq_true rfl)
theorem k63_38_17 : At 63 38 ls [.int p0, .int p1, .ref pr2, .ref 17] I J Q ↔ Cal 16 [.ref 17, .ref pr2, .int p1, .int p0] I J (fun v I' J' => At 63 41 ls (v.toList ++ []) I' J' Q) := A_cal (kd := 0) (j := 30) (na := 4) (ea := 4) (rk := 17) (by decide +kernel) rfl rfl rfl (Or.inr rfl) (Nat.le_of_ble_eq_true rfl)
theorem k63_41 : At 63 41 [a0, a1, some (.ref r), a3] st I J Q ↔ At 63 42 [a0, a1, some (.ref r), a3] (.ref r :: st) I J Q := A_aload_n (q := 2) (ab_io ci63 (by decide +kernel)) rfl
theorem k63_42_5 : At 63 42 ls [.ref 5] I J Q ↔ Cal 34 [.ref 5] I J (fun v I' J' => At 63 45 ls (v.toList ++ []) I' J' Q) := A_cal (kd := 0) (j := 36) (na := 1) (ea := 1) (rk := 5) (by decide +kernel) rfl rfl rfl (Or.inr rfl) (Nat.le_of_ble_eq_true rfl)
theorem k63_42_17 : At 63 42 ls [.ref 17] I J Q ↔ Cal 34 [.ref 17] I J (fun v I' J' => At 63 45 ls (v.toList ++ []) I' J' Q) := A_cal (kd := 0) (j := 36) (na := 1) (ea := 1) (rk := 17) (by decide +kernel) rfl rfl rfl (Or.inr rfl) (Nat.le_of_ble_eq_true rfl)
theorem k63_45 : At 63 45 [some (.ref r), a1, a2, a3] st I J Q ↔ At 63 46 [some (.ref r), a1, a2, a3] (.ref r :: st) I J Q := A_aload_n (q := 0) (ab_io ci63 (by decide +kernel)) rfl
theorem k63_46 : At 63 46 [a0, a1, a2, some (.int x)] st I J Q ↔ At 63 47 [a0, a1, a2, some (.int x)] (.int x :: st) I J Q := A_iload_n (q := 3) (ab_io ci63 (by decide +kernel)) rfl
theorem k63_47 : At 63 47 [a0, a1, some (.ref r), a3] st I J Q ↔ At 63 48 [a0, a1, some (.ref r), a3] (.ref r :: st) I J Q := A_aload_n (q := 2) (ab_io ci63 (by decide +kernel)) rfl
theorem k63_48 : At 63 48 ls [.ref pr0, .int p1, .ref 29] I J Q ↔ Cal 65 [.ref 29, .int p1, .ref pr0] I J (fun v I' J' => At 63 51 ls (v.toList ++ []) I' J' Q) := A_cal (kd := 0) (j := 39) (na := 3) (ea := 3) (rk := 29) (by decide +kernel) rfl rfl rfl (Or.inr rfl) (Nat.le_of_ble_eq_true rfl)
theorem k63_51 : At 63 51 [a0, a1, a2, some (.int x)] st I J Q ↔ At 63 54 [a0, a1, ab_nv a2, some (.int (x + (nI 1)))] st I J Q := A_iinc (q := 3) (ab_io ci63 (by decide +kernel)) ic_1 (Nat.le_of_ble_eq_true rfl) rfl rfl
theorem k63_54 : At 63 54 ls st I J Q ↔ At 63 20 ls st I J Q := A_goto (o := (-34)) (ab_io ci63 (by decide +kernel)) (by decide)
theorem k63_57 : At 63 57 ls [] I J Q ↔ Q none I J := A_vret (ab_io ci63 (by decide +kernel)) rt63
theorem k64_0 : At 64 0 [a0, some (.int x), a2, a3, a4] st I J Q ↔ At 64 1 [a0, some (.int x), a2, a3, a4] (.int x :: st) I J Q := A_iload_n (q := 1) (ab_io ci64 (by decide +kernel)) rfl
theorem k64_1 : At 64 1 ls st I J Q ↔ At 64 2 ls (.int (nI 4) :: st) I J Q := A_iconst (ab_io ci64 (by decide +kernel)) ic_4
theorem k64_2 : At 64 2 ls (.int x1 :: .int x :: st) I J Q ↔ ¬ x1 = 0 ∧ At 64 3 ls (.int (x / x1) :: st) I J Q := A_idiv (ab_io ci64 (by decide +kernel))
theorem k64_3 : At 64 3 [a0, a1, a2, a3, a4] (.int x :: st) I J Q ↔ At 64 4 [a0, ab_nv a1, some (.int x), a3, a4] st I J Q := A_istore_n (q := 2) (ab_io ci64 (by decide +kernel)) (Nat.le_of_ble_eq_true rfl) rfl
theorem k64_4 : At 64 4 [some (.ref r), a1, a2, a3, a4] st I J Q ↔ At 64 5 [some (.ref r), a1, a2, a3, a4] (.ref r :: st) I J Q := A_aload_n (q := 0) (ab_io ci64 (by decide +kernel)) rfl
theorem k64_5_5 : At 64 5 ls (.ref 5 :: st) I J Q ↔ At 64 8 ls (.ref 11 :: st) I J Q := A_getR (ab_io ci64 (by decide +kernel)) ow64 fq4_43_5
theorem k64_5_17 : At 64 5 ls (.ref 17 :: st) I J Q ↔ At 64 8 ls (.ref 23 :: st) I J Q := A_getR (ab_io ci64 (by decide +kernel)) ow64 fq4_43_17
theorem k64_8 : At 64 8 [a0, a1, some (.int x), a3, a4] st I J Q ↔ At 64 9 [a0, a1, some (.int x), a3, a4] (.int x :: st) I J Q := A_iload_n (q := 2) (ab_io ci64 (by decide +kernel)) rfl
theorem k64_9 : At 64 9 ls (.int x :: .ref r :: st) I J Q ↔ ((ab_ly r).1 = 1 ∧ r < 75 ∧ 0 ≤ x.toInt ∧ x.toInt < (ab_ly r).2) ∧ At 64 10 ls (.int (I r x.toNatClampNeg) :: st) I J Q := A_iaload (ab_io ci64 (by decide +kernel))
theorem k64_10 : At 64 10 [a0, a1, a2, a3, a4] (.int x :: st) I J Q ↔ At 64 11 [a0, a1, ab_nv a2, some (.int x), a4] st I J Q := A_istore_n (q := 3) (ab_io ci64 (by decide +kernel)) (Nat.le_of_ble_eq_true rfl) rfl
theorem k64_11 : At 64 11 [some (.ref r), a1, a2, a3, a4] st I J Q ↔ At 64 12 [some (.ref r), a1, a2, a3, a4] (.ref r :: st) I J Q := A_aload_n (q := 0) (ab_io ci64 (by decide +kernel)) rfl
theorem k64_12_5 : At 64 12 ls (.ref 5 :: st) I J Q ↔ At 64 15 ls (.ref 6 :: st) I J Q := A_getR (ab_io ci64 (by decide +kernel)) ow64 fq4_47_5
theorem k64_12_17 : At 64 12 ls (.ref 17 :: st) I J Q ↔ At 64 15 ls (.ref 18 :: st) I J Q := A_getR (ab_io ci64 (by decide +kernel)) ow64 fq4_47_17
theorem k64_15 : At 64 15 [a0, some (.int x), a2, a3, a4] st I J Q ↔ At 64 16 [a0, some (.int x), a2, a3, a4] (.int x :: st) I J Q := A_iload_n (q := 1) (ab_io ci64 (by decide +kernel)) rfl
theorem k64_16 : At 64 16 ls (.int x :: .ref r :: st) I J Q ↔ ((ab_ly r).1 = 1 ∧ r < 75 ∧ 0 ≤ x.toInt ∧ x.toInt < (ab_ly r).2) ∧ At 64 17 ls (.int (I r x.toNatClampNeg) :: st) I J Q := A_iaload (ab_io ci64 (by decide +kernel))
theorem k64_17 : At 64 17 ls st I J Q ↔ At 64 18 ls (.int (-1) :: st) I J Q := A_iconst (ab_io ci64 (by decide +kernel)) ic_m1
theorem k64_18 : At 64 18 ls (.int x1 :: .int x :: st) I J Q ↔ if ¬ x = x1 then At 64 38 ls st I J Q else At 64 21 ls st I J Q := A_if_icmp_ne (o := 20) (ab_io ci64 (by decide +kernel)) (by decide)
theorem k64_21 : At 64 21 [a0, a1, a2, some (.int x), a4] st I J Q ↔ At 64 22 [a0, a1, a2, some (.int x), a4] (.int x :: st) I J Q := A_iload_n (q := 3) (ab_io ci64 (by decide +kernel)) rfl
theorem k64_22 : At 64 22 ls st I J Q ↔ At 64 23 ls (.int (-1) :: st) I J Q := A_iconst (ab_io ci64 (by decide +kernel)) ic_m1
theorem k64_23 : At 64 23 ls (.int x1 :: .int x :: st) I J Q ↔ if x = x1 then At 64 38 ls st I J Q else At 64 26 ls st I J Q := A_if_icmp_eq (o := 15) (ab_io ci64 (by decide +kernel)) (by decide)
theorem k64_26 : At 64 26 [a0, a1, a2, some (.int x), a4] st I J Q ↔ At 64 27 [a0, a1, a2, some (.int x), a4] (.int x :: st) I J Q := A_iload_n (q := 3) (ab_io ci64 (by decide +kernel)) rfl
theorem k64_27 : At 64 27 [some (.ref r), a1, a2, a3, a4] st I J Q ↔ At 64 28 [some (.ref r), a1, a2, a3, a4] (.ref r :: st) I J Q := A_aload_n (q := 0) (ab_io ci64 (by decide +kernel)) rfl
theorem k64_28_5 : At 64 28 ls (.ref 5 :: st) I J Q ↔ At 64 31 ls (.ref 10 :: st) I J Q := A_getR (ab_io ci64 (by decide +kernel)) ow64 fq4_50_5
theorem k64_28_17 : At 64 28 ls (.ref 17 :: st) I J Q ↔ At 64 31 ls (.ref 22 :: st) I J Q := A_getR (ab_io ci64 (by decide +kernel)) ow64 fq4_50_17
theorem k64_31 : At 64 31 [a0, some (.int x), a2, a3, a4] st I J Q ↔ At 64 32 [a0, some (.int x), a2, a3, a4] (.int x :: st) I J Q := A_iload_n (q := 1) (ab_io ci64 (by decide +kernel)) rfl
theorem k64_32 : At 64 32 ls st I J Q ↔ At 64 33 ls (.int (nI 4) :: st) I J Q := A_iconst (ab_io ci64 (by decide +kernel)) ic_4
theorem k64_33 : At 64 33 ls (.int x1 :: .int x :: st) I J Q ↔ ¬ x1 = 0 ∧ At 64 34 ls (.int (x - x / x1 * x1) :: st) I J Q := A_irem (ab_io ci64 (by decide +kernel))
theorem k64_34 : At 64 34 ls (.int x :: .ref r :: st) I J Q ↔ ((ab_ly r).1 = 1 ∧ r < 75 ∧ 0 ≤ x.toInt ∧ x.toInt < (ab_ly r).2) ∧ At 64 35 ls (.int (I r x.toNatClampNeg) :: st) I J Q := A_iaload (ab_io ci64 (by decide +kernel))
theorem k64_35 : At 64 35 ls (.int x1 :: .int x :: st) I J Q ↔ if x = x1 then At 64 40 ls st I J Q else At 64 38 ls st I J Q := A_if_icmp_eq (o := 5) (ab_io ci64 (by decide +kernel)) (by decide)
theorem k64_38 : At 64 38 ls st I J Q ↔ At 64 39 ls (.int (nI 0) :: st) I J Q := A_iconst (ab_io ci64 (by decide +kernel)) ic_0
theorem k64_39 : At 64 39 ls [.int x] I J Q ↔ (x = 0 ∨ x = 1) ∧ Q (some (.int x)) I J := A_zret (ab_io ci64 (by decide +kernel)) rt64
theorem k64_40 : At 64 40 ls st I J Q ↔ At 64 41 ls (.int (nI 0) :: st) I J Q := A_iconst (ab_io ci64 (by decide +kernel)) ic_0
theorem k64_41 : At 64 41 [a0, a1, a2, a3, a4] (.int x :: st) I J Q ↔ At 64 43 [a0, a1, a2, ab_nv a3, some (.int x)] st I J Q := A_istore (q := 4) (ab_io ci64 (by decide +kernel)) (Nat.le_of_ble_eq_true rfl) rfl
theorem k64_43 : At 64 43 [a0, a1, a2, a3, some (.int x)] st I J Q ↔ At 64 45 [a0, a1, a2, a3, some (.int x)] (.int x :: st) I J Q := A_iload (q := 4) (ab_io ci64 (by decide +kernel)) rfl
theorem k64_45 : At 64 45 [a0, a1, some (.int x), a3, a4] st I J Q ↔ At 64 46 [a0, a1, some (.int x), a3, a4] (.int x :: st) I J Q := A_iload_n (q := 2) (ab_io ci64 (by decide +kernel)) rfl
theorem k64_46 : At 64 46 ls (.int x1 :: .int x :: st) I J Q ↔ if x1 ≤ x then At 64 73 ls st I J Q else At 64 49 ls st I J Q := A_if_icmp_ge (o := 27) (ab_io ci64 (by decide +kernel)) (by decide)
theorem k64_49 : At 64 49 [some (.ref r), a1, a2, a3, a4] st I J Q ↔ At 64 50 [some (.ref r), a1, a2, a3, a4] (.ref r :: st) I J Q := A_aload_n (q := 0) (ab_io ci64 (by decide +kernel)) rfl
theorem k64_50_5 : At 64 50 ls (.ref 5 :: st) I J Q ↔ At 64 53 ls (.ref 7 :: st) I J Q := A_getR (ab_io ci64 (by decide +kernel)) ow64 fq4_53_5
theorem k64_50_17 : At 64 50 ls (.ref 17 :: st) I J Q ↔ At 64 53 ls (.ref 19 :: st) I J Q := A_getR (ab_io ci64 (by decide +kernel)) ow64 fq4_53_17
theorem k64_53 : At 64 53 [a0, a1, a2, a3, some (.int x)] st I J Q ↔ At 64 55 [a0, a1, a2, a3, some (.int x)] (.int x :: st) I J Q := A_iload (q := 4) (ab_io ci64 (by decide +kernel)) rfl
theorem k64_55 : At 64 55 ls (.int x :: .ref r :: st) I J Q ↔ ((ab_ly r).1 = 1 ∧ r < 75 ∧ 0 ≤ x.toInt ∧ x.toInt < (ab_ly r).2) ∧ At 64 56 ls (.int (I r x.toNatClampNeg) :: st) I J Q := A_iaload (ab_io ci64 (by decide +kernel))
theorem k64_56 : At 64 56 [some (.ref r), a1, a2, a3, a4] st I J Q ↔ At 64 57 [some (.ref r), a1, a2, a3, a4] (.ref r :: st) I J Q := A_aload_n (q := 0) (ab_io ci64 (by decide +kernel)) rfl
theorem k64_57_5 : At 64 57 ls (.ref 5 :: st) I J Q ↔ At 64 60 ls (.ref 7 :: st) I J Q := A_getR (ab_io ci64 (by decide +kernel)) ow64 fq4_53_5
theorem k64_57_17 : At 64 57 ls (.ref 17 :: st) I J Q ↔ At 64 60 ls (.ref 19 :: st) I J Q := A_getR (ab_io ci64 (by decide +kernel)) ow64 fq4_53_17
theorem k64_60 : At 64 60 [a0, a1, some (.int x), a3, a4] st I J Q ↔ At 64 61 [a0, a1, some (.int x), a3, a4] (.int x :: st) I J Q := A_iload_n (q := 2) (ab_io ci64 (by decide +kernel)) rfl
theorem k64_61 : At 64 61 ls (.int x :: .ref r :: st) I J Q ↔ ((ab_ly r).1 = 1 ∧ r < 75 ∧ 0 ≤ x.toInt ∧ x.toInt < (ab_ly r).2) ∧ At 64 62 ls (.int (I r x.toNatClampNeg) :: st) I J Q := A_iaload (ab_io ci64 (by decide +kernel))
theorem k64_62 : At 64 62 ls (.int x1 :: .int x :: st) I J Q ↔ if ¬ x = x1 then At 64 67 ls st I J Q else At 64 65 ls st I J Q := A_if_icmp_ne (o := 5) (ab_io ci64 (by decide +kernel)) (by decide)
theorem k64_65 : At 64 65 ls st I J Q ↔ At 64 66 ls (.int (nI 0) :: st) I J Q := A_iconst (ab_io ci64 (by decide +kernel)) ic_0
theorem k64_66 : At 64 66 ls [.int x] I J Q ↔ (x = 0 ∨ x = 1) ∧ Q (some (.int x)) I J := A_zret (ab_io ci64 (by decide +kernel)) rt64
theorem k64_67 : At 64 67 [a0, a1, a2, a3, some (.int x)] st I J Q ↔ At 64 70 [a0, a1, a2, ab_nv a3, some (.int (x + (nI 1)))] st I J Q := A_iinc (q := 4) (ab_io ci64 (by decide +kernel)) ic_1 (Nat.le_of_ble_eq_true rfl) rfl rfl
theorem k64_70 : At 64 70 ls st I J Q ↔ At 64 43 ls st I J Q := A_goto (o := (-27)) (ab_io ci64 (by decide +kernel)) (by decide)
theorem k64_73 : At 64 73 ls st I J Q ↔ At 64 74 ls (.int (nI 1) :: st) I J Q := A_iconst (ab_io ci64 (by decide +kernel)) ic_1
theorem k64_74 : At 64 74 ls [.int x] I J Q ↔ (x = 0 ∨ x = 1) ∧ Q (some (.int x)) I J := A_zret (ab_io ci64 (by decide +kernel)) rt64
theorem k65_0 : At 65 0 [some (.ref r), a1, a2] st I J Q ↔ At 65 1 [some (.ref r), a1, a2] (.ref r :: st) I J Q := A_aload_n (q := 0) (ab_io ci65 (by decide +kernel)) rfl
theorem k65_1 : At 65 1 ls (.ref 29 :: st) I J Q ↔ At 65 4 ls (.int (I 29 1) :: st) I J Q := A_getI (ab_io ci65 (by decide +kernel)) ow65 fq4_15_29
theorem k65_4 : At 65 4 ls st I J Q ↔ At 65 5 ls (.int (-1) :: st) I J Q := A_iconst (ab_io ci65 (by decide +kernel)) ic_m1
theorem k65_5 : At 65 5 ls (.int x1 :: .int x :: st) I J Q ↔ if x = x1 then At 65 30 ls st I J Q else At 65 8 ls st I J Q := A_if_icmp_eq (o := 25) (ab_io ci65 (by decide +kernel)) (by decide)
theorem k65_8 : At 65 8 [a0, a1, some (.ref r)] st I J Q ↔ At 65 9 [a0, a1, some (.ref r)] (.ref r :: st) I J Q := A_aload_n (q := 2) (ab_io ci65 (by decide +kernel)) rfl
theorem k65_9_5 : At 65 9 ls (.ref 5 :: st) I J Q ↔ At 65 12 ls (.long (J 5 13) :: st) I J Q := A_getJ (ab_io ci65 (by decide +kernel)) ow65 fq4_56_5
theorem k65_9_17 : At 65 9 ls (.ref 17 :: st) I J Q ↔ At 65 12 ls (.long (J 17 13) :: st) I J Q := A_getJ (ab_io ci65 (by decide +kernel)) ow65 fq4_56_17
theorem k65_12 : At 65 12 [some (.ref r), a1, a2] st I J Q ↔ At 65 13 [some (.ref r), a1, a2] (.ref r :: st) I J Q := A_aload_n (q := 0) (ab_io ci65 (by decide +kernel)) rfl
theorem k65_13 : At 65 13 ls (.ref 29 :: st) I J Q ↔ At 65 16 ls (.long (J 29 3) :: st) I J Q := A_getJ (ab_io ci65 (by decide +kernel)) ow65 fq4_23_29
theorem k65_16 : At 65 16 ls (.long u1 :: .long u :: st) I J Q ↔ At 65 17 ls (.long (u * u1) :: st) I J Q := A_lmul (ab_io ci65 (by decide +kernel))
theorem k65_17 : At 65 17 [some (.ref r), a1, a2] st I J Q ↔ At 65 18 [some (.ref r), a1, a2] (.ref r :: st) I J Q := A_aload_n (q := 0) (ab_io ci65 (by decide +kernel)) rfl
theorem k65_18 : At 65 18 ls (.ref 29 :: st) I J Q ↔ At 65 21 ls (.long (J 29 2) :: st) I J Q := A_getJ (ab_io ci65 (by decide +kernel)) ow65 fq4_19_29
theorem k65_21 : At 65 21 [a0, a1, some (.ref r)] st I J Q ↔ At 65 22 [a0, a1, some (.ref r)] (.ref r :: st) I J Q := A_aload_n (q := 2) (ab_io ci65 (by decide +kernel)) rfl
theorem k65_22_5 : At 65 22 ls [.ref 5, .long qu0, .long qu1] I J Q ↔ Cal 15 [.ref 5] I J (fun v I' J' => At 65 25 ls (v.toList ++ [.long qu0, .long qu1]) I' J' Q) := A_cal (kd := 0) (j := 59) (na := 1) (ea := 1) (rk := 5) (by decide +kernel) rfl rfl rfl (Or.inr rfl) (Nat.le_of_ble_eq_true rfl)
theorem k65_22_17 : At 65 22 ls [.ref 17, .long qu0, .long qu1] I J Q ↔ Cal 15 [.ref 17] I J (fun v I' J' => At 65 25 ls (v.toList ++ [.long qu0, .long qu1]) I' J' Q) := A_cal (kd := 0) (j := 59) (na := 1) (ea := 1) (rk := 17) (by decide +kernel) rfl rfl rfl (Or.inr rfl) (Nat.le_of_ble_eq_true rfl)
theorem k65_25 : At 65 25 ls (.long u1 :: .long u :: st) I J Q ↔ At 65 26 ls (.long (u * u1) :: st) I J Q := A_lmul (ab_io ci65 (by decide +kernel))
theorem k65_26 : At 65 26 ls (.long u1 :: .long u :: st) I J Q ↔ At 65 27 ls (.int (lg_cmp u u1) :: st) I J Q := A_lcmp (ab_io ci65 (by decide +kernel))
theorem k65_27 : At 65 27 ls (.int x :: st) I J Q ↔ if 0 ≤ x then At 65 51 ls st I J Q else At 65 30 ls st I J Q := A_ifCond_ge (o := 24) (ab_io ci65 (by decide +kernel)) (by decide)
theorem k65_30 : At 65 30 [some (.ref r), a1, a2] st I J Q ↔ At 65 31 [some (.ref r), a1, a2] (.ref r :: st) I J Q := A_aload_n (q := 0) (ab_io ci65 (by decide +kernel)) rfl
theorem k65_31 : At 65 31 [a0, some (.int x), a2] st I J Q ↔ At 65 32 [a0, some (.int x), a2] (.int x :: st) I J Q := A_iload_n (q := 1) (ab_io ci65 (by decide +kernel)) rfl
theorem k65_32 : At 65 32 ls (.int x :: .ref 29 :: st) I J Q ↔ At 65 35 ls st (va_up I 29 (va_up (I 29) 1 x)) J Q := A_putI (ab_io ci65 (by decide +kernel)) ow65 fq4_15_29
theorem k65_35 : At 65 35 [some (.ref r), a1, a2] st I J Q ↔ At 65 36 [some (.ref r), a1, a2] (.ref r :: st) I J Q := A_aload_n (q := 0) (ab_io ci65 (by decide +kernel)) rfl
theorem k65_36 : At 65 36 [a0, a1, some (.ref r)] st I J Q ↔ At 65 37 [a0, a1, some (.ref r)] (.ref r :: st) I J Q := A_aload_n (q := 2) (ab_io ci65 (by decide +kernel)) rfl
theorem k65_37_5 : At 65 37 ls (.ref 5 :: st) I J Q ↔ At 65 40 ls (.long (J 5 13) :: st) I J Q := A_getJ (ab_io ci65 (by decide +kernel)) ow65 fq4_56_5
theorem k65_37_17 : At 65 37 ls (.ref 17 :: st) I J Q ↔ At 65 40 ls (.long (J 17 13) :: st) I J Q := A_getJ (ab_io ci65 (by decide +kernel)) ow65 fq4_56_17
theorem k65_40 : At 65 40 ls (.long u :: .ref 29 :: st) I J Q ↔ At 65 43 ls st I (va_up J 29 (va_up (J 29) 2 u)) Q := A_putJ (ab_io ci65 (by decide +kernel)) ow65 fq4_19_29
theorem k65_43 : At 65 43 [some (.ref r), a1, a2] st I J Q ↔ At 65 44 [some (.ref r), a1, a2] (.ref r :: st) I J Q := A_aload_n (q := 0) (ab_io ci65 (by decide +kernel)) rfl
theorem k65_44 : At 65 44 [a0, a1, some (.ref r)] st I J Q ↔ At 65 45 [a0, a1, some (.ref r)] (.ref r :: st) I J Q := A_aload_n (q := 2) (ab_io ci65 (by decide +kernel)) rfl
theorem k65_45_5 : At 65 45 ls [.ref 5, .ref qr0] I J Q ↔ Cal 15 [.ref 5] I J (fun v I' J' => At 65 48 ls (v.toList ++ [.ref qr0]) I' J' Q) := A_cal (kd := 0) (j := 59) (na := 1) (ea := 1) (rk := 5) (by decide +kernel) rfl rfl rfl (Or.inr rfl) (Nat.le_of_ble_eq_true rfl)
theorem k65_45_17 : At 65 45 ls [.ref 17, .ref qr0] I J Q ↔ Cal 15 [.ref 17] I J (fun v I' J' => At 65 48 ls (v.toList ++ [.ref qr0]) I' J' Q) := A_cal (kd := 0) (j := 59) (na := 1) (ea := 1) (rk := 17) (by decide +kernel) rfl rfl rfl (Or.inr rfl) (Nat.le_of_ble_eq_true rfl)
theorem k65_48 : At 65 48 ls (.long u :: .ref 29 :: st) I J Q ↔ At 65 51 ls st I (va_up J 29 (va_up (J 29) 3 u)) Q := A_putJ (ab_io ci65 (by decide +kernel)) ow65 fq4_23_29
theorem k65_51 : At 65 51 ls [] I J Q ↔ Q none I J := A_vret (ab_io ci65 (by decide +kernel)) rt65
theorem k67_0 : At 67 0 [a0, some (.int x)] st I J Q ↔ At 67 1 [a0, some (.int x)] (.int x :: st) I J Q := A_iload_n (q := 1) (ab_io ci67 (by decide +kernel)) rfl
theorem k67_1 : At 67 1 [some (.ref r), a1] st I J Q ↔ At 67 2 [some (.ref r), a1] (.ref r :: st) I J Q := A_aload_n (q := 0) (ab_io ci67 (by decide +kernel)) rfl
theorem k67_2 : At 67 2 ls (.ref 1 :: st) I J Q ↔ At 67 5 ls (.int (I 1 4) :: st) I J Q := A_getI (ab_io ci67 (by decide +kernel)) ow67 fq5_25_1
theorem k67_5 : At 67 5 ls (.int x1 :: .int x :: st) I J Q ↔ if x < x1 then At 67 19 ls st I J Q else At 67 8 ls st I J Q := A_if_icmp_lt (o := 14) (ab_io ci67 (by decide +kernel)) (by decide)
theorem k67_8 : At 67 8 [a0, some (.int x)] st I J Q ↔ At 67 9 [a0, some (.int x)] (.int x :: st) I J Q := A_iload_n (q := 1) (ab_io ci67 (by decide +kernel)) rfl
theorem k67_9 : At 67 9 ls st I J Q ↔ At 67 12 ls (.int (nI 999) :: st) I J Q := A_sipush (ab_io ci67 (by decide +kernel)) sc_999
theorem k67_12 : At 67 12 ls (.int x1 :: .int x :: st) I J Q ↔ if x1 < x then At 67 19 ls st I J Q else At 67 15 ls st I J Q := A_if_icmp_gt (o := 7) (ab_io ci67 (by decide +kernel)) (by decide)
theorem k67_15 : At 67 15 ls st I J Q ↔ At 67 16 ls (.int (nI 1) :: st) I J Q := A_iconst (ab_io ci67 (by decide +kernel)) ic_1
theorem k67_16 : At 67 16 ls st I J Q ↔ At 67 20 ls st I J Q := A_goto (o := 4) (ab_io ci67 (by decide +kernel)) (by decide)
theorem k67_19 : At 67 19 ls st I J Q ↔ At 67 20 ls (.int (nI 0) :: st) I J Q := A_iconst (ab_io ci67 (by decide +kernel)) ic_0
theorem k67_20 : At 67 20 ls [.int x] I J Q ↔ (x = 0 ∨ x = 1) ∧ Q (some (.int x)) I J := A_zret (ab_io ci67 (by decide +kernel)) rt67
theorem k68_0 : At 68 0 [some (.ref r)] st I J Q ↔ At 68 1 [some (.ref r)] (.ref r :: st) I J Q := A_aload_n (q := 0) (ab_io ci68 (by decide +kernel)) rfl
theorem k68_1 : At 68 1 ls (.ref 1 :: st) I J Q ↔ At 68 4 ls (.int (I 1 3) :: st) I J Q := A_getI (ab_io ci68 (by decide +kernel)) ow68 fq5_21_1
theorem k68_4 : At 68 4 ls st I J Q ↔ At 68 6 ls (.int (nI 100) :: st) I J Q := A_bipush (ab_io ci68 (by decide +kernel)) bc_100
theorem k68_6 : At 68 6 ls (.int x1 :: .int x :: st) I J Q ↔ if x < x1 then At 68 13 ls st I J Q else At 68 9 ls st I J Q := A_if_icmp_lt (o := 7) (ab_io ci68 (by decide +kernel)) (by decide)
theorem k68_9 : At 68 9 ls st I J Q ↔ At 68 10 ls (.int (nI 1) :: st) I J Q := A_iconst (ab_io ci68 (by decide +kernel)) ic_1
theorem k68_10 : At 68 10 ls st I J Q ↔ At 68 14 ls st I J Q := A_goto (o := 4) (ab_io ci68 (by decide +kernel)) (by decide)
theorem k68_13 : At 68 13 ls st I J Q ↔ At 68 14 ls (.int (nI 0) :: st) I J Q := A_iconst (ab_io ci68 (by decide +kernel)) ic_0
theorem k68_14 : At 68 14 ls [.int x] I J Q ↔ (x = 0 ∨ x = 1) ∧ Q (some (.int x)) I J := A_zret (ab_io ci68 (by decide +kernel)) rt68
theorem k69_0 : At 69 0 [some (.ref r), a1, a2, a3] st I J Q ↔ At 69 1 [some (.ref r), a1, a2, a3] (.ref r :: st) I J Q := A_aload_n (q := 0) (ab_io ci69 (by decide +kernel)) rfl
theorem k69_1 : At 69 1 ls [.ref 1] I J Q ↔ Cal 68 [.ref 1] I J (fun v I' J' => At 69 4 ls (v.toList ++ []) I' J' Q) := A_cal (kd := 0) (j := 31) (na := 1) (ea := 1) (rk := 1) (by decide +kernel) rfl rfl rfl (Or.inr rfl) (Nat.le_of_ble_eq_true rfl)
theorem k69_4 : At 69 4 ls (.int x :: st) I J Q ↔ if x = 0 then At 69 8 ls st I J Q else At 69 7 ls st I J Q := A_ifCond_eq (o := 4) (ab_io ci69 (by decide +kernel)) (by decide)
theorem k69_7 : At 69 7 ls [] I J Q ↔ Q none I J := A_vret (ab_io ci69 (by decide +kernel)) rt69
theorem k69_8 : At 69 8 [some (.ref r), a1, a2, a3] st I J Q ↔ At 69 9 [some (.ref r), a1, a2, a3] (.ref r :: st) I J Q := A_aload_n (q := 0) (ab_io ci69 (by decide +kernel)) rfl
theorem k69_9 : At 69 9 ls (.ref 1 :: st) I J Q ↔ At 69 12 ls (.ref 2 :: st) I J Q := A_getR (ab_io ci69 (by decide +kernel)) ow69 fq5_11_1
theorem k69_12 : At 69 12 [some (.ref r), a1, a2, a3] st I J Q ↔ At 69 13 [some (.ref r), a1, a2, a3] (.ref r :: st) I J Q := A_aload_n (q := 0) (ab_io ci69 (by decide +kernel)) rfl
theorem k69_13 : At 69 13 ls (.ref 1 :: st) I J Q ↔ At 69 16 ls (.int (I 1 3) :: st) I J Q := A_getI (ab_io ci69 (by decide +kernel)) ow69 fq5_21_1
theorem k69_16 : At 69 16 [a0, some (.int x), a2, a3] st I J Q ↔ At 69 17 [a0, some (.int x), a2, a3] (.int x :: st) I J Q := A_iload_n (q := 1) (ab_io ci69 (by decide +kernel)) rfl
theorem k69_17 : At 69 17 ls (.int x1 :: .int x :: .ref r :: st) I J Q ↔ ((ab_ly r).1 = 1 ∧ r < 75 ∧ 0 ≤ x.toInt ∧ x.toInt < (ab_ly r).2) ∧ At 69 18 ls st (va_up I r (va_up (I r) x.toNatClampNeg x1)) J Q := A_iastore (ab_io ci69 (by decide +kernel))
theorem k69_18 : At 69 18 [some (.ref r), a1, a2, a3] st I J Q ↔ At 69 19 [some (.ref r), a1, a2, a3] (.ref r :: st) I J Q := A_aload_n (q := 0) (ab_io ci69 (by decide +kernel)) rfl
theorem k69_19 : At 69 19 ls (.ref 1 :: st) I J Q ↔ At 69 22 ls (.ref 3 :: st) I J Q := A_getR (ab_io ci69 (by decide +kernel)) ow69 fq5_15_1
theorem k69_22 : At 69 22 [some (.ref r), a1, a2, a3] st I J Q ↔ At 69 23 [some (.ref r), a1, a2, a3] (.ref r :: st) I J Q := A_aload_n (q := 0) (ab_io ci69 (by decide +kernel)) rfl
theorem k69_23 : At 69 23 ls (.ref 1 :: st) I J Q ↔ At 69 26 ls (.int (I 1 3) :: st) I J Q := A_getI (ab_io ci69 (by decide +kernel)) ow69 fq5_21_1
theorem k69_26 : At 69 26 [a0, a1, some (.int x), a3] st I J Q ↔ At 69 27 [a0, a1, some (.int x), a3] (.int x :: st) I J Q := A_iload_n (q := 2) (ab_io ci69 (by decide +kernel)) rfl
theorem k69_27 : At 69 27 ls (.int x1 :: .int x :: .ref r :: st) I J Q ↔ ((ab_ly r).1 = 1 ∧ r < 75 ∧ 0 ≤ x.toInt ∧ x.toInt < (ab_ly r).2) ∧ At 69 28 ls st (va_up I r (va_up (I r) x.toNatClampNeg x1)) J Q := A_iastore (ab_io ci69 (by decide +kernel))
theorem k69_28 : At 69 28 [some (.ref r), a1, a2, a3] st I J Q ↔ At 69 29 [some (.ref r), a1, a2, a3] (.ref r :: st) I J Q := A_aload_n (q := 0) (ab_io ci69 (by decide +kernel)) rfl
theorem k69_29 : At 69 29 ls (.ref 1 :: st) I J Q ↔ At 69 32 ls (.ref 4 :: st) I J Q := A_getR (ab_io ci69 (by decide +kernel)) ow69 fq5_18_1
theorem k69_32 : At 69 32 [some (.ref r), a1, a2, a3] st I J Q ↔ At 69 33 [some (.ref r), a1, a2, a3] (.ref r :: st) I J Q := A_aload_n (q := 0) (ab_io ci69 (by decide +kernel)) rfl
theorem k69_33 : At 69 33 ls (.ref 1 :: st) I J Q ↔ At 69 36 ls (.int (I 1 3) :: st) I J Q := A_getI (ab_io ci69 (by decide +kernel)) ow69 fq5_21_1
theorem k69_36 : At 69 36 [a0, a1, a2, some (.int x)] st I J Q ↔ At 69 37 [a0, a1, a2, some (.int x)] (.int x :: st) I J Q := A_iload_n (q := 3) (ab_io ci69 (by decide +kernel)) rfl
theorem k69_37 : At 69 37 ls (.int x1 :: .int x :: .ref r :: st) I J Q ↔ ((ab_ly r).1 = 1 ∧ r < 75 ∧ 0 ≤ x.toInt ∧ x.toInt < (ab_ly r).2) ∧ At 69 38 ls st (va_up I r (va_up (I r) x.toNatClampNeg x1)) J Q := A_iastore (ab_io ci69 (by decide +kernel))
theorem k69_38 : At 69 38 [some (.ref r), a1, a2, a3] st I J Q ↔ At 69 39 [some (.ref r), a1, a2, a3] (.ref r :: st) I J Q := A_aload_n (q := 0) (ab_io ci69 (by decide +kernel)) rfl
theorem k69_39 : At 69 39 ls (.ref r :: st) I J Q ↔ At 69 40 ls (.ref r :: .ref r :: st) I J Q := A_dupA (ab_io ci69 (by decide +kernel))
theorem k69_40 : At 69 40 ls (.ref 1 :: st) I J Q ↔ At 69 43 ls (.int (I 1 3) :: st) I J Q := A_getI (ab_io ci69 (by decide +kernel)) ow69 fq5_21_1
theorem k69_43 : At 69 43 ls st I J Q ↔ At 69 44 ls (.int (nI 1) :: st) I J Q := A_iconst (ab_io ci69 (by decide +kernel)) ic_1
theorem k69_44 : At 69 44 ls (.int x1 :: .int x :: st) I J Q ↔ At 69 45 ls (.int (x + x1) :: st) I J Q := A_iadd (ab_io ci69 (by decide +kernel))
theorem k69_45 : At 69 45 ls (.int x :: .ref 1 :: st) I J Q ↔ At 69 48 ls st (va_up I 1 (va_up (I 1) 3 x)) J Q := A_putI (ab_io ci69 (by decide +kernel)) ow69 fq5_21_1
theorem k69_48 : At 69 48 [some (.ref r), a1, a2, a3] st I J Q ↔ At 69 49 [some (.ref r), a1, a2, a3] (.ref r :: st) I J Q := A_aload_n (q := 0) (ab_io ci69 (by decide +kernel)) rfl
theorem k69_49 : At 69 49 [a0, a1, a2, some (.int x)] st I J Q ↔ At 69 50 [a0, a1, a2, some (.int x)] (.int x :: st) I J Q := A_iload_n (q := 3) (ab_io ci69 (by decide +kernel)) rfl
theorem k69_50 : At 69 50 ls (.int x :: .ref 1 :: st) I J Q ↔ At 69 53 ls st (va_up I 1 (va_up (I 1) 4 x)) J Q := A_putI (ab_io ci69 (by decide +kernel)) ow69 fq5_25_1
theorem k69_53 : At 69 53 ls [] I J Q ↔ Q none I J := A_vret (ab_io ci69 (by decide +kernel)) rt69
theorem k70_0 : At 70 0 ls st I J Q ↔ At 70 1 ls (.int (nI 0) :: st) I J Q := A_iconst (ab_io ci70 (by decide +kernel)) ic_0
theorem k70_1 : At 70 1 [a0, a1, a2, a3] (.int x :: st) I J Q ↔ At 70 2 [a0, a1, ab_nv a2, some (.int x)] st I J Q := A_istore_n (q := 3) (ab_io ci70 (by decide +kernel)) (Nat.le_of_ble_eq_true rfl) rfl
theorem k70_2 : At 70 2 [a0, a1, a2, some (.int x)] st I J Q ↔ At 70 3 [a0, a1, a2, some (.int x)] (.int x :: st) I J Q := A_iload_n (q := 3) (ab_io ci70 (by decide +kernel)) rfl
theorem k70_3 : At 70 3 ls st I J Q ↔ At 70 5 ls (.int (nI 48) :: st) I J Q := A_bipush (ab_io ci70 (by decide +kernel)) bc_48
theorem k70_5 : At 70 5 ls (.int x1 :: .int x :: st) I J Q ↔ if x1 ≤ x then At 70 22 ls st I J Q else At 70 8 ls st I J Q := A_if_icmp_ge (o := 17) (ab_io ci70 (by decide +kernel)) (by decide)
theorem k70_8 : At 70 8 [a0, some (.ref r), a2, a3] st I J Q ↔ At 70 9 [a0, some (.ref r), a2, a3] (.ref r :: st) I J Q := A_aload_n (q := 1) (ab_io ci70 (by decide +kernel)) rfl
theorem k70_9 : At 70 9 [a0, a1, a2, some (.int x)] st I J Q ↔ At 70 10 [a0, a1, a2, some (.int x)] (.int x :: st) I J Q := A_iload_n (q := 3) (ab_io ci70 (by decide +kernel)) rfl
theorem k70_10 : At 70 10 ls st I J Q ↔ At 70 11 ls (.int (-1) :: st) I J Q := A_iconst (ab_io ci70 (by decide +kernel)) ic_m1
theorem k70_11 : At 70 11 ls (.int x1 :: .int x :: .ref r :: st) I J Q ↔ ((ab_ly r).1 = 1 ∧ r < 75 ∧ 0 ≤ x.toInt ∧ x.toInt < (ab_ly r).2) ∧ At 70 12 ls st (va_up I r (va_up (I r) x.toNatClampNeg x1)) J Q := A_iastore (ab_io ci70 (by decide +kernel))
theorem k70_12 : At 70 12 [a0, a1, some (.ref r), a3] st I J Q ↔ At 70 13 [a0, a1, some (.ref r), a3] (.ref r :: st) I J Q := A_aload_n (q := 2) (ab_io ci70 (by decide +kernel)) rfl
theorem k70_13 : At 70 13 [a0, a1, a2, some (.int x)] st I J Q ↔ At 70 14 [a0, a1, a2, some (.int x)] (.int x :: st) I J Q := A_iload_n (q := 3) (ab_io ci70 (by decide +kernel)) rfl
theorem k70_14 : At 70 14 ls st I J Q ↔ At 70 15 ls (.int (-1) :: st) I J Q := A_iconst (ab_io ci70 (by decide +kernel)) ic_m1
theorem k70_15 : At 70 15 ls (.int x1 :: .int x :: .ref r :: st) I J Q ↔ ((ab_ly r).1 = 1 ∧ r < 75 ∧ 0 ≤ x.toInt ∧ x.toInt < (ab_ly r).2) ∧ At 70 16 ls st (va_up I r (va_up (I r) x.toNatClampNeg x1)) J Q := A_iastore (ab_io ci70 (by decide +kernel))
theorem k70_16 : At 70 16 [a0, a1, a2, some (.int x)] st I J Q ↔ At 70 19 [a0, a1, ab_nv a2, some (.int (x + (nI 1)))] st I J Q := A_iinc (q := 3) (ab_io ci70 (by decide +kernel)) ic_1 (Nat.le_of_ble_eq_true rfl) rfl rfl
theorem k70_19 : At 70 19 ls st I J Q ↔ At 70 2 ls st I J Q := A_goto (o := (-17)) (ab_io ci70 (by decide +kernel)) (by decide)
theorem k70_22 : At 70 22 ls st I J Q ↔ At 70 23 ls (.int (nI 0) :: st) I J Q := A_iconst (ab_io ci70 (by decide +kernel)) ic_0
theorem k70_23 : At 70 23 [a0, a1, a2, a3] (.int x :: st) I J Q ↔ At 70 24 [a0, a1, ab_nv a2, some (.int x)] st I J Q := A_istore_n (q := 3) (ab_io ci70 (by decide +kernel)) (Nat.le_of_ble_eq_true rfl) rfl
theorem k70_24 : At 70 24 [a0, a1, a2, some (.int x)] st I J Q ↔ At 70 25 [a0, a1, a2, some (.int x)] (.int x :: st) I J Q := A_iload_n (q := 3) (ab_io ci70 (by decide +kernel)) rfl
theorem k70_25 : At 70 25 [some (.ref r), a1, a2, a3] st I J Q ↔ At 70 26 [some (.ref r), a1, a2, a3] (.ref r :: st) I J Q := A_aload_n (q := 0) (ab_io ci70 (by decide +kernel)) rfl
theorem k70_26 : At 70 26 ls (.ref 1 :: st) I J Q ↔ At 70 29 ls (.int (I 1 3) :: st) I J Q := A_getI (ab_io ci70 (by decide +kernel)) ow70 fq5_21_1
theorem k70_29 : At 70 29 ls (.int x1 :: .int x :: st) I J Q ↔ if x1 ≤ x then At 70 74 ls st I J Q else At 70 32 ls st I J Q := A_if_icmp_ge (o := 45) (ab_io ci70 (by decide +kernel)) (by decide)
theorem k70_32 : At 70 32 [some (.ref r), a1, a2, a3] st I J Q ↔ At 70 33 [some (.ref r), a1, a2, a3] (.ref r :: st) I J Q := A_aload_n (q := 0) (ab_io ci70 (by decide +kernel)) rfl
theorem k70_33 : At 70 33 ls (.ref 1 :: st) I J Q ↔ At 70 36 ls (.ref 4 :: st) I J Q := A_getR (ab_io ci70 (by decide +kernel)) ow70 fq5_18_1
theorem k70_36 : At 70 36 [a0, a1, a2, some (.int x)] st I J Q ↔ At 70 37 [a0, a1, a2, some (.int x)] (.int x :: st) I J Q := A_iload_n (q := 3) (ab_io ci70 (by decide +kernel)) rfl
theorem k70_37 : At 70 37 ls (.int x :: .ref r :: st) I J Q ↔ ((ab_ly r).1 = 1 ∧ r < 75 ∧ 0 ≤ x.toInt ∧ x.toInt < (ab_ly r).2) ∧ At 70 38 ls (.int (I r x.toNatClampNeg) :: st) I J Q := A_iaload (ab_io ci70 (by decide +kernel))
theorem k70_38 : At 70 38 [some (.ref r), a1, a2, a3] st I J Q ↔ At 70 39 [some (.ref r), a1, a2, a3] (.ref r :: st) I J Q := A_aload_n (q := 0) (ab_io ci70 (by decide +kernel)) rfl
theorem k70_39 : At 70 39 ls (.ref 1 :: st) I J Q ↔ At 70 42 ls (.int (I 1 5) :: st) I J Q := A_getI (ab_io ci70 (by decide +kernel)) ow70 fq5_28_1
theorem k70_42 : At 70 42 ls (.int x1 :: .int x :: st) I J Q ↔ if x1 < x then At 70 68 ls st I J Q else At 70 45 ls st I J Q := A_if_icmp_gt (o := 26) (ab_io ci70 (by decide +kernel)) (by decide)
theorem k70_45 : At 70 45 [a0, some (.ref r), a2, a3] st I J Q ↔ At 70 46 [a0, some (.ref r), a2, a3] (.ref r :: st) I J Q := A_aload_n (q := 1) (ab_io ci70 (by decide +kernel)) rfl
theorem k70_46 : At 70 46 [some (.ref r), a1, a2, a3] st I J Q ↔ At 70 47 [some (.ref r), a1, a2, a3] (.ref r :: st) I J Q := A_aload_n (q := 0) (ab_io ci70 (by decide +kernel)) rfl
theorem k70_47 : At 70 47 ls (.ref 1 :: st) I J Q ↔ At 70 50 ls (.ref 2 :: st) I J Q := A_getR (ab_io ci70 (by decide +kernel)) ow70 fq5_11_1
theorem k70_50 : At 70 50 [a0, a1, a2, some (.int x)] st I J Q ↔ At 70 51 [a0, a1, a2, some (.int x)] (.int x :: st) I J Q := A_iload_n (q := 3) (ab_io ci70 (by decide +kernel)) rfl
theorem k70_51 : At 70 51 ls (.int x :: .ref r :: st) I J Q ↔ ((ab_ly r).1 = 1 ∧ r < 75 ∧ 0 ≤ x.toInt ∧ x.toInt < (ab_ly r).2) ∧ At 70 52 ls (.int (I r x.toNatClampNeg) :: st) I J Q := A_iaload (ab_io ci70 (by decide +kernel))
theorem k70_52 : At 70 52 [some (.ref r), a1, a2, a3] st I J Q ↔ At 70 53 [some (.ref r), a1, a2, a3] (.ref r :: st) I J Q := A_aload_n (q := 0) (ab_io ci70 (by decide +kernel)) rfl
theorem k70_53 : At 70 53 ls (.ref 1 :: st) I J Q ↔ At 70 56 ls (.ref 3 :: st) I J Q := A_getR (ab_io ci70 (by decide +kernel)) ow70 fq5_15_1
theorem k70_56 : At 70 56 [a0, a1, a2, some (.int x)] st I J Q ↔ At 70 57 [a0, a1, a2, some (.int x)] (.int x :: st) I J Q := A_iload_n (q := 3) (ab_io ci70 (by decide +kernel)) rfl
theorem k70_57 : At 70 57 ls (.int x :: .ref r :: st) I J Q ↔ ((ab_ly r).1 = 1 ∧ r < 75 ∧ 0 ≤ x.toInt ∧ x.toInt < (ab_ly r).2) ∧ At 70 58 ls (.int (I r x.toNatClampNeg) :: st) I J Q := A_iaload (ab_io ci70 (by decide +kernel))
theorem k70_58 : At 70 58 ls (.int x1 :: .int x :: .ref r :: st) I J Q ↔ ((ab_ly r).1 = 1 ∧ r < 75 ∧ 0 ≤ x.toInt ∧ x.toInt < (ab_ly r).2) ∧ At 70 59 ls st (va_up I r (va_up (I r) x.toNatClampNeg x1)) J Q := A_iastore (ab_io ci70 (by decide +kernel))
theorem k70_59 : At 70 59 [a0, a1, some (.ref r), a3] st I J Q ↔ At 70 60 [a0, a1, some (.ref r), a3] (.ref r :: st) I J Q := A_aload_n (q := 2) (ab_io ci70 (by decide +kernel)) rfl
theorem k70_60 : At 70 60 [some (.ref r), a1, a2, a3] st I J Q ↔ At 70 61 [some (.ref r), a1, a2, a3] (.ref r :: st) I J Q := A_aload_n (q := 0) (ab_io ci70 (by decide +kernel)) rfl
theorem k70_61 : At 70 61 ls (.ref 1 :: st) I J Q ↔ At 70 64 ls (.ref 2 :: st) I J Q := A_getR (ab_io ci70 (by decide +kernel)) ow70 fq5_11_1
theorem k70_64 : At 70 64 [a0, a1, a2, some (.int x)] st I J Q ↔ At 70 65 [a0, a1, a2, some (.int x)] (.int x :: st) I J Q := A_iload_n (q := 3) (ab_io ci70 (by decide +kernel)) rfl
theorem k70_65 : At 70 65 ls (.int x :: .ref r :: st) I J Q ↔ ((ab_ly r).1 = 1 ∧ r < 75 ∧ 0 ≤ x.toInt ∧ x.toInt < (ab_ly r).2) ∧ At 70 66 ls (.int (I r x.toNatClampNeg) :: st) I J Q := A_iaload (ab_io ci70 (by decide +kernel))
theorem k70_66 : At 70 66 [a0, a1, a2, some (.int x)] st I J Q ↔ At 70 67 [a0, a1, a2, some (.int x)] (.int x :: st) I J Q := A_iload_n (q := 3) (ab_io ci70 (by decide +kernel)) rfl
theorem k70_67 : At 70 67 ls (.int x1 :: .int x :: .ref r :: st) I J Q ↔ ((ab_ly r).1 = 1 ∧ r < 75 ∧ 0 ≤ x.toInt ∧ x.toInt < (ab_ly r).2) ∧ At 70 68 ls st (va_up I r (va_up (I r) x.toNatClampNeg x1)) J Q := A_iastore (ab_io ci70 (by decide +kernel))
theorem k70_68 : At 70 68 [a0, a1, a2, some (.int x)] st I J Q ↔ At 70 71 [a0, a1, ab_nv a2, some (.int (x + (nI 1)))] st I J Q := A_iinc (q := 3) (ab_io ci70 (by decide +kernel)) ic_1 (Nat.le_of_ble_eq_true rfl) rfl rfl
theorem k70_71 : At 70 71 ls st I J Q ↔ At 70 24 ls st I J Q := A_goto (o := (-47)) (ab_io ci70 (by decide +kernel)) (by decide)
theorem k70_74 : At 70 74 ls [] I J Q ↔ Q none I J := A_vret (ab_io ci70 (by decide +kernel)) rt70
theorem k72_0 : At 72 0 [some (.ref r), a1, a2, a3, a4] st I J Q ↔ At 72 1 [some (.ref r), a1, a2, a3, a4] (.ref r :: st) I J Q := A_aload_n (q := 0) (ab_io ci72 (by decide +kernel)) rfl
theorem k72_1 : At 72 1 ls st I J Q ↔ At 72 2 ls (.int (nI 0) :: st) I J Q := A_iconst (ab_io ci72 (by decide +kernel)) ic_0
theorem k72_2 : At 72 2 ls (.int x :: .ref 30 :: st) I J Q ↔ At 72 5 ls st (va_up I 30 (va_up (I 30) 2 x)) J Q := A_putI (ab_io ci72 (by decide +kernel)) ow72 fq6_18_30
theorem k72_5 : At 72 5 [some (.ref r), a1, a2, a3, a4] st I J Q ↔ At 72 6 [some (.ref r), a1, a2, a3, a4] (.ref r :: st) I J Q := A_aload_n (q := 0) (ab_io ci72 (by decide +kernel)) rfl
theorem k72_6 : At 72 6 ls st I J Q ↔ At 72 7 ls (.int (nI 0) :: st) I J Q := A_iconst (ab_io ci72 (by decide +kernel)) ic_0
theorem k72_7 : At 72 7 ls (.int x :: .ref 30 :: st) I J Q ↔ At 72 10 ls st (va_up I 30 (va_up (I 30) 3 x)) J Q := A_putI (ab_io ci72 (by decide +kernel)) ow72 fq6_22_30
theorem k72_10 : At 72 10 ls st I J Q ↔ At 72 11 ls (.int (nI 0) :: st) I J Q := A_iconst (ab_io ci72 (by decide +kernel)) ic_0
theorem k72_11 : At 72 11 [a0, a1, a2, a3, a4] (.int x :: st) I J Q ↔ At 72 12 [a0, a1, ab_nv a2, some (.int x), a4] st I J Q := A_istore_n (q := 3) (ab_io ci72 (by decide +kernel)) (Nat.le_of_ble_eq_true rfl) rfl
theorem k72_12 : At 72 12 [a0, a1, a2, some (.int x), a4] st I J Q ↔ At 72 13 [a0, a1, a2, some (.int x), a4] (.int x :: st) I J Q := A_iload_n (q := 3) (ab_io ci72 (by decide +kernel)) rfl
theorem k72_13 : At 72 13 ls st I J Q ↔ At 72 14 ls (.int (nI 4) :: st) I J Q := A_iconst (ab_io ci72 (by decide +kernel)) ic_4
theorem k72_14 : At 72 14 ls (.int x1 :: .int x :: st) I J Q ↔ if x1 ≤ x then At 72 35 ls st I J Q else At 72 17 ls st I J Q := A_if_icmp_ge (o := 21) (ab_io ci72 (by decide +kernel)) (by decide)
theorem k72_17 : At 72 17 [some (.ref r), a1, a2, a3, a4] st I J Q ↔ At 72 18 [some (.ref r), a1, a2, a3, a4] (.ref r :: st) I J Q := A_aload_n (q := 0) (ab_io ci72 (by decide +kernel)) rfl
theorem k72_18 : At 72 18 ls (.ref 30 :: st) I J Q ↔ At 72 21 ls (.ref 31 :: st) I J Q := A_getR (ab_io ci72 (by decide +kernel)) ow72 fq6_9_30
theorem k72_21 : At 72 21 [a0, a1, a2, some (.int x), a4] st I J Q ↔ At 72 22 [a0, a1, a2, some (.int x), a4] (.int x :: st) I J Q := A_iload_n (q := 3) (ab_io ci72 (by decide +kernel)) rfl
theorem k72_22 : At 72 22 [a0, some (.ref r), a2, a3, a4] st I J Q ↔ At 72 23 [a0, some (.ref r), a2, a3, a4] (.ref r :: st) I J Q := A_aload_n (q := 1) (ab_io ci72 (by decide +kernel)) rfl
theorem k72_23_5 : At 72 23 ls (.ref 5 :: st) I J Q ↔ At 72 26 ls (.ref 10 :: st) I J Q := A_getR (ab_io ci72 (by decide +kernel)) ow72 fq6_25_5
theorem k72_23_17 : At 72 23 ls (.ref 17 :: st) I J Q ↔ At 72 26 ls (.ref 22 :: st) I J Q := A_getR (ab_io ci72 (by decide +kernel)) ow72 fq6_25_17
theorem k72_26 : At 72 26 [a0, a1, a2, some (.int x), a4] st I J Q ↔ At 72 27 [a0, a1, a2, some (.int x), a4] (.int x :: st) I J Q := A_iload_n (q := 3) (ab_io ci72 (by decide +kernel)) rfl
theorem k72_27 : At 72 27 ls (.int x :: .ref r :: st) I J Q ↔ ((ab_ly r).1 = 1 ∧ r < 75 ∧ 0 ≤ x.toInt ∧ x.toInt < (ab_ly r).2) ∧ At 72 28 ls (.int (I r x.toNatClampNeg) :: st) I J Q := A_iaload (ab_io ci72 (by decide +kernel))
theorem k72_28 : At 72 28 ls (.int x1 :: .int x :: .ref r :: st) I J Q ↔ ((ab_ly r).1 = 1 ∧ r < 75 ∧ 0 ≤ x.toInt ∧ x.toInt < (ab_ly r).2) ∧ At 72 29 ls st (va_up I r (va_up (I r) x.toNatClampNeg x1)) J Q := A_iastore (ab_io ci72 (by decide +kernel))
theorem k72_29 : At 72 29 [a0, a1, a2, some (.int x), a4] st I J Q ↔ At 72 32 [a0, a1, ab_nv a2, some (.int (x + (nI 1))), a4] st I J Q := A_iinc (q := 3) (ab_io ci72 (by decide +kernel)) ic_1 (Nat.le_of_ble_eq_true rfl) rfl rfl
theorem k72_32 : At 72 32 ls st I J Q ↔ At 72 12 ls st I J Q := A_goto (o := (-20)) (ab_io ci72 (by decide +kernel)) (by decide)
theorem k72_35 : At 72 35 ls st I J Q ↔ At 72 36 ls (.int (nI 1) :: st) I J Q := A_iconst (ab_io ci72 (by decide +kernel)) ic_1
theorem k72_36 : At 72 36 [a0, a1, a2, a3, a4] (.int x :: st) I J Q ↔ At 72 37 [a0, a1, ab_nv a2, some (.int x), a4] st I J Q := A_istore_n (q := 3) (ab_io ci72 (by decide +kernel)) (Nat.le_of_ble_eq_true rfl) rfl
theorem k72_37 : At 72 37 [a0, a1, a2, some (.int x), a4] st I J Q ↔ At 72 38 [a0, a1, a2, some (.int x), a4] (.int x :: st) I J Q := A_iload_n (q := 3) (ab_io ci72 (by decide +kernel)) rfl
theorem k72_38 : At 72 38 ls st I J Q ↔ At 72 39 ls (.int (nI 4) :: st) I J Q := A_iconst (ab_io ci72 (by decide +kernel)) ic_4
theorem k72_39 : At 72 39 ls (.int x1 :: .int x :: st) I J Q ↔ if x1 ≤ x then At 72 125 ls st I J Q else At 72 42 ls st I J Q := A_if_icmp_ge (o := 86) (ab_io ci72 (by decide +kernel)) (by decide)
theorem k72_42 : At 72 42 [some (.ref r), a1, a2, a3, a4] st I J Q ↔ At 72 43 [some (.ref r), a1, a2, a3, a4] (.ref r :: st) I J Q := A_aload_n (q := 0) (ab_io ci72 (by decide +kernel)) rfl
theorem k72_43 : At 72 43 [a0, some (.ref r), a2, a3, a4] st I J Q ↔ At 72 44 [a0, some (.ref r), a2, a3, a4] (.ref r :: st) I J Q := A_aload_n (q := 1) (ab_io ci72 (by decide +kernel)) rfl
theorem k72_44 : At 72 44 [a0, a1, some (.ref r), a3, a4] st I J Q ↔ At 72 45 [a0, a1, some (.ref r), a3, a4] (.ref r :: st) I J Q := A_aload_n (q := 2) (ab_io ci72 (by decide +kernel)) rfl
theorem k72_45 : At 72 45 ls [.ref pr0, .ref pr1, .ref 30] I J Q ↔ Cal 73 [.ref 30, .ref pr1, .ref pr0] I J (fun v I' J' => At 72 48 ls (v.toList ++ []) I' J' Q) := A_cal (kd := 0) (j := 30) (na := 3) (ea := 3) (rk := 30) (by decide +kernel) rfl rfl rfl (Or.inr rfl) (Nat.le_of_ble_eq_true rfl)
theorem k72_48 : At 72 48 [a0, a1, a2, a3, a4] (.int x :: st) I J Q ↔ At 72 50 [a0, a1, a2, ab_nv a3, some (.int x)] st I J Q := A_istore (q := 4) (ab_io ci72 (by decide +kernel)) (Nat.le_of_ble_eq_true rfl) rfl
theorem k72_50 : At 72 50 [a0, a1, a2, a3, some (.int x)] st I J Q ↔ At 72 52 [a0, a1, a2, a3, some (.int x)] (.int x :: st) I J Q := A_iload (q := 4) (ab_io ci72 (by decide +kernel)) rfl
theorem k72_52 : At 72 52 ls st I J Q ↔ At 72 53 ls (.int (-1) :: st) I J Q := A_iconst (ab_io ci72 (by decide +kernel)) ic_m1
theorem k72_53 : At 72 53 ls (.int x1 :: .int x :: st) I J Q ↔ if x = x1 then At 72 119 ls st I J Q else At 72 56 ls st I J Q := A_if_icmp_eq (o := 66) (ab_io ci72 (by decide +kernel)) (by decide)
theorem k72_56 : At 72 56 [some (.ref r), a1, a2, a3, a4] st I J Q ↔ At 72 57 [some (.ref r), a1, a2, a3, a4] (.ref r :: st) I J Q := A_aload_n (q := 0) (ab_io ci72 (by decide +kernel)) rfl
theorem k72_57 : At 72 57 ls (.ref 30 :: st) I J Q ↔ At 72 60 ls (.ref 32 :: st) I J Q := A_getR (ab_io ci72 (by decide +kernel)) ow72 fq6_15_30
theorem k72_60 : At 72 60 [some (.ref r), a1, a2, a3, a4] st I J Q ↔ At 72 61 [some (.ref r), a1, a2, a3, a4] (.ref r :: st) I J Q := A_aload_n (q := 0) (ab_io ci72 (by decide +kernel)) rfl
theorem k72_61 : At 72 61 ls (.ref 30 :: st) I J Q ↔ At 72 64 ls (.int (I 30 2) :: st) I J Q := A_getI (ab_io ci72 (by decide +kernel)) ow72 fq6_18_30
theorem k72_64 : At 72 64 [a0, a1, a2, a3, some (.int x)] st I J Q ↔ At 72 66 [a0, a1, a2, a3, some (.int x)] (.int x :: st) I J Q := A_iload (q := 4) (ab_io ci72 (by decide +kernel)) rfl
theorem k72_66 : At 72 66 ls (.int x1 :: .int x :: .ref r :: st) I J Q ↔ ((ab_ly r).1 = 1 ∧ r < 75 ∧ 0 ≤ x.toInt ∧ x.toInt < (ab_ly r).2) ∧ At 72 67 ls st (va_up I r (va_up (I r) x.toNatClampNeg x1)) J Q := A_iastore (ab_io ci72 (by decide +kernel))
theorem k72_67 : At 72 67 [some (.ref r), a1, a2, a3, a4] st I J Q ↔ At 72 68 [some (.ref r), a1, a2, a3, a4] (.ref r :: st) I J Q := A_aload_n (q := 0) (ab_io ci72 (by decide +kernel)) rfl
theorem k72_68 : At 72 68 ls (.ref r :: st) I J Q ↔ At 72 69 ls (.ref r :: .ref r :: st) I J Q := A_dupA (ab_io ci72 (by decide +kernel))
theorem k72_69 : At 72 69 ls (.ref 30 :: st) I J Q ↔ At 72 72 ls (.int (I 30 2) :: st) I J Q := A_getI (ab_io ci72 (by decide +kernel)) ow72 fq6_18_30
theorem k72_72 : At 72 72 ls st I J Q ↔ At 72 73 ls (.int (nI 1) :: st) I J Q := A_iconst (ab_io ci72 (by decide +kernel)) ic_1
theorem k72_73 : At 72 73 ls (.int x1 :: .int x :: st) I J Q ↔ At 72 74 ls (.int (x + x1) :: st) I J Q := A_iadd (ab_io ci72 (by decide +kernel))
theorem k72_74 : At 72 74 ls (.int x :: .ref 30 :: st) I J Q ↔ At 72 77 ls st (va_up I 30 (va_up (I 30) 2 x)) J Q := A_putI (ab_io ci72 (by decide +kernel)) ow72 fq6_18_30
theorem k72_77 : At 72 77 [some (.ref r), a1, a2, a3, a4] st I J Q ↔ At 72 78 [some (.ref r), a1, a2, a3, a4] (.ref r :: st) I J Q := A_aload_n (q := 0) (ab_io ci72 (by decide +kernel)) rfl
theorem k72_78 : At 72 78 ls (.ref r :: st) I J Q ↔ At 72 79 ls (.ref r :: .ref r :: st) I J Q := A_dupA (ab_io ci72 (by decide +kernel))
theorem k72_79 : At 72 79 ls (.ref 30 :: st) I J Q ↔ At 72 82 ls (.int (I 30 3) :: st) I J Q := A_getI (ab_io ci72 (by decide +kernel)) ow72 fq6_22_30
theorem k72_82 : At 72 82 [a0, a1, some (.ref r), a3, a4] st I J Q ↔ At 72 83 [a0, a1, some (.ref r), a3, a4] (.ref r :: st) I J Q := A_aload_n (q := 2) (ab_io ci72 (by decide +kernel)) rfl
theorem k72_83 : At 72 83 [a0, a1, a2, a3, some (.int x)] st I J Q ↔ At 72 85 [a0, a1, a2, a3, some (.int x)] (.int x :: st) I J Q := A_iload (q := 4) (ab_io ci72 (by decide +kernel)) rfl
theorem k72_85 : At 72 85 ls st I J Q ↔ At 72 86 ls (.int (nI 4) :: st) I J Q := A_iconst (ab_io ci72 (by decide +kernel)) ic_4
theorem k72_86 : At 72 86 ls (.int x1 :: .int x :: st) I J Q ↔ ¬ x1 = 0 ∧ At 72 87 ls (.int (x - x / x1 * x1) :: st) I J Q := A_irem (ab_io ci72 (by decide +kernel))
theorem k72_87 : At 72 87 ls (.int x :: .ref r :: st) I J Q ↔ ((ab_ly r).1 = 1 ∧ r < 75 ∧ 0 ≤ x.toInt ∧ x.toInt < (ab_ly r).2) ∧ At 72 88 ls (.int (I r x.toNatClampNeg) :: st) I J Q := A_iaload (ab_io ci72 (by decide +kernel))
theorem k72_88 : At 72 88 ls (.int x1 :: .int x :: st) I J Q ↔ At 72 89 ls (.int (x + x1) :: st) I J Q := A_iadd (ab_io ci72 (by decide +kernel))
theorem k72_89 : At 72 89 ls (.int x :: .ref 30 :: st) I J Q ↔ At 72 92 ls st (va_up I 30 (va_up (I 30) 3 x)) J Q := A_putI (ab_io ci72 (by decide +kernel)) ow72 fq6_22_30
theorem k72_92 : At 72 92 [some (.ref r), a1, a2, a3, a4] st I J Q ↔ At 72 93 [some (.ref r), a1, a2, a3, a4] (.ref r :: st) I J Q := A_aload_n (q := 0) (ab_io ci72 (by decide +kernel)) rfl
theorem k72_93 : At 72 93 [some (.ref r), a1, a2, a3, a4] st I J Q ↔ At 72 94 [some (.ref r), a1, a2, a3, a4] (.ref r :: st) I J Q := A_aload_n (q := 0) (ab_io ci72 (by decide +kernel)) rfl
theorem k72_94 : At 72 94 ls (.ref 30 :: st) I J Q ↔ At 72 97 ls (.ref 31 :: st) I J Q := A_getR (ab_io ci72 (by decide +kernel)) ow72 fq6_9_30
theorem k72_97 : At 72 97 [a0, some (.ref r), a2, a3, a4] st I J Q ↔ At 72 98 [a0, some (.ref r), a2, a3, a4] (.ref r :: st) I J Q := A_aload_n (q := 1) (ab_io ci72 (by decide +kernel)) rfl
theorem k72_98_5 : At 72 98 ls (.ref 5 :: st) I J Q ↔ At 72 101 ls (.ref 11 :: st) I J Q := A_getR (ab_io ci72 (by decide +kernel)) ow72 fq6_34_5
theorem k72_98_17 : At 72 98 ls (.ref 17 :: st) I J Q ↔ At 72 101 ls (.ref 23 :: st) I J Q := A_getR (ab_io ci72 (by decide +kernel)) ow72 fq6_34_17
theorem k72_101 : At 72 101 [a0, a1, a2, a3, some (.int x)] st I J Q ↔ At 72 103 [a0, a1, a2, a3, some (.int x)] (.int x :: st) I J Q := A_iload (q := 4) (ab_io ci72 (by decide +kernel)) rfl
theorem k72_103 : At 72 103 ls st I J Q ↔ At 72 104 ls (.int (nI 4) :: st) I J Q := A_iconst (ab_io ci72 (by decide +kernel)) ic_4
theorem k72_104 : At 72 104 ls (.int x1 :: .int x :: st) I J Q ↔ ¬ x1 = 0 ∧ At 72 105 ls (.int (x / x1) :: st) I J Q := A_idiv (ab_io ci72 (by decide +kernel))
theorem k72_105 : At 72 105 ls (.int x :: .ref r :: st) I J Q ↔ ((ab_ly r).1 = 1 ∧ r < 75 ∧ 0 ≤ x.toInt ∧ x.toInt < (ab_ly r).2) ∧ At 72 106 ls (.int (I r x.toNatClampNeg) :: st) I J Q := A_iaload (ab_io ci72 (by decide +kernel))
theorem k72_106 : At 72 106 ls (.int x :: .ref r :: st) I J Q ↔ ((ab_ly r).1 = 1 ∧ r < 75 ∧ 0 ≤ x.toInt ∧ x.toInt < (ab_ly r).2) ∧ At 72 107 ls (.int (I r x.toNatClampNeg) :: st) I J Q := A_iaload (ab_io ci72 (by decide +kernel))
theorem k72_107 : At 72 107 [some (.ref r), a1, a2, a3, a4] st I J Q ↔ At 72 108 [some (.ref r), a1, a2, a3, a4] (.ref r :: st) I J Q := A_aload_n (q := 0) (ab_io ci72 (by decide +kernel)) rfl
theorem k72_108 : At 72 108 ls (.ref 30 :: st) I J Q ↔ At 72 111 ls (.ref 31 :: st) I J Q := A_getR (ab_io ci72 (by decide +kernel)) ow72 fq6_9_30
theorem k72_111 : At 72 111 [a0, a1, a2, a3, some (.int x)] st I J Q ↔ At 72 113 [a0, a1, a2, a3, some (.int x)] (.int x :: st) I J Q := A_iload (q := 4) (ab_io ci72 (by decide +kernel)) rfl
theorem k72_113 : At 72 113 ls st I J Q ↔ At 72 114 ls (.int (nI 4) :: st) I J Q := A_iconst (ab_io ci72 (by decide +kernel)) ic_4
theorem k72_114 : At 72 114 ls (.int x1 :: .int x :: st) I J Q ↔ ¬ x1 = 0 ∧ At 72 115 ls (.int (x - x / x1 * x1) :: st) I J Q := A_irem (ab_io ci72 (by decide +kernel))
theorem k72_115 : At 72 115 ls (.int x :: .ref r :: st) I J Q ↔ ((ab_ly r).1 = 1 ∧ r < 75 ∧ 0 ≤ x.toInt ∧ x.toInt < (ab_ly r).2) ∧ At 72 116 ls (.int (I r x.toNatClampNeg) :: st) I J Q := A_iaload (ab_io ci72 (by decide +kernel))
theorem k72_116 : At 72 116 ls [.int p0, .int p1, .ref 30] I J Q ↔ Cal 74 [.ref 30, .int p1, .int p0] I J (fun v I' J' => At 72 119 ls (v.toList ++ []) I' J' Q) := A_cal (kd := 0) (j := 37) (na := 3) (ea := 3) (rk := 30) (by decide +kernel) rfl rfl rfl (Or.inr rfl) (Nat.le_of_ble_eq_true rfl)
theorem k72_119 : At 72 119 [a0, a1, a2, some (.int x), a4] st I J Q ↔ At 72 122 [a0, a1, ab_nv a2, some (.int (x + (nI 1))), a4] st I J Q := A_iinc (q := 3) (ab_io ci72 (by decide +kernel)) ic_1 (Nat.le_of_ble_eq_true rfl) rfl rfl
theorem k72_122 : At 72 122 ls st I J Q ↔ At 72 37 ls st I J Q := A_goto (o := (-85)) (ab_io ci72 (by decide +kernel)) (by decide)
theorem k72_125 : At 72 125 ls [] I J Q ↔ Q none I J := A_vret (ab_io ci72 (by decide +kernel)) rt72
theorem k73_0 : At 73 0 ls st I J Q ↔ At 73 1 ls (.int (-1) :: st) I J Q := A_iconst (ab_io ci73 (by decide +kernel)) ic_m1
theorem k73_1 : At 73 1 [a0, a1, a2, a3, a4, a5, a6] (.int x :: st) I J Q ↔ At 73 2 [a0, a1, ab_nv a2, some (.int x), a4, a5, a6] st I J Q := A_istore_n (q := 3) (ab_io ci73 (by decide +kernel)) (Nat.le_of_ble_eq_true rfl) rfl
theorem k73_2 : At 73 2 ls st I J Q ↔ At 73 3 ls (.int (nI 0) :: st) I J Q := A_iconst (ab_io ci73 (by decide +kernel)) ic_0
theorem k73_3 : At 73 3 [a0, a1, a2, a3, a4, a5, a6] (.int x :: st) I J Q ↔ At 73 5 [a0, a1, a2, ab_nv a3, some (.int x), a5, a6] st I J Q := A_istore (q := 4) (ab_io ci73 (by decide +kernel)) (Nat.le_of_ble_eq_true rfl) rfl
theorem k73_5 : At 73 5 [a0, a1, a2, a3, some (.int x), a5, a6] st I J Q ↔ At 73 7 [a0, a1, a2, a3, some (.int x), a5, a6] (.int x :: st) I J Q := A_iload (q := 4) (ab_io ci73 (by decide +kernel)) rfl
theorem k73_7 : At 73 7 ls st I J Q ↔ At 73 9 ls (.int (nI 48) :: st) I J Q := A_bipush (ab_io ci73 (by decide +kernel)) bc_48
theorem k73_9 : At 73 9 ls (.int x1 :: .int x :: st) I J Q ↔ if x1 ≤ x then At 73 86 ls st I J Q else At 73 12 ls st I J Q := A_if_icmp_ge (o := 77) (ab_io ci73 (by decide +kernel)) (by decide)
theorem k73_12 : At 73 12 [a0, some (.ref r), a2, a3, a4, a5, a6] st I J Q ↔ At 73 13 [a0, some (.ref r), a2, a3, a4, a5, a6] (.ref r :: st) I J Q := A_aload_n (q := 1) (ab_io ci73 (by decide +kernel)) rfl
theorem k73_13_5 : At 73 13 ls (.ref 5 :: st) I J Q ↔ At 73 16 ls (.ref 11 :: st) I J Q := A_getR (ab_io ci73 (by decide +kernel)) ow73 fq6_34_5
theorem k73_13_17 : At 73 13 ls (.ref 17 :: st) I J Q ↔ At 73 16 ls (.ref 23 :: st) I J Q := A_getR (ab_io ci73 (by decide +kernel)) ow73 fq6_34_17
theorem k73_16 : At 73 16 [a0, a1, a2, a3, some (.int x), a5, a6] st I J Q ↔ At 73 18 [a0, a1, a2, a3, some (.int x), a5, a6] (.int x :: st) I J Q := A_iload (q := 4) (ab_io ci73 (by decide +kernel)) rfl
theorem k73_18 : At 73 18 ls st I J Q ↔ At 73 19 ls (.int (nI 4) :: st) I J Q := A_iconst (ab_io ci73 (by decide +kernel)) ic_4
theorem k73_19 : At 73 19 ls (.int x1 :: .int x :: st) I J Q ↔ ¬ x1 = 0 ∧ At 73 20 ls (.int (x / x1) :: st) I J Q := A_idiv (ab_io ci73 (by decide +kernel))
theorem k73_20 : At 73 20 ls (.int x :: .ref r :: st) I J Q ↔ ((ab_ly r).1 = 1 ∧ r < 75 ∧ 0 ≤ x.toInt ∧ x.toInt < (ab_ly r).2) ∧ At 73 21 ls (.int (I r x.toNatClampNeg) :: st) I J Q := A_iaload (ab_io ci73 (by decide +kernel))
theorem k73_21 : At 73 21 [a0, a1, a2, a3, a4, a5, a6] (.int x :: st) I J Q ↔ At 73 23 [a0, a1, a2, a3, ab_nv a4, some (.int x), a6] st I J Q := A_istore (q := 5) (ab_io ci73 (by decide +kernel)) (Nat.le_of_ble_eq_true rfl) rfl
theorem k73_23 : At 73 23 [some (.ref r), a1, a2, a3, a4, a5, a6] st I J Q ↔ At 73 24 [some (.ref r), a1, a2, a3, a4, a5, a6] (.ref r :: st) I J Q := A_aload_n (q := 0) (ab_io ci73 (by decide +kernel)) rfl
theorem k73_24 : At 73 24 ls (.ref 30 :: st) I J Q ↔ At 73 27 ls (.ref 31 :: st) I J Q := A_getR (ab_io ci73 (by decide +kernel)) ow73 fq6_9_30
theorem k73_27 : At 73 27 [a0, a1, a2, a3, some (.int x), a5, a6] st I J Q ↔ At 73 29 [a0, a1, a2, a3, some (.int x), a5, a6] (.int x :: st) I J Q := A_iload (q := 4) (ab_io ci73 (by decide +kernel)) rfl
theorem k73_29 : At 73 29 ls st I J Q ↔ At 73 30 ls (.int (nI 4) :: st) I J Q := A_iconst (ab_io ci73 (by decide +kernel)) ic_4
theorem k73_30 : At 73 30 ls (.int x1 :: .int x :: st) I J Q ↔ ¬ x1 = 0 ∧ At 73 31 ls (.int (x - x / x1 * x1) :: st) I J Q := A_irem (ab_io ci73 (by decide +kernel))
theorem k73_31 : At 73 31 ls (.int x :: .ref r :: st) I J Q ↔ ((ab_ly r).1 = 1 ∧ r < 75 ∧ 0 ≤ x.toInt ∧ x.toInt < (ab_ly r).2) ∧ At 73 32 ls (.int (I r x.toNatClampNeg) :: st) I J Q := A_iaload (ab_io ci73 (by decide +kernel))
theorem k73_32 : At 73 32 [a0, a1, a2, a3, a4, a5, a6] (.int x :: st) I J Q ↔ At 73 34 [a0, a1, a2, a3, a4, ab_nv a5, some (.int x)] st I J Q := A_istore (q := 6) (ab_io ci73 (by decide +kernel)) (Nat.le_of_ble_eq_true rfl) rfl
theorem k73_34 : At 73 34 [a0, a1, a2, a3, a4, some (.int x), a6] st I J Q ↔ At 73 36 [a0, a1, a2, a3, a4, some (.int x), a6] (.int x :: st) I J Q := A_iload (q := 5) (ab_io ci73 (by decide +kernel)) rfl
theorem k73_36 : At 73 36 ls st I J Q ↔ At 73 37 ls (.int (-1) :: st) I J Q := A_iconst (ab_io ci73 (by decide +kernel)) ic_m1
theorem k73_37 : At 73 37 ls (.int x1 :: .int x :: st) I J Q ↔ if x = x1 then At 73 80 ls st I J Q else At 73 40 ls st I J Q := A_if_icmp_eq (o := 43) (ab_io ci73 (by decide +kernel)) (by decide)
theorem k73_40 : At 73 40 [a0, a1, a2, a3, a4, a5, some (.int x)] st I J Q ↔ At 73 42 [a0, a1, a2, a3, a4, a5, some (.int x)] (.int x :: st) I J Q := A_iload (q := 6) (ab_io ci73 (by decide +kernel)) rfl
theorem k73_42 : At 73 42 ls st I J Q ↔ At 73 43 ls (.int (-1) :: st) I J Q := A_iconst (ab_io ci73 (by decide +kernel)) ic_m1
theorem k73_43 : At 73 43 ls (.int x1 :: .int x :: st) I J Q ↔ if x = x1 then At 73 80 ls st I J Q else At 73 46 ls st I J Q := A_if_icmp_eq (o := 37) (ab_io ci73 (by decide +kernel)) (by decide)
theorem k73_46 : At 73 46 [some (.ref r), a1, a2, a3, a4, a5, a6] st I J Q ↔ At 73 47 [some (.ref r), a1, a2, a3, a4, a5, a6] (.ref r :: st) I J Q := A_aload_n (q := 0) (ab_io ci73 (by decide +kernel)) rfl
theorem k73_47 : At 73 47 ls (.ref 30 :: st) I J Q ↔ At 73 50 ls (.ref 31 :: st) I J Q := A_getR (ab_io ci73 (by decide +kernel)) ow73 fq6_9_30
theorem k73_50 : At 73 50 [a0, a1, a2, a3, a4, some (.int x), a6] st I J Q ↔ At 73 52 [a0, a1, a2, a3, a4, some (.int x), a6] (.int x :: st) I J Q := A_iload (q := 5) (ab_io ci73 (by decide +kernel)) rfl
theorem k73_52 : At 73 52 ls (.int x :: .ref r :: st) I J Q ↔ ((ab_ly r).1 = 1 ∧ r < 75 ∧ 0 ≤ x.toInt ∧ x.toInt < (ab_ly r).2) ∧ At 73 53 ls (.int (I r x.toNatClampNeg) :: st) I J Q := A_iaload (ab_io ci73 (by decide +kernel))
theorem k73_53 : At 73 53 [a0, a1, a2, a3, a4, a5, some (.int x)] st I J Q ↔ At 73 55 [a0, a1, a2, a3, a4, a5, some (.int x)] (.int x :: st) I J Q := A_iload (q := 6) (ab_io ci73 (by decide +kernel)) rfl
theorem k73_55 : At 73 55 ls (.int x1 :: .int x :: st) I J Q ↔ if x = x1 then At 73 80 ls st I J Q else At 73 58 ls st I J Q := A_if_icmp_eq (o := 25) (ab_io ci73 (by decide +kernel)) (by decide)
theorem k73_58 : At 73 58 [a0, a1, a2, some (.int x), a4, a5, a6] st I J Q ↔ At 73 59 [a0, a1, a2, some (.int x), a4, a5, a6] (.int x :: st) I J Q := A_iload_n (q := 3) (ab_io ci73 (by decide +kernel)) rfl
theorem k73_59 : At 73 59 ls st I J Q ↔ At 73 60 ls (.int (-1) :: st) I J Q := A_iconst (ab_io ci73 (by decide +kernel)) ic_m1
theorem k73_60 : At 73 60 ls (.int x1 :: .int x :: st) I J Q ↔ if x = x1 then At 73 77 ls st I J Q else At 73 63 ls st I J Q := A_if_icmp_eq (o := 17) (ab_io ci73 (by decide +kernel)) (by decide)
theorem k73_63 : At 73 63 [a0, a1, some (.ref r), a3, a4, a5, a6] st I J Q ↔ At 73 64 [a0, a1, some (.ref r), a3, a4, a5, a6] (.ref r :: st) I J Q := A_aload_n (q := 2) (ab_io ci73 (by decide +kernel)) rfl
theorem k73_64 : At 73 64 [a0, a1, a2, a3, some (.int x), a5, a6] st I J Q ↔ At 73 66 [a0, a1, a2, a3, some (.int x), a5, a6] (.int x :: st) I J Q := A_iload (q := 4) (ab_io ci73 (by decide +kernel)) rfl
theorem k73_66 : At 73 66 ls st I J Q ↔ At 73 67 ls (.int (nI 4) :: st) I J Q := A_iconst (ab_io ci73 (by decide +kernel)) ic_4
theorem k73_67 : At 73 67 ls (.int x1 :: .int x :: st) I J Q ↔ ¬ x1 = 0 ∧ At 73 68 ls (.int (x - x / x1 * x1) :: st) I J Q := A_irem (ab_io ci73 (by decide +kernel))
theorem k73_68 : At 73 68 ls (.int x :: .ref r :: st) I J Q ↔ ((ab_ly r).1 = 1 ∧ r < 75 ∧ 0 ≤ x.toInt ∧ x.toInt < (ab_ly r).2) ∧ At 73 69 ls (.int (I r x.toNatClampNeg) :: st) I J Q := A_iaload (ab_io ci73 (by decide +kernel))
theorem k73_69 : At 73 69 [a0, a1, some (.ref r), a3, a4, a5, a6] st I J Q ↔ At 73 70 [a0, a1, some (.ref r), a3, a4, a5, a6] (.ref r :: st) I J Q := A_aload_n (q := 2) (ab_io ci73 (by decide +kernel)) rfl
theorem k73_70 : At 73 70 [a0, a1, a2, some (.int x), a4, a5, a6] st I J Q ↔ At 73 71 [a0, a1, a2, some (.int x), a4, a5, a6] (.int x :: st) I J Q := A_iload_n (q := 3) (ab_io ci73 (by decide +kernel)) rfl
theorem k73_71 : At 73 71 ls st I J Q ↔ At 73 72 ls (.int (nI 4) :: st) I J Q := A_iconst (ab_io ci73 (by decide +kernel)) ic_4
theorem k73_72 : At 73 72 ls (.int x1 :: .int x :: st) I J Q ↔ ¬ x1 = 0 ∧ At 73 73 ls (.int (x - x / x1 * x1) :: st) I J Q := A_irem (ab_io ci73 (by decide +kernel))
theorem k73_73 : At 73 73 ls (.int x :: .ref r :: st) I J Q ↔ ((ab_ly r).1 = 1 ∧ r < 75 ∧ 0 ≤ x.toInt ∧ x.toInt < (ab_ly r).2) ∧ At 73 74 ls (.int (I r x.toNatClampNeg) :: st) I J Q := A_iaload (ab_io ci73 (by decide +kernel))
theorem k73_74 : At 73 74 ls (.int x1 :: .int x :: st) I J Q ↔ if x1 ≤ x then At 73 80 ls st I J Q else At 73 77 ls st I J Q := A_if_icmp_ge (o := 6) (ab_io ci73 (by decide +kernel)) (by decide)
theorem k73_77 : At 73 77 [a0, a1, a2, a3, some (.int x), a5, a6] st I J Q ↔ At 73 79 [a0, a1, a2, a3, some (.int x), a5, a6] (.int x :: st) I J Q := A_iload (q := 4) (ab_io ci73 (by decide +kernel)) rfl
theorem k73_79 : At 73 79 [a0, a1, a2, a3, a4, a5, a6] (.int x :: st) I J Q ↔ At 73 80 [a0, a1, ab_nv a2, some (.int x), a4, a5, a6] st I J Q := A_istore_n (q := 3) (ab_io ci73 (by decide +kernel)) (Nat.le_of_ble_eq_true rfl) rfl
theorem k73_80 : At 73 80 [a0, a1, a2, a3, some (.int x), a5, a6] st I J Q ↔ At 73 83 [a0, a1, a2, ab_nv a3, some (.int (x + (nI 1))), a5, a6] st I J Q := A_iinc (q := 4) (ab_io ci73 (by decide +kernel)) ic_1 (Nat.le_of_ble_eq_true rfl) rfl rfl
theorem k73_83 : At 73 83 ls st I J Q ↔ At 73 5 ls st I J Q := A_goto (o := (-78)) (ab_io ci73 (by decide +kernel)) (by decide)
theorem k73_86 : At 73 86 [a0, a1, a2, some (.int x), a4, a5, a6] st I J Q ↔ At 73 87 [a0, a1, a2, some (.int x), a4, a5, a6] (.int x :: st) I J Q := A_iload_n (q := 3) (ab_io ci73 (by decide +kernel)) rfl
theorem k73_87 : At 73 87 ls [.int x] I J Q ↔ Q (some (.int x)) I J := A_iret (ab_io ci73 (by decide +kernel)) rt73
theorem k74_0 : At 74 0 ls st I J Q ↔ At 74 1 ls (.int (nI 0) :: st) I J Q := A_iconst (ab_io ci74 (by decide +kernel)) ic_0
theorem k74_1 : At 74 1 [a0, a1, a2, a3] (.int x :: st) I J Q ↔ At 74 2 [a0, a1, ab_nv a2, some (.int x)] st I J Q := A_istore_n (q := 3) (ab_io ci74 (by decide +kernel)) (Nat.le_of_ble_eq_true rfl) rfl
theorem k74_2 : At 74 2 [a0, a1, a2, some (.int x)] st I J Q ↔ At 74 3 [a0, a1, a2, some (.int x)] (.int x :: st) I J Q := A_iload_n (q := 3) (ab_io ci74 (by decide +kernel)) rfl
theorem k74_3 : At 74 3 ls st I J Q ↔ At 74 4 ls (.int (nI 4) :: st) I J Q := A_iconst (ab_io ci74 (by decide +kernel)) ic_4
theorem k74_4 : At 74 4 ls (.int x1 :: .int x :: st) I J Q ↔ if x1 ≤ x then At 74 30 ls st I J Q else At 74 7 ls st I J Q := A_if_icmp_ge (o := 26) (ab_io ci74 (by decide +kernel)) (by decide)
theorem k74_7 : At 74 7 [some (.ref r), a1, a2, a3] st I J Q ↔ At 74 8 [some (.ref r), a1, a2, a3] (.ref r :: st) I J Q := A_aload_n (q := 0) (ab_io ci74 (by decide +kernel)) rfl
theorem k74_8 : At 74 8 ls (.ref 30 :: st) I J Q ↔ At 74 11 ls (.ref 31 :: st) I J Q := A_getR (ab_io ci74 (by decide +kernel)) ow74 fq6_9_30
theorem k74_11 : At 74 11 [a0, a1, a2, some (.int x)] st I J Q ↔ At 74 12 [a0, a1, a2, some (.int x)] (.int x :: st) I J Q := A_iload_n (q := 3) (ab_io ci74 (by decide +kernel)) rfl
theorem k74_12 : At 74 12 ls (.int x :: .ref r :: st) I J Q ↔ ((ab_ly r).1 = 1 ∧ r < 75 ∧ 0 ≤ x.toInt ∧ x.toInt < (ab_ly r).2) ∧ At 74 13 ls (.int (I r x.toNatClampNeg) :: st) I J Q := A_iaload (ab_io ci74 (by decide +kernel))
theorem k74_13 : At 74 13 [a0, a1, some (.int x), a3] st I J Q ↔ At 74 14 [a0, a1, some (.int x), a3] (.int x :: st) I J Q := A_iload_n (q := 2) (ab_io ci74 (by decide +kernel)) rfl
theorem k74_14 : At 74 14 ls (.int x1 :: .int x :: st) I J Q ↔ if ¬ x = x1 then At 74 24 ls st I J Q else At 74 17 ls st I J Q := A_if_icmp_ne (o := 10) (ab_io ci74 (by decide +kernel)) (by decide)
theorem k74_17 : At 74 17 [some (.ref r), a1, a2, a3] st I J Q ↔ At 74 18 [some (.ref r), a1, a2, a3] (.ref r :: st) I J Q := A_aload_n (q := 0) (ab_io ci74 (by decide +kernel)) rfl
theorem k74_18 : At 74 18 ls (.ref 30 :: st) I J Q ↔ At 74 21 ls (.ref 31 :: st) I J Q := A_getR (ab_io ci74 (by decide +kernel)) ow74 fq6_9_30
theorem k74_21 : At 74 21 [a0, a1, a2, some (.int x)] st I J Q ↔ At 74 22 [a0, a1, a2, some (.int x)] (.int x :: st) I J Q := A_iload_n (q := 3) (ab_io ci74 (by decide +kernel)) rfl
theorem k74_22 : At 74 22 [a0, some (.int x), a2, a3] st I J Q ↔ At 74 23 [a0, some (.int x), a2, a3] (.int x :: st) I J Q := A_iload_n (q := 1) (ab_io ci74 (by decide +kernel)) rfl
theorem k74_23 : At 74 23 ls (.int x1 :: .int x :: .ref r :: st) I J Q ↔ ((ab_ly r).1 = 1 ∧ r < 75 ∧ 0 ≤ x.toInt ∧ x.toInt < (ab_ly r).2) ∧ At 74 24 ls st (va_up I r (va_up (I r) x.toNatClampNeg x1)) J Q := A_iastore (ab_io ci74 (by decide +kernel))
theorem k74_24 : At 74 24 [a0, a1, a2, some (.int x)] st I J Q ↔ At 74 27 [a0, a1, ab_nv a2, some (.int (x + (nI 1)))] st I J Q := A_iinc (q := 3) (ab_io ci74 (by decide +kernel)) ic_1 (Nat.le_of_ble_eq_true rfl) rfl rfl
theorem k74_27 : At 74 27 ls st I J Q ↔ At 74 2 ls st I J Q := A_goto (o := (-25)) (ab_io ci74 (by decide +kernel)) (by decide)
theorem k74_30 : At 74 30 ls [] I J Q ↔ Q none I J := A_vret (ab_io ci74 (by decide +kernel)) rt74
end KROWS
