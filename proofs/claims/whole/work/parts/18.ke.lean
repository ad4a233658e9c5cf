section KROWS
variable {ls : ab_L} {st : List Value} {I : ab_I} {J : ab_J} {Q : Option Value → ab_I → ab_J → Prop} {x x1 x2 : Int32} {u u1 : Int64} {r r1 : Nat}
variable {a0 a1 a2 a3 a4 a5 a6 a7 a8 a9 a10 a11 a12 a13 a14 a15 a16 a17 a18 a19 : Option Value}
variable {p0 q0 p1 q1 p2 q2 p3 q3 p4 q4 p5 q5 : Int32} {pu0 qu0 pu1 qu1 pu2 qu2 pu3 qu3 pu4 qu4 pu5 qu5 : Int64} {pr0 qr0 pr1 qr1 pr2 qr2 pr3 qr3 pr4 qr4 pr5 qr5 : Nat}
theorem k170_0 : At 170 0 [some (.ref r), a1, a2, a3, a4, a5, a6, a7, a8, a9, a10, a11, a12] st I J Q ↔ At 170 1 [some (.ref r), a1, a2, a3, a4, a5, a6, a7, a8, a9, a10, a11, a12] (.ref r :: st) I J Q := A_aload_n (q := 0) (ab_io ci170 (by decide +kernel)) rfl
theorem k170_1 : At 170 1 [a0, some (.int x), a2, a3, a4, a5, a6, a7, a8, a9, a10, a11, a12] st I J Q ↔ At 170 2 [a0, some (.int x), a2, a3, a4, a5, a6, a7, a8, a9, a10, a11, a12] (.int x :: st) I J Q := A_iload_n (q := 1) (ab_io ci170 (by decide +kernel)) rfl
theorem k170_2 : At 170 2 ls [.int p0, .ref 49] I J Q ↔ Cal 143 [.ref 49, .int p0] I J (fun v I' J' => At 170 5 ls (v.toList ++ []) I' J' Q) := A_cal (kd := 0) (j := 140) (na := 2) (ea := 2) (rk := 49) (by decide +kernel) rfl rfl rfl (Or.inr rfl) (Nat.le_of_ble_eq_true rfl)
theorem k170_5 : At 170 5 [a0, a1, a2, a3, a4, a5, a6, a7, a8, a9, a10, a11, a12] (.int x :: st) I J Q ↔ At 170 6 [a0, a1, ab_nv a2, some (.int x), a4, a5, a6, a7, a8, a9, a10, a11, a12] st I J Q := A_istore_n (q := 3) (ab_io ci170 (by decide +kernel)) (Nat.le_of_ble_eq_true rfl) rfl
theorem k170_6 : At 170 6 [some (.ref r), a1, a2, a3, a4, a5, a6, a7, a8, a9, a10, a11, a12] st I J Q ↔ At 170 7 [some (.ref r), a1, a2, a3, a4, a5, a6, a7, a8, a9, a10, a11, a12] (.ref r :: st) I J Q := A_aload_n (q := 0) (ab_io ci170 (by decide +kernel)) rfl
theorem k170_7 : At 170 7 [a0, a1, some (.int x), a3, a4, a5, a6, a7, a8, a9, a10, a11, a12] st I J Q ↔ At 170 8 [a0, a1, some (.int x), a3, a4, a5, a6, a7, a8, a9, a10, a11, a12] (.int x :: st) I J Q := A_iload_n (q := 2) (ab_io ci170 (by decide +kernel)) rfl
theorem k170_8 : At 170 8 ls [.int p0, .ref 49] I J Q ↔ Cal 143 [.ref 49, .int p0] I J (fun v I' J' => At 170 11 ls (v.toList ++ []) I' J' Q) := A_cal (kd := 0) (j := 140) (na := 2) (ea := 2) (rk := 49) (by decide +kernel) rfl rfl rfl (Or.inr rfl) (Nat.le_of_ble_eq_true rfl)
theorem k170_11 : At 170 11 [a0, a1, a2, a3, a4, a5, a6, a7, a8, a9, a10, a11, a12] (.int x :: st) I J Q ↔ At 170 13 [a0, a1, a2, ab_nv a3, some (.int x), a5, a6, a7, a8, a9, a10, a11, a12] st I J Q := A_istore (q := 4) (ab_io ci170 (by decide +kernel)) (Nat.le_of_ble_eq_true rfl) rfl
theorem k170_13 : At 170 13 ls st I J Q ↔ At 170 14 ls (.int (nI 0) :: st) I J Q := A_iconst (ab_io ci170 (by decide +kernel)) ic_0
theorem k170_14 : At 170 14 [a0, a1, a2, a3, a4, a5, a6, a7, a8, a9, a10, a11, a12] (.int x :: st) I J Q ↔ At 170 16 [a0, a1, a2, a3, ab_nv a4, some (.int x), a6, a7, a8, a9, a10, a11, a12] st I J Q := A_istore (q := 5) (ab_io ci170 (by decide +kernel)) (Nat.le_of_ble_eq_true rfl) rfl
theorem k170_16 : At 170 16 [a0, a1, a2, a3, a4, some (.int x), a6, a7, a8, a9, a10, a11, a12] st I J Q ↔ At 170 18 [a0, a1, a2, a3, a4, some (.int x), a6, a7, a8, a9, a10, a11, a12] (.int x :: st) I J Q := A_iload (q := 5) (ab_io ci170 (by decide +kernel)) rfl
theorem k170_18 : At 170 18 ls st I J Q ↔ At 170 19 ls (.int (nI 4) :: st) I J Q := A_iconst (ab_io ci170 (by decide +kernel)) ic_4
theorem k170_19 : At 170 19 ls (.int x1 :: .int x :: st) I J Q ↔ if x1 ≤ x then At 170 79 ls st I J Q else At 170 22 ls st I J Q := A_if_icmp_ge (o := 60) (ab_io ci170 (by decide +kernel)) (by decide)
theorem k170_22 : At 170 22 [some (.ref r), a1, a2, a3, a4, a5, a6, a7, a8, a9, a10, a11, a12] st I J Q ↔ At 170 23 [some (.ref r), a1, a2, a3, a4, a5, a6, a7, a8, a9, a10, a11, a12] (.ref r :: st) I J Q := A_aload_n (q := 0) (ab_io ci170 (by decide +kernel)) rfl
theorem k170_23 : At 170 23 ls (.ref 49 :: st) I J Q ↔ At 170 26 ls (.ref 60 :: st) I J Q := A_getR (ab_io ci170 (by decide +kernel)) ow170 fq8_45_49
theorem k170_26 : At 170 26 [a0, a1, a2, a3, a4, some (.int x), a6, a7, a8, a9, a10, a11, a12] st I J Q ↔ At 170 28 [a0, a1, a2, a3, a4, some (.int x), a6, a7, a8, a9, a10, a11, a12] (.int x :: st) I J Q := A_iload (q := 5) (ab_io ci170 (by decide +kernel)) rfl
theorem k170_28 : At 170 28 [some (.ref r), a1, a2, a3, a4, a5, a6, a7, a8, a9, a10, a11, a12] st I J Q ↔ At 170 29 [some (.ref r), a1, a2, a3, a4, a5, a6, a7, a8, a9, a10, a11, a12] (.ref r :: st) I J Q := A_aload_n (q := 0) (ab_io ci170 (by decide +kernel)) rfl
theorem k170_29 : At 170 29 [a0, some (.int x), a2, a3, a4, a5, a6, a7, a8, a9, a10, a11, a12] st I J Q ↔ At 170 30 [a0, some (.int x), a2, a3, a4, a5, a6, a7, a8, a9, a10, a11, a12] (.int x :: st) I J Q := A_iload_n (q := 1) (ab_io ci170 (by decide +kernel)) rfl
theorem k170_30 : At 170 30 [a0, a1, a2, a3, a4, some (.int x), a6, a7, a8, a9, a10, a11, a12] st I J Q ↔ At 170 32 [a0, a1, a2, a3, a4, some (.int x), a6, a7, a8, a9, a10, a11, a12] (.int x :: st) I J Q := A_iload (q := 5) (ab_io ci170 (by decide +kernel)) rfl
theorem k170_32 : At 170 32 ls [.int p0, .int p1, .ref 49, .int q0, .ref qr1] I J Q ↔ Cal 140 [.ref 49, .int p1, .int p0] I J (fun v I' J' => At 170 35 ls (v.toList ++ [.int q0, .ref qr1]) I' J' Q) := A_cal (kd := 0) (j := 136) (na := 3) (ea := 3) (rk := 49) (by decide +kernel) rfl rfl rfl (Or.inr rfl) (Nat.le_of_ble_eq_true rfl)
theorem k170_35 : At 170 35 ls st I J Q ↔ At 170 36 ls (.int (-1) :: st) I J Q := A_iconst (ab_io ci170 (by decide +kernel)) ic_m1
theorem k170_36 : At 170 36 ls (.int x1 :: .int x :: st) I J Q ↔ if ¬ x = x1 then At 170 43 ls st I J Q else At 170 39 ls st I J Q := A_if_icmp_ne (o := 7) (ab_io ci170 (by decide +kernel)) (by decide)
theorem k170_39 : At 170 39 ls st I J Q ↔ At 170 40 ls (.long 0 :: st) I J Q := A_lconst (n := 0) (ab_io ci170 (by decide +kernel)) rfl
theorem k170_40 : At 170 40 ls st I J Q ↔ At 170 49 ls st I J Q := A_goto (o := 9) (ab_io ci170 (by decide +kernel)) (by decide)
theorem k170_43 : At 170 43 ls st I J Q ↔ At 170 46 ls (.long 12 :: st) I J Q := A_ldc2_w (j := 143) (q := 1029) (ab_io ci170 (by decide +kernel)) ow170 (by decide +kernel)
theorem k170_46 : At 170 46 [a0, a1, a2, some (.int x), a4, a5, a6, a7, a8, a9, a10, a11, a12] st I J Q ↔ At 170 47 [a0, a1, a2, some (.int x), a4, a5, a6, a7, a8, a9, a10, a11, a12] (.int x :: st) I J Q := A_iload_n (q := 3) (ab_io ci170 (by decide +kernel)) rfl
theorem k170_47 : At 170 47 ls (.int x :: st) I J Q ↔ At 170 48 ls (.long x.toInt64 :: st) I J Q := A_i2l (ab_io ci170 (by decide +kernel))
theorem k170_48 : At 170 48 ls (.long u1 :: .long u :: st) I J Q ↔ ¬ u1 = 0 ∧ At 170 49 ls (.long (u / u1) :: st) I J Q := A_ldiv (ab_io ci170 (by decide +kernel))
theorem k170_49 : At 170 49 [some (.ref r), a1, a2, a3, a4, a5, a6, a7, a8, a9, a10, a11, a12] st I J Q ↔ At 170 50 [some (.ref r), a1, a2, a3, a4, a5, a6, a7, a8, a9, a10, a11, a12] (.ref r :: st) I J Q := A_aload_n (q := 0) (ab_io ci170 (by decide +kernel)) rfl
theorem k170_50 : At 170 50 [a0, a1, some (.int x), a3, a4, a5, a6, a7, a8, a9, a10, a11, a12] st I J Q ↔ At 170 51 [a0, a1, some (.int x), a3, a4, a5, a6, a7, a8, a9, a10, a11, a12] (.int x :: st) I J Q := A_iload_n (q := 2) (ab_io ci170 (by decide +kernel)) rfl
theorem k170_51 : At 170 51 [a0, a1, a2, a3, a4, some (.int x), a6, a7, a8, a9, a10, a11, a12] st I J Q ↔ At 170 53 [a0, a1, a2, a3, a4, some (.int x), a6, a7, a8, a9, a10, a11, a12] (.int x :: st) I J Q := A_iload (q := 5) (ab_io ci170 (by decide +kernel)) rfl
theorem k170_53 : At 170 53 ls [.int p0, .int p1, .ref 49, .long qu0, .int q1, .ref qr2] I J Q ↔ Cal 140 [.ref 49, .int p1, .int p0] I J (fun v I' J' => At 170 56 ls (v.toList ++ [.long qu0, .int q1, .ref qr2]) I' J' Q) := A_cal (kd := 0) (j := 136) (na := 3) (ea := 3) (rk := 49) (by decide +kernel) rfl rfl rfl (Or.inr rfl) (Nat.le_of_ble_eq_true rfl)
theorem k170_56 : At 170 56 ls st I J Q ↔ At 170 57 ls (.int (-1) :: st) I J Q := A_iconst (ab_io ci170 (by decide +kernel)) ic_m1
theorem k170_57 : At 170 57 ls (.int x1 :: .int x :: st) I J Q ↔ if ¬ x = x1 then At 170 64 ls st I J Q else At 170 60 ls st I J Q := A_if_icmp_ne (o := 7) (ab_io ci170 (by decide +kernel)) (by decide)
theorem k170_60 : At 170 60 ls st I J Q ↔ At 170 61 ls (.long 0 :: st) I J Q := A_lconst (n := 0) (ab_io ci170 (by decide +kernel)) rfl
theorem k170_61 : At 170 61 ls st I J Q ↔ At 170 71 ls st I J Q := A_goto (o := 10) (ab_io ci170 (by decide +kernel)) (by decide)
theorem k170_64 : At 170 64 ls st I J Q ↔ At 170 67 ls (.long 12 :: st) I J Q := A_ldc2_w (j := 143) (q := 1029) (ab_io ci170 (by decide +kernel)) ow170 (by decide +kernel)
theorem k170_67 : At 170 67 [a0, a1, a2, a3, some (.int x), a5, a6, a7, a8, a9, a10, a11, a12] st I J Q ↔ At 170 69 [a0, a1, a2, a3, some (.int x), a5, a6, a7, a8, a9, a10, a11, a12] (.int x :: st) I J Q := A_iload (q := 4) (ab_io ci170 (by decide +kernel)) rfl
theorem k170_69 : At 170 69 ls (.int x :: st) I J Q ↔ At 170 70 ls (.long x.toInt64 :: st) I J Q := A_i2l (ab_io ci170 (by decide +kernel))
theorem k170_70 : At 170 70 ls (.long u1 :: .long u :: st) I J Q ↔ ¬ u1 = 0 ∧ At 170 71 ls (.long (u / u1) :: st) I J Q := A_ldiv (ab_io ci170 (by decide +kernel))
theorem k170_71 : At 170 71 ls (.long u1 :: .long u :: st) I J Q ↔ At 170 72 ls (.long (u - u1) :: st) I J Q := A_lsub (ab_io ci170 (by decide +kernel))
theorem k170_72 : At 170 72 ls (.long u :: .int x :: .ref r :: st) I J Q ↔ ((ab_ly r).1 = 2 ∧ r < 75 ∧ 0 ≤ x.toInt ∧ x.toInt < (ab_ly r).2) ∧ At 170 73 ls st I (va_up J r (va_up (J r) x.toNatClampNeg u)) Q := A_lastore (ab_io ci170 (by decide +kernel))
theorem k170_73 : At 170 73 [a0, a1, a2, a3, a4, some (.int x), a6, a7, a8, a9, a10, a11, a12] st I J Q ↔ At 170 76 [a0, a1, a2, a3, ab_nv a4, some (.int (x + (nI 1))), a6, a7, a8, a9, a10, a11, a12] st I J Q := A_iinc (q := 5) (ab_io ci170 (by decide +kernel)) ic_1 (Nat.le_of_ble_eq_true rfl) rfl rfl
theorem k170_76 : At 170 76 ls st I J Q ↔ At 170 16 ls st I J Q := A_goto (o := (-60)) (ab_io ci170 (by decide +kernel)) (by decide)
theorem k170_79 : At 170 79 [some (.ref r), a1, a2, a3, a4, a5, a6, a7, a8, a9, a10, a11, a12] st I J Q ↔ At 170 80 [some (.ref r), a1, a2, a3, a4, a5, a6, a7, a8, a9, a10, a11, a12] (.ref r :: st) I J Q := A_aload_n (q := 0) (ab_io ci170 (by decide +kernel)) rfl
theorem k170_80 : At 170 80 [some (.ref r), a1, a2, a3, a4, a5, a6, a7, a8, a9, a10, a11, a12] st I J Q ↔ At 170 81 [some (.ref r), a1, a2, a3, a4, a5, a6, a7, a8, a9, a10, a11, a12] (.ref r :: st) I J Q := A_aload_n (q := 0) (ab_io ci170 (by decide +kernel)) rfl
theorem k170_81 : At 170 81 ls (.ref 49 :: st) I J Q ↔ At 170 84 ls (.ref 57 :: st) I J Q := A_getR (ab_io ci170 (by decide +kernel)) ow170 fq8_35_49
theorem k170_84 : At 170 84 [a0, some (.int x), a2, a3, a4, a5, a6, a7, a8, a9, a10, a11, a12] st I J Q ↔ At 170 85 [a0, some (.int x), a2, a3, a4, a5, a6, a7, a8, a9, a10, a11, a12] (.int x :: st) I J Q := A_iload_n (q := 1) (ab_io ci170 (by decide +kernel)) rfl
theorem k170_85 : At 170 85 ls (.int x :: .ref r :: st) I J Q ↔ ((ab_ly r).1 = 1 ∧ r < 75 ∧ 0 ≤ x.toInt ∧ x.toInt < (ab_ly r).2) ∧ At 170 86 ls (.int (I r x.toNatClampNeg) :: st) I J Q := A_iaload (ab_io ci170 (by decide +kernel))
theorem k170_86 : At 170 86 ls [.int p0, .ref 49] I J Q ↔ Cal 145 [.ref 49, .int p0] I J (fun v I' J' => At 170 89 ls (v.toList ++ []) I' J' Q) := A_cal (kd := 0) (j := 156) (na := 2) (ea := 2) (rk := 49) (by decide +kernel) rfl rfl rfl (Or.inr rfl) (Nat.le_of_ble_eq_true rfl)
theorem k170_89 : At 170 89 [some (.ref r), a1, a2, a3, a4, a5, a6, a7, a8, a9, a10, a11, a12] st I J Q ↔ At 170 90 [some (.ref r), a1, a2, a3, a4, a5, a6, a7, a8, a9, a10, a11, a12] (.ref r :: st) I J Q := A_aload_n (q := 0) (ab_io ci170 (by decide +kernel)) rfl
theorem k170_90 : At 170 90 ls (.ref 49 :: st) I J Q ↔ At 170 93 ls (.long (J 49 14) :: st) I J Q := A_getJ (ab_io ci170 (by decide +kernel)) ow170 fq8_149_49
theorem k170_93 : At 170 93 [a0, a1, a2, a3, a4, a5, a6, a7, a8, a9, a10, a11, a12] (.long u :: st) I J Q ↔ At 170 95 [a0, a1, a2, a3, ab_nv a4, some (.long u), none, a7, a8, a9, a10, a11, a12] st I J Q := A_lstore (q := 5) (ab_io ci170 (by decide +kernel)) (Nat.le_of_ble_eq_true rfl) rfl
theorem k170_95 : At 170 95 [some (.ref r), a1, a2, a3, a4, a5, a6, a7, a8, a9, a10, a11, a12] st I J Q ↔ At 170 96 [some (.ref r), a1, a2, a3, a4, a5, a6, a7, a8, a9, a10, a11, a12] (.ref r :: st) I J Q := A_aload_n (q := 0) (ab_io ci170 (by decide +kernel)) rfl
theorem k170_96 : At 170 96 ls (.ref 49 :: st) I J Q ↔ At 170 99 ls (.long (J 49 14) :: st) I J Q := A_getJ (ab_io ci170 (by decide +kernel)) ow170 fq8_149_49
theorem k170_99 : At 170 99 ls (.long u :: st) I J Q ↔ At 170 100 ls (.long (-u) :: st) I J Q := A_lneg (ab_io ci170 (by decide +kernel))
theorem k170_100 : At 170 100 [a0, a1, a2, a3, a4, a5, a6, a7, a8, a9, a10, a11, a12] (.long u :: st) I J Q ↔ At 170 102 [a0, a1, a2, a3, a4, a5, ab_nv a6, some (.long u), none, a9, a10, a11, a12] st I J Q := A_lstore (q := 7) (ab_io ci170 (by decide +kernel)) (Nat.le_of_ble_eq_true rfl) rfl
theorem k170_102 : At 170 102 ls st I J Q ↔ At 170 103 ls (.int (nI 0) :: st) I J Q := A_iconst (ab_io ci170 (by decide +kernel)) ic_0
theorem k170_103 : At 170 103 [a0, a1, a2, a3, a4, a5, a6, a7, a8, a9, a10, a11, a12] (.int x :: st) I J Q ↔ At 170 105 [a0, a1, a2, a3, a4, a5, a6, a7, ab_nv a8, some (.int x), a10, a11, a12] st I J Q := A_istore (q := 9) (ab_io ci170 (by decide +kernel)) (Nat.le_of_ble_eq_true rfl) rfl
theorem k170_105 : At 170 105 [a0, a1, a2, a3, a4, a5, a6, a7, a8, some (.int x), a10, a11, a12] st I J Q ↔ At 170 107 [a0, a1, a2, a3, a4, a5, a6, a7, a8, some (.int x), a10, a11, a12] (.int x :: st) I J Q := A_iload (q := 9) (ab_io ci170 (by decide +kernel)) rfl
theorem k170_107 : At 170 107 ls st I J Q ↔ At 170 108 ls (.int (nI 4) :: st) I J Q := A_iconst (ab_io ci170 (by decide +kernel)) ic_4
theorem k170_108 : At 170 108 ls (.int x1 :: .int x :: st) I J Q ↔ if x1 ≤ x then At 170 171 ls st I J Q else At 170 111 ls st I J Q := A_if_icmp_ge (o := 63) (ab_io ci170 (by decide +kernel)) (by decide)
theorem k170_111 : At 170 111 [a0, a1, a2, a3, a4, some (.long u), a6, a7, a8, a9, a10, a11, a12] st I J Q ↔ At 170 113 [a0, a1, a2, a3, a4, some (.long u), a6, a7, a8, a9, a10, a11, a12] (.long u :: st) I J Q := A_lload (q := 5) (ab_io ci170 (by decide +kernel)) rfl
theorem k170_113 : At 170 113 [some (.ref r), a1, a2, a3, a4, a5, a6, a7, a8, a9, a10, a11, a12] st I J Q ↔ At 170 114 [some (.ref r), a1, a2, a3, a4, a5, a6, a7, a8, a9, a10, a11, a12] (.ref r :: st) I J Q := A_aload_n (q := 0) (ab_io ci170 (by decide +kernel)) rfl
theorem k170_114 : At 170 114 [a0, some (.int x), a2, a3, a4, a5, a6, a7, a8, a9, a10, a11, a12] st I J Q ↔ At 170 115 [a0, some (.int x), a2, a3, a4, a5, a6, a7, a8, a9, a10, a11, a12] (.int x :: st) I J Q := A_iload_n (q := 1) (ab_io ci170 (by decide +kernel)) rfl
theorem k170_115 : At 170 115 [a0, a1, a2, a3, a4, a5, a6, a7, a8, some (.int x), a10, a11, a12] st I J Q ↔ At 170 117 [a0, a1, a2, a3, a4, a5, a6, a7, a8, some (.int x), a10, a11, a12] (.int x :: st) I J Q := A_iload (q := 9) (ab_io ci170 (by decide +kernel)) rfl
theorem k170_117 : At 170 117 ls [.int p0, .int p1, .ref 49, .long qu0] I J Q ↔ Cal 140 [.ref 49, .int p1, .int p0] I J (fun v I' J' => At 170 120 ls (v.toList ++ [.long qu0]) I' J' Q) := A_cal (kd := 0) (j := 136) (na := 3) (ea := 3) (rk := 49) (by decide +kernel) rfl rfl rfl (Or.inr rfl) (Nat.le_of_ble_eq_true rfl)
theorem k170_120 : At 170 120 ls st I J Q ↔ At 170 121 ls (.int (-1) :: st) I J Q := A_iconst (ab_io ci170 (by decide +kernel)) ic_m1
theorem k170_121 : At 170 121 ls (.int x1 :: .int x :: st) I J Q ↔ if ¬ x = x1 then At 170 128 ls st I J Q else At 170 124 ls st I J Q := A_if_icmp_ne (o := 7) (ab_io ci170 (by decide +kernel)) (by decide)
theorem k170_124 : At 170 124 ls st I J Q ↔ At 170 125 ls (.long 0 :: st) I J Q := A_lconst (n := 0) (ab_io ci170 (by decide +kernel)) rfl
theorem k170_125 : At 170 125 ls st I J Q ↔ At 170 135 ls st I J Q := A_goto (o := 10) (ab_io ci170 (by decide +kernel)) (by decide)
theorem k170_128 : At 170 128 [some (.ref r), a1, a2, a3, a4, a5, a6, a7, a8, a9, a10, a11, a12] st I J Q ↔ At 170 129 [some (.ref r), a1, a2, a3, a4, a5, a6, a7, a8, a9, a10, a11, a12] (.ref r :: st) I J Q := A_aload_n (q := 0) (ab_io ci170 (by decide +kernel)) rfl
theorem k170_129 : At 170 129 ls (.ref 49 :: st) I J Q ↔ At 170 132 ls (.ref 61 :: st) I J Q := A_getR (ab_io ci170 (by decide +kernel)) ow170 fq8_48_49
theorem k170_132 : At 170 132 [a0, a1, a2, a3, a4, a5, a6, a7, a8, some (.int x), a10, a11, a12] st I J Q ↔ At 170 134 [a0, a1, a2, a3, a4, a5, a6, a7, a8, some (.int x), a10, a11, a12] (.int x :: st) I J Q := A_iload (q := 9) (ab_io ci170 (by decide +kernel)) rfl
theorem k170_134 : At 170 134 ls (.int x :: .ref r :: st) I J Q ↔ ((ab_ly r).1 = 2 ∧ r < 75 ∧ 0 ≤ x.toInt ∧ x.toInt < (ab_ly r).2) ∧ At 170 135 ls (.long (J r x.toNatClampNeg) :: st) I J Q := A_laload (ab_io ci170 (by decide +kernel))
theorem k170_135 : At 170 135 ls (.long u1 :: .long u :: st) I J Q ↔ At 170 136 ls (.long (u + u1) :: st) I J Q := A_ladd (ab_io ci170 (by decide +kernel))
theorem k170_136 : At 170 136 [a0, a1, a2, a3, a4, a5, a6, a7, a8, a9, a10, a11, a12] (.long u :: st) I J Q ↔ At 170 138 [a0, a1, a2, a3, ab_nv a4, some (.long u), none, a7, a8, a9, a10, a11, a12] st I J Q := A_lstore (q := 5) (ab_io ci170 (by decide +kernel)) (Nat.le_of_ble_eq_true rfl) rfl
theorem k170_138 : At 170 138 [a0, a1, a2, a3, a4, a5, a6, some (.long u), a8, a9, a10, a11, a12] st I J Q ↔ At 170 140 [a0, a1, a2, a3, a4, a5, a6, some (.long u), a8, a9, a10, a11, a12] (.long u :: st) I J Q := A_lload (q := 7) (ab_io ci170 (by decide +kernel)) rfl
theorem k170_140 : At 170 140 [some (.ref r), a1, a2, a3, a4, a5, a6, a7, a8, a9, a10, a11, a12] st I J Q ↔ At 170 141 [some (.ref r), a1, a2, a3, a4, a5, a6, a7, a8, a9, a10, a11, a12] (.ref r :: st) I J Q := A_aload_n (q := 0) (ab_io ci170 (by decide +kernel)) rfl
theorem k170_141 : At 170 141 [a0, a1, some (.int x), a3, a4, a5, a6, a7, a8, a9, a10, a11, a12] st I J Q ↔ At 170 142 [a0, a1, some (.int x), a3, a4, a5, a6, a7, a8, a9, a10, a11, a12] (.int x :: st) I J Q := A_iload_n (q := 2) (ab_io ci170 (by decide +kernel)) rfl
theorem k170_142 : At 170 142 [a0, a1, a2, a3, a4, a5, a6, a7, a8, some (.int x), a10, a11, a12] st I J Q ↔ At 170 144 [a0, a1, a2, a3, a4, a5, a6, a7, a8, some (.int x), a10, a11, a12] (.int x :: st) I J Q := A_iload (q := 9) (ab_io ci170 (by decide +kernel)) rfl
theorem k170_144 : At 170 144 ls [.int p0, .int p1, .ref 49, .long qu0] I J Q ↔ Cal 140 [.ref 49, .int p1, .int p0] I J (fun v I' J' => At 170 147 ls (v.toList ++ [.long qu0]) I' J' Q) := A_cal (kd := 0) (j := 136) (na := 3) (ea := 3) (rk := 49) (by decide +kernel) rfl rfl rfl (Or.inr rfl) (Nat.le_of_ble_eq_true rfl)
theorem k170_147 : At 170 147 ls st I J Q ↔ At 170 148 ls (.int (-1) :: st) I J Q := A_iconst (ab_io ci170 (by decide +kernel)) ic_m1
theorem k170_148 : At 170 148 ls (.int x1 :: .int x :: st) I J Q ↔ if ¬ x = x1 then At 170 155 ls st I J Q else At 170 151 ls st I J Q := A_if_icmp_ne (o := 7) (ab_io ci170 (by decide +kernel)) (by decide)
theorem k170_151 : At 170 151 ls st I J Q ↔ At 170 152 ls (.long 0 :: st) I J Q := A_lconst (n := 0) (ab_io ci170 (by decide +kernel)) rfl
theorem k170_152 : At 170 152 ls st I J Q ↔ At 170 162 ls st I J Q := A_goto (o := 10) (ab_io ci170 (by decide +kernel)) (by decide)
theorem k170_155 : At 170 155 [some (.ref r), a1, a2, a3, a4, a5, a6, a7, a8, a9, a10, a11, a12] st I J Q ↔ At 170 156 [some (.ref r), a1, a2, a3, a4, a5, a6, a7, a8, a9, a10, a11, a12] (.ref r :: st) I J Q := A_aload_n (q := 0) (ab_io ci170 (by decide +kernel)) rfl
theorem k170_156 : At 170 156 ls (.ref 49 :: st) I J Q ↔ At 170 159 ls (.ref 61 :: st) I J Q := A_getR (ab_io ci170 (by decide +kernel)) ow170 fq8_48_49
theorem k170_159 : At 170 159 [a0, a1, a2, a3, a4, a5, a6, a7, a8, some (.int x), a10, a11, a12] st I J Q ↔ At 170 161 [a0, a1, a2, a3, a4, a5, a6, a7, a8, some (.int x), a10, a11, a12] (.int x :: st) I J Q := A_iload (q := 9) (ab_io ci170 (by decide +kernel)) rfl
theorem k170_161 : At 170 161 ls (.int x :: .ref r :: st) I J Q ↔ ((ab_ly r).1 = 2 ∧ r < 75 ∧ 0 ≤ x.toInt ∧ x.toInt < (ab_ly r).2) ∧ At 170 162 ls (.long (J r x.toNatClampNeg) :: st) I J Q := A_laload (ab_io ci170 (by decide +kernel))
theorem k170_162 : At 170 162 ls (.long u1 :: .long u :: st) I J Q ↔ At 170 163 ls (.long (u + u1) :: st) I J Q := A_ladd (ab_io ci170 (by decide +kernel))
theorem k170_163 : At 170 163 [a0, a1, a2, a3, a4, a5, a6, a7, a8, a9, a10, a11, a12] (.long u :: st) I J Q ↔ At 170 165 [a0, a1, a2, a3, a4, a5, ab_nv a6, some (.long u), none, a9, a10, a11, a12] st I J Q := A_lstore (q := 7) (ab_io ci170 (by decide +kernel)) (Nat.le_of_ble_eq_true rfl) rfl
theorem k170_165 : At 170 165 [a0, a1, a2, a3, a4, a5, a6, a7, a8, some (.int x), a10, a11, a12] st I J Q ↔ At 170 168 [a0, a1, a2, a3, a4, a5, a6, a7, ab_nv a8, some (.int (x + (nI 1))), a10, a11, a12] st I J Q := A_iinc (q := 9) (ab_io ci170 (by decide +kernel)) ic_1 (Nat.le_of_ble_eq_true rfl) rfl rfl
theorem k170_168 : At 170 168 ls st I J Q ↔ At 170 105 ls st I J Q := A_goto (o := (-63)) (ab_io ci170 (by decide +kernel)) (by decide)
theorem k170_171 : At 170 171 [a0, a1, a2, a3, a4, some (.long u), a6, a7, a8, a9, a10, a11, a12] st I J Q ↔ At 170 173 [a0, a1, a2, a3, a4, some (.long u), a6, a7, a8, a9, a10, a11, a12] (.long u :: st) I J Q := A_lload (q := 5) (ab_io ci170 (by decide +kernel)) rfl
theorem k170_173 : At 170 173 ls st I J Q ↔ At 170 175 ls (.int (nI 12) :: st) I J Q := A_bipush (ab_io ci170 (by decide +kernel)) bc_12
theorem k170_175 : At 170 175 [a0, a1, a2, some (.int x), a4, a5, a6, a7, a8, a9, a10, a11, a12] st I J Q ↔ At 170 176 [a0, a1, a2, some (.int x), a4, a5, a6, a7, a8, a9, a10, a11, a12] (.int x :: st) I J Q := A_iload_n (q := 3) (ab_io ci170 (by decide +kernel)) rfl
theorem k170_176 : At 170 176 ls (.int x1 :: .int x :: st) I J Q ↔ ¬ x1 = 0 ∧ At 170 177 ls (.int (x / x1) :: st) I J Q := A_idiv (ab_io ci170 (by decide +kernel))
theorem k170_177 : At 170 177 ls (.int x :: st) I J Q ↔ At 170 178 ls (.long x.toInt64 :: st) I J Q := A_i2l (ab_io ci170 (by decide +kernel))
theorem k170_178 : At 170 178 ls (.long u1 :: .long u :: st) I J Q ↔ At 170 179 ls (.long (u * u1) :: st) I J Q := A_lmul (ab_io ci170 (by decide +kernel))
theorem k170_179 : At 170 179 [a0, a1, a2, a3, a4, a5, a6, some (.long u), a8, a9, a10, a11, a12] st I J Q ↔ At 170 181 [a0, a1, a2, a3, a4, a5, a6, some (.long u), a8, a9, a10, a11, a12] (.long u :: st) I J Q := A_lload (q := 7) (ab_io ci170 (by decide +kernel)) rfl
theorem k170_181 : At 170 181 ls st I J Q ↔ At 170 183 ls (.int (nI 12) :: st) I J Q := A_bipush (ab_io ci170 (by decide +kernel)) bc_12
theorem k170_183 : At 170 183 [a0, a1, a2, a3, some (.int x), a5, a6, a7, a8, a9, a10, a11, a12] st I J Q ↔ At 170 185 [a0, a1, a2, a3, some (.int x), a5, a6, a7, a8, a9, a10, a11, a12] (.int x :: st) I J Q := A_iload (q := 4) (ab_io ci170 (by decide +kernel)) rfl
theorem k170_185 : At 170 185 ls (.int x1 :: .int x :: st) I J Q ↔ ¬ x1 = 0 ∧ At 170 186 ls (.int (x / x1) :: st) I J Q := A_idiv (ab_io ci170 (by decide +kernel))
theorem k170_186 : At 170 186 ls (.int x :: st) I J Q ↔ At 170 187 ls (.long x.toInt64 :: st) I J Q := A_i2l (ab_io ci170 (by decide +kernel))
theorem k170_187 : At 170 187 ls (.long u1 :: .long u :: st) I J Q ↔ At 170 188 ls (.long (u * u1) :: st) I J Q := A_lmul (ab_io ci170 (by decide +kernel))
theorem k170_188 : At 170 188 ls (.long u1 :: .long u :: st) I J Q ↔ At 170 189 ls (.long (u - u1) :: st) I J Q := A_lsub (ab_io ci170 (by decide +kernel))
theorem k170_189 : At 170 189 [a0, a1, a2, a3, a4, a5, a6, a7, a8, a9, a10, a11, a12] (.long u :: st) I J Q ↔ At 170 191 [a0, a1, a2, a3, a4, a5, a6, a7, ab_nv a8, some (.long u), none, a11, a12] st I J Q := A_lstore (q := 9) (ab_io ci170 (by decide +kernel)) (Nat.le_of_ble_eq_true rfl) rfl
theorem k170_191 : At 170 191 [a0, a1, a2, a3, a4, a5, a6, a7, a8, some (.long u), a10, a11, a12] st I J Q ↔ At 170 193 [a0, a1, a2, a3, a4, a5, a6, a7, a8, some (.long u), a10, a11, a12] (.long u :: st) I J Q := A_lload (q := 9) (ab_io ci170 (by decide +kernel)) rfl
theorem k170_193 : At 170 193 ls st I J Q ↔ At 170 196 ls (.long 12 :: st) I J Q := A_ldc2_w (j := 143) (q := 1029) (ab_io ci170 (by decide +kernel)) ow170 (by decide +kernel)
theorem k170_196 : At 170 196 [some (.ref r), a1, a2, a3, a4, a5, a6, a7, a8, a9, a10, a11, a12] st I J Q ↔ At 170 197 [some (.ref r), a1, a2, a3, a4, a5, a6, a7, a8, a9, a10, a11, a12] (.ref r :: st) I J Q := A_aload_n (q := 0) (ab_io ci170 (by decide +kernel)) rfl
theorem k170_197 : At 170 197 ls (.ref 49 :: st) I J Q ↔ At 170 200 ls (.long (J 49 14) :: st) I J Q := A_getJ (ab_io ci170 (by decide +kernel)) ow170 fq8_149_49
theorem k170_200 : At 170 200 ls (.long u1 :: .long u :: st) I J Q ↔ At 170 201 ls (.long (u * u1) :: st) I J Q := A_lmul (ab_io ci170 (by decide +kernel))
theorem k170_201 : At 170 201 ls [.long pu0, .long pu1] I J Q ↔ Cal 129 [.long pu1, .long pu0] I J (fun v I' J' => At 170 204 ls (v.toList ++ []) I' J' Q) := A_cal (kd := 1) (j := 97) (na := 2) (ea := 4) (rk := 0) (by decide +kernel) rfl rfl rfl (Or.inl rfl) (Nat.le_of_ble_eq_true rfl)
theorem k170_204 : At 170 204 [a0, a1, a2, a3, a4, a5, a6, a7, a8, a9, a10, a11, a12] (.long u :: st) I J Q ↔ At 170 206 [a0, a1, a2, a3, a4, a5, a6, a7, a8, a9, ab_nv a10, some (.long u), none] st I J Q := A_lstore (q := 11) (ab_io ci170 (by decide +kernel)) (Nat.le_of_ble_eq_true rfl) rfl
theorem k170_206 : At 170 206 [some (.ref r), a1, a2, a3, a4, a5, a6, a7, a8, a9, a10, a11, a12] st I J Q ↔ At 170 207 [some (.ref r), a1, a2, a3, a4, a5, a6, a7, a8, a9, a10, a11, a12] (.ref r :: st) I J Q := A_aload_n (q := 0) (ab_io ci170 (by decide +kernel)) rfl
theorem k170_207 : At 170 207 [a0, a1, a2, a3, a4, a5, a6, a7, a8, some (.long u), a10, a11, a12] st I J Q ↔ At 170 209 [a0, a1, a2, a3, a4, a5, a6, a7, a8, some (.long u), a10, a11, a12] (.long u :: st) I J Q := A_lload (q := 9) (ab_io ci170 (by decide +kernel)) rfl
theorem k170_209 : At 170 209 [a0, a1, a2, a3, a4, a5, a6, a7, a8, a9, a10, some (.long u), a12] st I J Q ↔ At 170 211 [a0, a1, a2, a3, a4, a5, a6, a7, a8, a9, a10, some (.long u), a12] (.long u :: st) I J Q := A_lload (q := 11) (ab_io ci170 (by decide +kernel)) rfl
theorem k170_211 : At 170 211 ls (.long u1 :: .long u :: st) I J Q ↔ ¬ u1 = 0 ∧ At 170 212 ls (.long (u / u1) :: st) I J Q := A_ldiv (ab_io ci170 (by decide +kernel))
theorem k170_212 : At 170 212 ls (.long u :: .ref 49 :: st) I J Q ↔ At 170 215 ls st I (va_up J 49 (va_up (J 49) 25 u)) Q := A_putJ (ab_io ci170 (by decide +kernel)) ow170 fq8_223_49
theorem k170_215 : At 170 215 [some (.ref r), a1, a2, a3, a4, a5, a6, a7, a8, a9, a10, a11, a12] st I J Q ↔ At 170 216 [some (.ref r), a1, a2, a3, a4, a5, a6, a7, a8, a9, a10, a11, a12] (.ref r :: st) I J Q := A_aload_n (q := 0) (ab_io ci170 (by decide +kernel)) rfl
theorem k170_216 : At 170 216 ls st I J Q ↔ At 170 219 ls (.long 12 :: st) I J Q := A_ldc2_w (j := 143) (q := 1029) (ab_io ci170 (by decide +kernel)) ow170 (by decide +kernel)
theorem k170_219 : At 170 219 [some (.ref r), a1, a2, a3, a4, a5, a6, a7, a8, a9, a10, a11, a12] st I J Q ↔ At 170 220 [some (.ref r), a1, a2, a3, a4, a5, a6, a7, a8, a9, a10, a11, a12] (.ref r :: st) I J Q := A_aload_n (q := 0) (ab_io ci170 (by decide +kernel)) rfl
theorem k170_220 : At 170 220 ls (.ref 49 :: st) I J Q ↔ At 170 223 ls (.long (J 49 14) :: st) I J Q := A_getJ (ab_io ci170 (by decide +kernel)) ow170 fq8_149_49
theorem k170_223 : At 170 223 ls (.long u1 :: .long u :: st) I J Q ↔ At 170 224 ls (.long (u * u1) :: st) I J Q := A_lmul (ab_io ci170 (by decide +kernel))
theorem k170_224 : At 170 224 [a0, a1, a2, a3, a4, a5, a6, a7, a8, a9, a10, some (.long u), a12] st I J Q ↔ At 170 226 [a0, a1, a2, a3, a4, a5, a6, a7, a8, a9, a10, some (.long u), a12] (.long u :: st) I J Q := A_lload (q := 11) (ab_io ci170 (by decide +kernel)) rfl
theorem k170_226 : At 170 226 ls (.long u1 :: .long u :: st) I J Q ↔ ¬ u1 = 0 ∧ At 170 227 ls (.long (u / u1) :: st) I J Q := A_ldiv (ab_io ci170 (by decide +kernel))
theorem k170_227 : At 170 227 ls (.long u :: .ref 49 :: st) I J Q ↔ At 170 230 ls st I (va_up J 49 (va_up (J 49) 26 u)) Q := A_putJ (ab_io ci170 (by decide +kernel)) ow170 fq8_226_49
theorem k170_230 : At 170 230 ls [] I J Q ↔ Q none I J := A_vret (ab_io ci170 (by decide +kernel)) rt170
theorem k171_0 : At 171 0 [a0, some (.int x), a2, a3] st I J Q ↔ At 171 1 [a0, some (.int x), a2, a3] (.int x :: st) I J Q := A_iload_n (q := 1) (ab_io ci171 (by decide +kernel)) rfl
theorem k171_1 : At 171 1 ls [.int p0] I J Q ↔ Cal 131 [.int p0] I J (fun v I' J' => At 171 4 ls (v.toList ++ []) I' J' Q) := A_cal (kd := 1) (j := 108) (na := 1) (ea := 1) (rk := 0) (by decide +kernel) rfl rfl rfl (Or.inl rfl) (Nat.le_of_ble_eq_true rfl)
theorem k171_4 : At 171 4 ls (.int x :: st) I J Q ↔ if x = 0 then At 171 28 ls st I J Q else At 171 7 ls st I J Q := A_ifCond_eq (o := 24) (ab_io ci171 (by decide +kernel)) (by decide)
theorem k171_7 : At 171 7 [a0, a1, some (.int x), a3] st I J Q ↔ At 171 8 [a0, a1, some (.int x), a3] (.int x :: st) I J Q := A_iload_n (q := 2) (ab_io ci171 (by decide +kernel)) rfl
theorem k171_8 : At 171 8 ls [.int p0] I J Q ↔ Cal 131 [.int p0] I J (fun v I' J' => At 171 11 ls (v.toList ++ []) I' J' Q) := A_cal (kd := 1) (j := 108) (na := 1) (ea := 1) (rk := 0) (by decide +kernel) rfl rfl rfl (Or.inl rfl) (Nat.le_of_ble_eq_true rfl)
theorem k171_11 : At 171 11 ls (.int x :: st) I J Q ↔ if x = 0 then At 171 28 ls st I J Q else At 171 14 ls st I J Q := A_ifCond_eq (o := 17) (ab_io ci171 (by decide +kernel)) (by decide)
theorem k171_14 : At 171 14 [a0, some (.int x), a2, a3] st I J Q ↔ At 171 15 [a0, some (.int x), a2, a3] (.int x :: st) I J Q := A_iload_n (q := 1) (ab_io ci171 (by decide +kernel)) rfl
theorem k171_15 : At 171 15 [a0, a1, some (.int x), a3] st I J Q ↔ At 171 16 [a0, a1, some (.int x), a3] (.int x :: st) I J Q := A_iload_n (q := 2) (ab_io ci171 (by decide +kernel)) rfl
theorem k171_16 : At 171 16 ls (.int x1 :: .int x :: st) I J Q ↔ if x = x1 then At 171 28 ls st I J Q else At 171 19 ls st I J Q := A_if_icmp_eq (o := 12) (ab_io ci171 (by decide +kernel)) (by decide)
theorem k171_19 : At 171 19 [a0, a1, a2, some (.int x)] st I J Q ↔ At 171 20 [a0, a1, a2, some (.int x)] (.int x :: st) I J Q := A_iload_n (q := 3) (ab_io ci171 (by decide +kernel)) rfl
theorem k171_20 : At 171 20 ls st I J Q ↔ At 171 21 ls (.int (nI 0) :: st) I J Q := A_iconst (ab_io ci171 (by decide +kernel)) ic_0
theorem k171_21 : At 171 21 ls st I J Q ↔ At 171 22 ls (.int (nI 1) :: st) I J Q := A_iconst (ab_io ci171 (by decide +kernel)) ic_1
theorem k171_22 : At 171 22 ls [.int p0, .int p1, .int p2] I J Q ↔ Cal 126 [.int p2, .int p1, .int p0] I J (fun v I' J' => At 171 25 ls (v.toList ++ []) I' J' Q) := A_cal (kd := 1) (j := 101) (na := 3) (ea := 3) (rk := 0) (by decide +kernel) rfl rfl rfl (Or.inl rfl) (Nat.le_of_ble_eq_true rfl)
theorem k171_25 : At 171 25 ls (.int x :: st) I J Q ↔ if ¬ x = 0 then At 171 34 ls st I J Q else At 171 28 ls st I J Q := A_ifCond_ne (o := 9) (ab_io ci171 (by decide +kernel)) (by decide)
theorem k171_28 : At 171 28 ls st I J Q ↔ At 171 30 ls (.int (-2) :: st) I J Q := A_bipush (ab_io ci171 (by decide +kernel)) bc_m2
theorem k171_30 : At 171 30 ls [.int p0] I J Q ↔ Cal 127 [.int p0] I J (fun v I' J' => At 171 33 ls (v.toList ++ []) I' J' Q) := A_cal (kd := 1) (j := 162) (na := 1) (ea := 1) (rk := 0) (by decide +kernel) rfl rfl rfl (Or.inl rfl) (Nat.le_of_ble_eq_true rfl)
theorem k171_33 : At 171 33 ls [.long u] I J Q ↔ Q (some (.long u)) I J := A_lret (ab_io ci171 (by decide +kernel)) rt171
theorem k171_34 : At 171 34 [some (.ref r), a1, a2, a3] st I J Q ↔ At 171 35 [some (.ref r), a1, a2, a3] (.ref r :: st) I J Q := A_aload_n (q := 0) (ab_io ci171 (by decide +kernel)) rfl
theorem k171_35 : At 171 35 ls [.ref 49] I J Q ↔ Cal 138 [.ref 49] I J (fun v I' J' => At 171 38 ls (v.toList ++ []) I' J' Q) := A_cal (kd := 0) (j := 133) (na := 1) (ea := 1) (rk := 49) (by decide +kernel) rfl rfl rfl (Or.inr rfl) (Nat.le_of_ble_eq_true rfl)
theorem k171_38 : At 171 38 [some (.ref r), a1, a2, a3] st I J Q ↔ At 171 39 [some (.ref r), a1, a2, a3] (.ref r :: st) I J Q := A_aload_n (q := 0) (ab_io ci171 (by decide +kernel)) rfl
theorem k171_39 : At 171 39 ls (.ref 49 :: st) I J Q ↔ At 171 42 ls (.ref 57 :: st) I J Q := A_getR (ab_io ci171 (by decide +kernel)) ow171 fq8_35_49
theorem k171_42 : At 171 42 [a0, some (.int x), a2, a3] st I J Q ↔ At 171 43 [a0, some (.int x), a2, a3] (.int x :: st) I J Q := A_iload_n (q := 1) (ab_io ci171 (by decide +kernel)) rfl
theorem k171_43 : At 171 43 ls (.int x :: .ref r :: st) I J Q ↔ ((ab_ly r).1 = 1 ∧ r < 75 ∧ 0 ≤ x.toInt ∧ x.toInt < (ab_ly r).2) ∧ At 171 44 ls (.int (I r x.toNatClampNeg) :: st) I J Q := A_iaload (ab_io ci171 (by decide +kernel))
theorem k171_44 : At 171 44 ls st I J Q ↔ At 171 45 ls (.int (-1) :: st) I J Q := A_iconst (ab_io ci171 (by decide +kernel)) ic_m1
theorem k171_45 : At 171 45 ls (.int x1 :: .int x :: st) I J Q ↔ if x = x1 then At 171 63 ls st I J Q else At 171 48 ls st I J Q := A_if_icmp_eq (o := 18) (ab_io ci171 (by decide +kernel)) (by decide)
theorem k171_48 : At 171 48 [some (.ref r), a1, a2, a3] st I J Q ↔ At 171 49 [some (.ref r), a1, a2, a3] (.ref r :: st) I J Q := A_aload_n (q := 0) (ab_io ci171 (by decide +kernel)) rfl
theorem k171_49 : At 171 49 ls (.ref 49 :: st) I J Q ↔ At 171 52 ls (.ref 57 :: st) I J Q := A_getR (ab_io ci171 (by decide +kernel)) ow171 fq8_35_49
theorem k171_52 : At 171 52 [a0, some (.int x), a2, a3] st I J Q ↔ At 171 53 [a0, some (.int x), a2, a3] (.int x :: st) I J Q := A_iload_n (q := 1) (ab_io ci171 (by decide +kernel)) rfl
theorem k171_53 : At 171 53 ls (.int x :: .ref r :: st) I J Q ↔ ((ab_ly r).1 = 1 ∧ r < 75 ∧ 0 ≤ x.toInt ∧ x.toInt < (ab_ly r).2) ∧ At 171 54 ls (.int (I r x.toNatClampNeg) :: st) I J Q := A_iaload (ab_io ci171 (by decide +kernel))
theorem k171_54 : At 171 54 [some (.ref r), a1, a2, a3] st I J Q ↔ At 171 55 [some (.ref r), a1, a2, a3] (.ref r :: st) I J Q := A_aload_n (q := 0) (ab_io ci171 (by decide +kernel)) rfl
theorem k171_55 : At 171 55 ls (.ref 49 :: st) I J Q ↔ At 171 58 ls (.ref 57 :: st) I J Q := A_getR (ab_io ci171 (by decide +kernel)) ow171 fq8_35_49
theorem k171_58 : At 171 58 [a0, a1, some (.int x), a3] st I J Q ↔ At 171 59 [a0, a1, some (.int x), a3] (.int x :: st) I J Q := A_iload_n (q := 2) (ab_io ci171 (by decide +kernel)) rfl
theorem k171_59 : At 171 59 ls (.int x :: .ref r :: st) I J Q ↔ ((ab_ly r).1 = 1 ∧ r < 75 ∧ 0 ≤ x.toInt ∧ x.toInt < (ab_ly r).2) ∧ At 171 60 ls (.int (I r x.toNatClampNeg) :: st) I J Q := A_iaload (ab_io ci171 (by decide +kernel))
theorem k171_60 : At 171 60 ls (.int x1 :: .int x :: st) I J Q ↔ if x = x1 then At 171 69 ls st I J Q else At 171 63 ls st I J Q := A_if_icmp_eq (o := 9) (ab_io ci171 (by decide +kernel)) (by decide)
theorem k171_63 : At 171 63 ls st I J Q ↔ At 171 65 ls (.int (-3) :: st) I J Q := A_bipush (ab_io ci171 (by decide +kernel)) bc_m3
theorem k171_65 : At 171 65 ls [.int p0] I J Q ↔ Cal 127 [.int p0] I J (fun v I' J' => At 171 68 ls (v.toList ++ []) I' J' Q) := A_cal (kd := 1) (j := 162) (na := 1) (ea := 1) (rk := 0) (by decide +kernel) rfl rfl rfl (Or.inl rfl) (Nat.le_of_ble_eq_true rfl)
theorem k171_68 : At 171 68 ls [.long u] I J Q ↔ Q (some (.long u)) I J := A_lret (ab_io ci171 (by decide +kernel)) rt171
theorem k171_69 : At 171 69 [some (.ref r), a1, a2, a3] st I J Q ↔ At 171 70 [some (.ref r), a1, a2, a3] (.ref r :: st) I J Q := A_aload_n (q := 0) (ab_io ci171 (by decide +kernel)) rfl
theorem k171_70 : At 171 70 [a0, some (.int x), a2, a3] st I J Q ↔ At 171 71 [a0, some (.int x), a2, a3] (.int x :: st) I J Q := A_iload_n (q := 1) (ab_io ci171 (by decide +kernel)) rfl
theorem k171_71 : At 171 71 [a0, a1, some (.int x), a3] st I J Q ↔ At 171 72 [a0, a1, some (.int x), a3] (.int x :: st) I J Q := A_iload_n (q := 2) (ab_io ci171 (by decide +kernel)) rfl
theorem k171_72 : At 171 72 ls [.int p0, .int p1, .ref 49] I J Q ↔ Cal 170 [.ref 49, .int p1, .int p0] I J (fun v I' J' => At 171 75 ls (v.toList ++ []) I' J' Q) := A_cal (kd := 0) (j := 229) (na := 3) (ea := 3) (rk := 49) (by decide +kernel) rfl rfl rfl (Or.inr rfl) (Nat.le_of_ble_eq_true rfl)
theorem k171_75 : At 171 75 [a0, a1, a2, some (.int x)] st I J Q ↔ At 171 76 [a0, a1, a2, some (.int x)] (.int x :: st) I J Q := A_iload_n (q := 3) (ab_io ci171 (by decide +kernel)) rfl
theorem k171_76 : At 171 76 ls (.int x :: st) I J Q ↔ if ¬ x = 0 then At 171 86 ls st I J Q else At 171 79 ls st I J Q := A_ifCond_ne (o := 10) (ab_io ci171 (by decide +kernel)) (by decide)
theorem k171_79 : At 171 79 [some (.ref r), a1, a2, a3] st I J Q ↔ At 171 80 [some (.ref r), a1, a2, a3] (.ref r :: st) I J Q := A_aload_n (q := 0) (ab_io ci171 (by decide +kernel)) rfl
theorem k171_80 : At 171 80 ls (.ref 49 :: st) I J Q ↔ At 171 83 ls (.long (J 49 25) :: st) I J Q := A_getJ (ab_io ci171 (by decide +kernel)) ow171 fq8_223_49
theorem k171_83 : At 171 83 ls st I J Q ↔ At 171 90 ls st I J Q := A_goto (o := 7) (ab_io ci171 (by decide +kernel)) (by decide)
theorem k171_86 : At 171 86 [some (.ref r), a1, a2, a3] st I J Q ↔ At 171 87 [some (.ref r), a1, a2, a3] (.ref r :: st) I J Q := A_aload_n (q := 0) (ab_io ci171 (by decide +kernel)) rfl
theorem k171_87 : At 171 87 ls (.ref 49 :: st) I J Q ↔ At 171 90 ls (.long (J 49 26) :: st) I J Q := A_getJ (ab_io ci171 (by decide +kernel)) ow171 fq8_226_49
theorem k171_90 : At 171 90 ls [.long u] I J Q ↔ Q (some (.long u)) I J := A_lret (ab_io ci171 (by decide +kernel)) rt171
theorem k172_0 : At 172 0 [some (.ref r), a1, a2] st I J Q ↔ At 172 1 [some (.ref r), a1, a2] (.ref r :: st) I J Q := A_aload_n (q := 0) (ab_io ci172 (by decide +kernel)) rfl
theorem k172_1 : At 172 1 ls st I J Q ↔ At 172 2 ls (.int (-1) :: st) I J Q := A_iconst (ab_io ci172 (by decide +kernel)) ic_m1
theorem k172_2 : At 172 2 ls (.int x :: .ref 49 :: st) I J Q ↔ At 172 5 ls st (va_up I 49 (va_up (I 49) 29 x)) J Q := A_putI (ab_io ci172 (by decide +kernel)) ow172 fq8_233_49
theorem k172_5 : At 172 5 [some (.ref r), a1, a2] st I J Q ↔ At 172 6 [some (.ref r), a1, a2] (.ref r :: st) I J Q := A_aload_n (q := 0) (ab_io ci172 (by decide +kernel)) rfl
theorem k172_6 : At 172 6 ls st I J Q ↔ At 172 7 ls (.long 0 :: st) I J Q := A_lconst (n := 0) (ab_io ci172 (by decide +kernel)) rfl
theorem k172_7 : At 172 7 ls (.long u :: .ref 49 :: st) I J Q ↔ At 172 10 ls st I (va_up J 49 (va_up (J 49) 27 u)) Q := A_putJ (ab_io ci172 (by decide +kernel)) ow172 fq8_236_49
theorem k172_10 : At 172 10 [some (.ref r), a1, a2] st I J Q ↔ At 172 11 [some (.ref r), a1, a2] (.ref r :: st) I J Q := A_aload_n (q := 0) (ab_io ci172 (by decide +kernel)) rfl
theorem k172_11 : At 172 11 ls st I J Q ↔ At 172 12 ls (.long 1 :: st) I J Q := A_lconst (n := 1) (ab_io ci172 (by decide +kernel)) rfl
theorem k172_12 : At 172 12 ls (.long u :: .ref 49 :: st) I J Q ↔ At 172 15 ls st I (va_up J 49 (va_up (J 49) 28 u)) Q := A_putJ (ab_io ci172 (by decide +kernel)) ow172 fq8_239_49
theorem k172_15 : At 172 15 ls st I J Q ↔ At 172 16 ls (.int (nI 0) :: st) I J Q := A_iconst (ab_io ci172 (by decide +kernel)) ic_0
theorem k172_16 : At 172 16 [a0, a1, a2] (.int x :: st) I J Q ↔ At 172 17 [ab_nv a0, some (.int x), a2] st I J Q := A_istore_n (q := 1) (ab_io ci172 (by decide +kernel)) (Nat.le_of_ble_eq_true rfl) rfl
theorem k172_17 : At 172 17 [a0, some (.int x), a2] st I J Q ↔ At 172 18 [a0, some (.int x), a2] (.int x :: st) I J Q := A_iload_n (q := 1) (ab_io ci172 (by decide +kernel)) rfl
theorem k172_18 : At 172 18 ls st I J Q ↔ At 172 20 ls (.int (nI 12) :: st) I J Q := A_bipush (ab_io ci172 (by decide +kernel)) bc_12
theorem k172_20 : At 172 20 ls (.int x1 :: .int x :: st) I J Q ↔ if x1 ≤ x then At 172 124 ls st I J Q else At 172 23 ls st I J Q := A_if_icmp_ge (o := 104) (ab_io ci172 (by decide +kernel)) (by decide)
theorem k172_23 : At 172 23 [a0, some (.int x), a2] st I J Q ↔ At 172 24 [a0, some (.int x), a2] (.int x :: st) I J Q := A_iload_n (q := 1) (ab_io ci172 (by decide +kernel)) rfl
theorem k172_24 : At 172 24 ls st I J Q ↔ At 172 25 ls (.int (nI 1) :: st) I J Q := A_iconst (ab_io ci172 (by decide +kernel)) ic_1
theorem k172_25 : At 172 25 ls (.int x1 :: .int x :: st) I J Q ↔ At 172 26 ls (.int (x + x1) :: st) I J Q := A_iadd (ab_io ci172 (by decide +kernel))
theorem k172_26 : At 172 26 [a0, a1, a2] (.int x :: st) I J Q ↔ At 172 27 [a0, ab_nv a1, some (.int x)] st I J Q := A_istore_n (q := 2) (ab_io ci172 (by decide +kernel)) (Nat.le_of_ble_eq_true rfl) rfl
theorem k172_27 : At 172 27 [a0, a1, some (.int x)] st I J Q ↔ At 172 28 [a0, a1, some (.int x)] (.int x :: st) I J Q := A_iload_n (q := 2) (ab_io ci172 (by decide +kernel)) rfl
theorem k172_28 : At 172 28 ls st I J Q ↔ At 172 30 ls (.int (nI 12) :: st) I J Q := A_bipush (ab_io ci172 (by decide +kernel)) bc_12
theorem k172_30 : At 172 30 ls (.int x1 :: .int x :: st) I J Q ↔ if x1 ≤ x then At 172 118 ls st I J Q else At 172 33 ls st I J Q := A_if_icmp_ge (o := 88) (ab_io ci172 (by decide +kernel)) (by decide)
theorem k172_33 : At 172 33 [some (.ref r), a1, a2] st I J Q ↔ At 172 34 [some (.ref r), a1, a2] (.ref r :: st) I J Q := A_aload_n (q := 0) (ab_io ci172 (by decide +kernel)) rfl
theorem k172_34 : At 172 34 ls (.ref 49 :: st) I J Q ↔ At 172 37 ls (.ref 57 :: st) I J Q := A_getR (ab_io ci172 (by decide +kernel)) ow172 fq8_35_49
theorem k172_37 : At 172 37 [a0, some (.int x), a2] st I J Q ↔ At 172 38 [a0, some (.int x), a2] (.int x :: st) I J Q := A_iload_n (q := 1) (ab_io ci172 (by decide +kernel)) rfl
theorem k172_38 : At 172 38 ls (.int x :: .ref r :: st) I J Q ↔ ((ab_ly r).1 = 1 ∧ r < 75 ∧ 0 ≤ x.toInt ∧ x.toInt < (ab_ly r).2) ∧ At 172 39 ls (.int (I r x.toNatClampNeg) :: st) I J Q := A_iaload (ab_io ci172 (by decide +kernel))
theorem k172_39 : At 172 39 ls st I J Q ↔ At 172 40 ls (.int (-1) :: st) I J Q := A_iconst (ab_io ci172 (by decide +kernel)) ic_m1
theorem k172_40 : At 172 40 ls (.int x1 :: .int x :: st) I J Q ↔ if x = x1 then At 172 112 ls st I J Q else At 172 43 ls st I J Q := A_if_icmp_eq (o := 72) (ab_io ci172 (by decide +kernel)) (by decide)
theorem k172_43 : At 172 43 [some (.ref r), a1, a2] st I J Q ↔ At 172 44 [some (.ref r), a1, a2] (.ref r :: st) I J Q := A_aload_n (q := 0) (ab_io ci172 (by decide +kernel)) rfl
theorem k172_44 : At 172 44 ls (.ref 49 :: st) I J Q ↔ At 172 47 ls (.ref 57 :: st) I J Q := A_getR (ab_io ci172 (by decide +kernel)) ow172 fq8_35_49
theorem k172_47 : At 172 47 [a0, some (.int x), a2] st I J Q ↔ At 172 48 [a0, some (.int x), a2] (.int x :: st) I J Q := A_iload_n (q := 1) (ab_io ci172 (by decide +kernel)) rfl
theorem k172_48 : At 172 48 ls (.int x :: .ref r :: st) I J Q ↔ ((ab_ly r).1 = 1 ∧ r < 75 ∧ 0 ≤ x.toInt ∧ x.toInt < (ab_ly r).2) ∧ At 172 49 ls (.int (I r x.toNatClampNeg) :: st) I J Q := A_iaload (ab_io ci172 (by decide +kernel))
theorem k172_49 : At 172 49 [some (.ref r), a1, a2] st I J Q ↔ At 172 50 [some (.ref r), a1, a2] (.ref r :: st) I J Q := A_aload_n (q := 0) (ab_io ci172 (by decide +kernel)) rfl
theorem k172_50 : At 172 50 ls (.ref 49 :: st) I J Q ↔ At 172 53 ls (.ref 57 :: st) I J Q := A_getR (ab_io ci172 (by decide +kernel)) ow172 fq8_35_49
theorem k172_53 : At 172 53 [a0, a1, some (.int x)] st I J Q ↔ At 172 54 [a0, a1, some (.int x)] (.int x :: st) I J Q := A_iload_n (q := 2) (ab_io ci172 (by decide +kernel)) rfl
theorem k172_54 : At 172 54 ls (.int x :: .ref r :: st) I J Q ↔ ((ab_ly r).1 = 1 ∧ r < 75 ∧ 0 ≤ x.toInt ∧ x.toInt < (ab_ly r).2) ∧ At 172 55 ls (.int (I r x.toNatClampNeg) :: st) I J Q := A_iaload (ab_io ci172 (by decide +kernel))
theorem k172_55 : At 172 55 ls (.int x1 :: .int x :: st) I J Q ↔ if ¬ x = x1 then At 172 112 ls st I J Q else At 172 58 ls st I J Q := A_if_icmp_ne (o := 57) (ab_io ci172 (by decide +kernel)) (by decide)
theorem k172_58 : At 172 58 [some (.ref r), a1, a2] st I J Q ↔ At 172 59 [some (.ref r), a1, a2] (.ref r :: st) I J Q := A_aload_n (q := 0) (ab_io ci172 (by decide +kernel)) rfl
theorem k172_59 : At 172 59 [a0, some (.int x), a2] st I J Q ↔ At 172 60 [a0, some (.int x), a2] (.int x :: st) I J Q := A_iload_n (q := 1) (ab_io ci172 (by decide +kernel)) rfl
theorem k172_60 : At 172 60 [a0, a1, some (.int x)] st I J Q ↔ At 172 61 [a0, a1, some (.int x)] (.int x :: st) I J Q := A_iload_n (q := 2) (ab_io ci172 (by decide +kernel)) rfl
theorem k172_61 : At 172 61 ls [.int p0, .int p1, .ref 49] I J Q ↔ Cal 170 [.ref 49, .int p1, .int p0] I J (fun v I' J' => At 172 64 ls (v.toList ++ []) I' J' Q) := A_cal (kd := 0) (j := 229) (na := 3) (ea := 3) (rk := 49) (by decide +kernel) rfl rfl rfl (Or.inr rfl) (Nat.le_of_ble_eq_true rfl)
theorem k172_64 : At 172 64 [some (.ref r), a1, a2] st I J Q ↔ At 172 65 [some (.ref r), a1, a2] (.ref r :: st) I J Q := A_aload_n (q := 0) (ab_io ci172 (by decide +kernel)) rfl
theorem k172_65 : At 172 65 ls (.ref 49 :: st) I J Q ↔ At 172 68 ls (.long (J 49 25) :: st) I J Q := A_getJ (ab_io ci172 (by decide +kernel)) ow172 fq8_223_49
theorem k172_68 : At 172 68 [some (.ref r), a1, a2] st I J Q ↔ At 172 69 [some (.ref r), a1, a2] (.ref r :: st) I J Q := A_aload_n (q := 0) (ab_io ci172 (by decide +kernel)) rfl
theorem k172_69 : At 172 69 ls (.ref 49 :: st) I J Q ↔ At 172 72 ls (.long (J 49 28) :: st) I J Q := A_getJ (ab_io ci172 (by decide +kernel)) ow172 fq8_239_49
theorem k172_72 : At 172 72 ls (.long u1 :: .long u :: st) I J Q ↔ At 172 73 ls (.long (u * u1) :: st) I J Q := A_lmul (ab_io ci172 (by decide +kernel))
theorem k172_73 : At 172 73 [some (.ref r), a1, a2] st I J Q ↔ At 172 74 [some (.ref r), a1, a2] (.ref r :: st) I J Q := A_aload_n (q := 0) (ab_io ci172 (by decide +kernel)) rfl
theorem k172_74 : At 172 74 ls (.ref 49 :: st) I J Q ↔ At 172 77 ls (.long (J 49 27) :: st) I J Q := A_getJ (ab_io ci172 (by decide +kernel)) ow172 fq8_236_49
theorem k172_77 : At 172 77 [some (.ref r), a1, a2] st I J Q ↔ At 172 78 [some (.ref r), a1, a2] (.ref r :: st) I J Q := A_aload_n (q := 0) (ab_io ci172 (by decide +kernel)) rfl
theorem k172_78 : At 172 78 ls (.ref 49 :: st) I J Q ↔ At 172 81 ls (.long (J 49 26) :: st) I J Q := A_getJ (ab_io ci172 (by decide +kernel)) ow172 fq8_226_49
theorem k172_81 : At 172 81 ls (.long u1 :: .long u :: st) I J Q ↔ At 172 82 ls (.long (u * u1) :: st) I J Q := A_lmul (ab_io ci172 (by decide +kernel))
theorem k172_82 : At 172 82 ls (.long u1 :: .long u :: st) I J Q ↔ At 172 83 ls (.int (lg_cmp u u1) :: st) I J Q := A_lcmp (ab_io ci172 (by decide +kernel))
theorem k172_83 : At 172 83 ls (.int x :: st) I J Q ↔ if x ≤ 0 then At 172 112 ls st I J Q else At 172 86 ls st I J Q := A_ifCond_le (o := 29) (ab_io ci172 (by decide +kernel)) (by decide)
theorem k172_86 : At 172 86 [some (.ref r), a1, a2] st I J Q ↔ At 172 87 [some (.ref r), a1, a2] (.ref r :: st) I J Q := A_aload_n (q := 0) (ab_io ci172 (by decide +kernel)) rfl
theorem k172_87 : At 172 87 [some (.ref r), a1, a2] st I J Q ↔ At 172 88 [some (.ref r), a1, a2] (.ref r :: st) I J Q := A_aload_n (q := 0) (ab_io ci172 (by decide +kernel)) rfl
theorem k172_88 : At 172 88 ls (.ref 49 :: st) I J Q ↔ At 172 91 ls (.long (J 49 25) :: st) I J Q := A_getJ (ab_io ci172 (by decide +kernel)) ow172 fq8_223_49
theorem k172_91 : At 172 91 ls (.long u :: .ref 49 :: st) I J Q ↔ At 172 94 ls st I (va_up J 49 (va_up (J 49) 27 u)) Q := A_putJ (ab_io ci172 (by decide +kernel)) ow172 fq8_236_49
theorem k172_94 : At 172 94 [some (.ref r), a1, a2] st I J Q ↔ At 172 95 [some (.ref r), a1, a2] (.ref r :: st) I J Q := A_aload_n (q := 0) (ab_io ci172 (by decide +kernel)) rfl
theorem k172_95 : At 172 95 [some (.ref r), a1, a2] st I J Q ↔ At 172 96 [some (.ref r), a1, a2] (.ref r :: st) I J Q := A_aload_n (q := 0) (ab_io ci172 (by decide +kernel)) rfl
theorem k172_96 : At 172 96 ls (.ref 49 :: st) I J Q ↔ At 172 99 ls (.long (J 49 26) :: st) I J Q := A_getJ (ab_io ci172 (by decide +kernel)) ow172 fq8_226_49
theorem k172_99 : At 172 99 ls (.long u :: .ref 49 :: st) I J Q ↔ At 172 102 ls st I (va_up J 49 (va_up (J 49) 28 u)) Q := A_putJ (ab_io ci172 (by decide +kernel)) ow172 fq8_239_49
theorem k172_102 : At 172 102 [some (.ref r), a1, a2] st I J Q ↔ At 172 103 [some (.ref r), a1, a2] (.ref r :: st) I J Q := A_aload_n (q := 0) (ab_io ci172 (by decide +kernel)) rfl
theorem k172_103 : At 172 103 [a0, some (.int x), a2] st I J Q ↔ At 172 104 [a0, some (.int x), a2] (.int x :: st) I J Q := A_iload_n (q := 1) (ab_io ci172 (by decide +kernel)) rfl
theorem k172_104 : At 172 104 ls (.int x :: .ref 49 :: st) I J Q ↔ At 172 107 ls st (va_up I 49 (va_up (I 49) 29 x)) J Q := A_putI (ab_io ci172 (by decide +kernel)) ow172 fq8_233_49
theorem k172_107 : At 172 107 [some (.ref r), a1, a2] st I J Q ↔ At 172 108 [some (.ref r), a1, a2] (.ref r :: st) I J Q := A_aload_n (q := 0) (ab_io ci172 (by decide +kernel)) rfl
theorem k172_108 : At 172 108 [a0, a1, some (.int x)] st I J Q ↔ At 172 109 [a0, a1, some (.int x)] (.int x :: st) I J Q := A_iload_n (q := 2) (ab_io ci172 (by decide +kernel)) rfl
theorem k172_109 : At 172 109 ls (.int x :: .ref 49 :: st) I J Q ↔ At 172 112 ls st (va_up I 49 (va_up (I 49) 30 x)) J Q := A_putI (ab_io ci172 (by decide +kernel)) ow172 fq8_242_49
theorem k172_112 : At 172 112 [a0, a1, some (.int x)] st I J Q ↔ At 172 115 [a0, ab_nv a1, some (.int (x + (nI 1)))] st I J Q := A_iinc (q := 2) (ab_io ci172 (by decide +kernel)) ic_1 (Nat.le_of_ble_eq_true rfl) rfl rfl
theorem k172_115 : At 172 115 ls st I J Q ↔ At 172 27 ls st I J Q := A_goto (o := (-88)) (ab_io ci172 (by decide +kernel)) (by decide)
theorem k172_118 : At 172 118 [a0, some (.int x), a2] st I J Q ↔ At 172 121 [ab_nv a0, some (.int (x + (nI 1))), a2] st I J Q := A_iinc (q := 1) (ab_io ci172 (by decide +kernel)) ic_1 (Nat.le_of_ble_eq_true rfl) rfl rfl
theorem k172_121 : At 172 121 ls st I J Q ↔ At 172 17 ls st I J Q := A_goto (o := (-104)) (ab_io ci172 (by decide +kernel)) (by decide)
theorem k172_124 : At 172 124 [some (.ref r), a1, a2] st I J Q ↔ At 172 125 [some (.ref r), a1, a2] (.ref r :: st) I J Q := A_aload_n (q := 0) (ab_io ci172 (by decide +kernel)) rfl
theorem k172_125 : At 172 125 ls (.ref 49 :: st) I J Q ↔ At 172 128 ls (.int (I 49 29) :: st) I J Q := A_getI (ab_io ci172 (by decide +kernel)) ow172 fq8_233_49
theorem k172_128 : At 172 128 ls st I J Q ↔ At 172 129 ls (.int (-1) :: st) I J Q := A_iconst (ab_io ci172 (by decide +kernel)) ic_m1
theorem k172_129 : At 172 129 ls (.int x1 :: .int x :: st) I J Q ↔ if x = x1 then At 172 136 ls st I J Q else At 172 132 ls st I J Q := A_if_icmp_eq (o := 7) (ab_io ci172 (by decide +kernel)) (by decide)
theorem k172_132 : At 172 132 ls st I J Q ↔ At 172 133 ls (.int (nI 1) :: st) I J Q := A_iconst (ab_io ci172 (by decide +kernel)) ic_1
theorem k172_133 : At 172 133 ls st I J Q ↔ At 172 137 ls st I J Q := A_goto (o := 4) (ab_io ci172 (by decide +kernel)) (by decide)
theorem k172_136 : At 172 136 ls st I J Q ↔ At 172 137 ls (.int (nI 0) :: st) I J Q := A_iconst (ab_io ci172 (by decide +kernel)) ic_0
theorem k172_137 : At 172 137 ls [.int x] I J Q ↔ (x = 0 ∨ x = 1) ∧ Q (some (.int x)) I J := A_zret (ab_io ci172 (by decide +kernel)) rt172
theorem k173_0 : At 173 0 [some (.ref r), a1] st I J Q ↔ At 173 1 [some (.ref r), a1] (.ref r :: st) I J Q := A_aload_n (q := 0) (ab_io ci173 (by decide +kernel)) rfl
theorem k173_1 : At 173 1 ls [.ref 49] I J Q ↔ Cal 172 [.ref 49] I J (fun v I' J' => At 173 4 ls (v.toList ++ []) I' J' Q) := A_cal (kd := 0) (j := 245) (na := 1) (ea := 1) (rk := 49) (by decide +kernel) rfl rfl rfl (Or.inr rfl) (Nat.le_of_ble_eq_true rfl)
theorem k173_4 : At 173 4 ls (.int x :: st) I J Q ↔ if ¬ x = 0 then At 173 13 ls st I J Q else At 173 7 ls st I J Q := A_ifCond_ne (o := 9) (ab_io ci173 (by decide +kernel)) (by decide)
theorem k173_7 : At 173 7 ls st I J Q ↔ At 173 9 ls (.int (-3) :: st) I J Q := A_bipush (ab_io ci173 (by decide +kernel)) bc_m3
theorem k173_9 : At 173 9 ls [.int p0] I J Q ↔ Cal 127 [.int p0] I J (fun v I' J' => At 173 12 ls (v.toList ++ []) I' J' Q) := A_cal (kd := 1) (j := 162) (na := 1) (ea := 1) (rk := 0) (by decide +kernel) rfl rfl rfl (Or.inl rfl) (Nat.le_of_ble_eq_true rfl)
theorem k173_12 : At 173 12 ls [.long u] I J Q ↔ Q (some (.long u)) I J := A_lret (ab_io ci173 (by decide +kernel)) rt173
theorem k173_13 : At 173 13 [a0, some (.int x)] st I J Q ↔ At 173 14 [a0, some (.int x)] (.int x :: st) I J Q := A_iload_n (q := 1) (ab_io ci173 (by decide +kernel)) rfl
theorem k173_14 : At 173 14 ls (.int x :: st) I J Q ↔ if ¬ x = 0 then At 173 24 ls st I J Q else At 173 17 ls st I J Q := A_ifCond_ne (o := 10) (ab_io ci173 (by decide +kernel)) (by decide)
theorem k173_17 : At 173 17 [some (.ref r), a1] st I J Q ↔ At 173 18 [some (.ref r), a1] (.ref r :: st) I J Q := A_aload_n (q := 0) (ab_io ci173 (by decide +kernel)) rfl
theorem k173_18 : At 173 18 ls (.ref 49 :: st) I J Q ↔ At 173 21 ls (.long (J 49 27) :: st) I J Q := A_getJ (ab_io ci173 (by decide +kernel)) ow173 fq8_236_49
theorem k173_21 : At 173 21 ls st I J Q ↔ At 173 54 ls st I J Q := A_goto (o := 33) (ab_io ci173 (by decide +kernel)) (by decide)
theorem k173_24 : At 173 24 [a0, some (.int x)] st I J Q ↔ At 173 25 [a0, some (.int x)] (.int x :: st) I J Q := A_iload_n (q := 1) (ab_io ci173 (by decide +kernel)) rfl
theorem k173_25 : At 173 25 ls st I J Q ↔ At 173 26 ls (.int (nI 1) :: st) I J Q := A_iconst (ab_io ci173 (by decide +kernel)) ic_1
theorem k173_26 : At 173 26 ls (.int x1 :: .int x :: st) I J Q ↔ if ¬ x = x1 then At 173 36 ls st I J Q else At 173 29 ls st I J Q := A_if_icmp_ne (o := 10) (ab_io ci173 (by decide +kernel)) (by decide)
theorem k173_29 : At 173 29 [some (.ref r), a1] st I J Q ↔ At 173 30 [some (.ref r), a1] (.ref r :: st) I J Q := A_aload_n (q := 0) (ab_io ci173 (by decide +kernel)) rfl
theorem k173_30 : At 173 30 ls (.ref 49 :: st) I J Q ↔ At 173 33 ls (.long (J 49 28) :: st) I J Q := A_getJ (ab_io ci173 (by decide +kernel)) ow173 fq8_239_49
theorem k173_33 : At 173 33 ls st I J Q ↔ At 173 54 ls st I J Q := A_goto (o := 21) (ab_io ci173 (by decide +kernel)) (by decide)
theorem k173_36 : At 173 36 [a0, some (.int x)] st I J Q ↔ At 173 37 [a0, some (.int x)] (.int x :: st) I J Q := A_iload_n (q := 1) (ab_io ci173 (by decide +kernel)) rfl
theorem k173_37 : At 173 37 ls st I J Q ↔ At 173 38 ls (.int (nI 2) :: st) I J Q := A_iconst (ab_io ci173 (by decide +kernel)) ic_2
theorem k173_38 : At 173 38 ls (.int x1 :: .int x :: st) I J Q ↔ if ¬ x = x1 then At 173 49 ls st I J Q else At 173 41 ls st I J Q := A_if_icmp_ne (o := 11) (ab_io ci173 (by decide +kernel)) (by decide)
theorem k173_41 : At 173 41 [some (.ref r), a1] st I J Q ↔ At 173 42 [some (.ref r), a1] (.ref r :: st) I J Q := A_aload_n (q := 0) (ab_io ci173 (by decide +kernel)) rfl
theorem k173_42 : At 173 42 ls (.ref 49 :: st) I J Q ↔ At 173 45 ls (.int (I 49 29) :: st) I J Q := A_getI (ab_io ci173 (by decide +kernel)) ow173 fq8_233_49
theorem k173_45 : At 173 45 ls (.int x :: st) I J Q ↔ At 173 46 ls (.long x.toInt64 :: st) I J Q := A_i2l (ab_io ci173 (by decide +kernel))
theorem k173_46 : At 173 46 ls st I J Q ↔ At 173 54 ls st I J Q := A_goto (o := 8) (ab_io ci173 (by decide +kernel)) (by decide)
theorem k173_49 : At 173 49 [some (.ref r), a1] st I J Q ↔ At 173 50 [some (.ref r), a1] (.ref r :: st) I J Q := A_aload_n (q := 0) (ab_io ci173 (by decide +kernel)) rfl
theorem k173_50 : At 173 50 ls (.ref 49 :: st) I J Q ↔ At 173 53 ls (.int (I 49 30) :: st) I J Q := A_getI (ab_io ci173 (by decide +kernel)) ow173 fq8_242_49
theorem k173_53 : At 173 53 ls (.int x :: st) I J Q ↔ At 173 54 ls (.long x.toInt64 :: st) I J Q := A_i2l (ab_io ci173 (by decide +kernel))
theorem k173_54 : At 173 54 ls [.long u] I J Q ↔ Q (some (.long u)) I J := A_lret (ab_io ci173 (by decide +kernel)) rt173
theorem k174_0 : At 174 0 [a0, some (.int x)] st I J Q ↔ At 174 1 [a0, some (.int x)] (.int x :: st) I J Q := A_iload_n (q := 1) (ab_io ci174 (by decide +kernel)) rfl
theorem k174_1 : At 174 1 ls st I J Q ↔ At 174 2 ls (.int (nI 0) :: st) I J Q := A_iconst (ab_io ci174 (by decide +kernel)) ic_0
theorem k174_2 : At 174 2 ls st I J Q ↔ At 174 3 ls (.int (nI 3) :: st) I J Q := A_iconst (ab_io ci174 (by decide +kernel)) ic_3
theorem k174_3 : At 174 3 ls [.int p0, .int p1, .int p2] I J Q ↔ Cal 126 [.int p2, .int p1, .int p0] I J (fun v I' J' => At 174 6 ls (v.toList ++ []) I' J' Q) := A_cal (kd := 1) (j := 101) (na := 3) (ea := 3) (rk := 0) (by decide +kernel) rfl rfl rfl (Or.inl rfl) (Nat.le_of_ble_eq_true rfl)
theorem k174_6 : At 174 6 ls (.int x :: st) I J Q ↔ if ¬ x = 0 then At 174 15 ls st I J Q else At 174 9 ls st I J Q := A_ifCond_ne (o := 9) (ab_io ci174 (by decide +kernel)) (by decide)
theorem k174_9 : At 174 9 ls st I J Q ↔ At 174 11 ls (.int (-2) :: st) I J Q := A_bipush (ab_io ci174 (by decide +kernel)) bc_m2
theorem k174_11 : At 174 11 ls [.int p0] I J Q ↔ Cal 127 [.int p0] I J (fun v I' J' => At 174 14 ls (v.toList ++ []) I' J' Q) := A_cal (kd := 1) (j := 162) (na := 1) (ea := 1) (rk := 0) (by decide +kernel) rfl rfl rfl (Or.inl rfl) (Nat.le_of_ble_eq_true rfl)
theorem k174_14 : At 174 14 ls [.long u] I J Q ↔ Q (some (.long u)) I J := A_lret (ab_io ci174 (by decide +kernel)) rt174
theorem k174_15 : At 174 15 [some (.ref r), a1] st I J Q ↔ At 174 16 [some (.ref r), a1] (.ref r :: st) I J Q := A_aload_n (q := 0) (ab_io ci174 (by decide +kernel)) rfl
theorem k174_16 : At 174 16 ls [.ref 49] I J Q ↔ Cal 138 [.ref 49] I J (fun v I' J' => At 174 19 ls (v.toList ++ []) I' J' Q) := A_cal (kd := 0) (j := 133) (na := 1) (ea := 1) (rk := 49) (by decide +kernel) rfl rfl rfl (Or.inr rfl) (Nat.le_of_ble_eq_true rfl)
theorem k174_19 : At 174 19 [some (.ref r), a1] st I J Q ↔ At 174 20 [some (.ref r), a1] (.ref r :: st) I J Q := A_aload_n (q := 0) (ab_io ci174 (by decide +kernel)) rfl
theorem k174_20 : At 174 20 [a0, some (.int x)] st I J Q ↔ At 174 21 [a0, some (.int x)] (.int x :: st) I J Q := A_iload_n (q := 1) (ab_io ci174 (by decide +kernel)) rfl
theorem k174_21 : At 174 21 ls [.int p0, .ref 49] I J Q ↔ Cal 173 [.ref 49, .int p0] I J (fun v I' J' => At 174 24 ls (v.toList ++ []) I' J' Q) := A_cal (kd := 0) (j := 248) (na := 2) (ea := 2) (rk := 49) (by decide +kernel) rfl rfl rfl (Or.inr rfl) (Nat.le_of_ble_eq_true rfl)
theorem k174_24 : At 174 24 ls [.long u] I J Q ↔ Q (some (.long u)) I J := A_lret (ab_io ci174 (by decide +kernel)) rt174
theorem k175_0 : At 175 0 [a0, some (.int x), a2, a3, a4, a5, a6, a7] st I J Q ↔ At 175 1 [a0, some (.int x), a2, a3, a4, a5, a6, a7] (.int x :: st) I J Q := A_iload_n (q := 1) (ab_io ci175 (by decide +kernel)) rfl
theorem k175_1 : At 175 1 ls st I J Q ↔ At 175 2 ls (.int (nI 0) :: st) I J Q := A_iconst (ab_io ci175 (by decide +kernel)) ic_0
theorem k175_2 : At 175 2 ls st I J Q ↔ At 175 3 ls (.int (nI 3) :: st) I J Q := A_iconst (ab_io ci175 (by decide +kernel)) ic_3
theorem k175_3 : At 175 3 ls [.int p0, .int p1, .int p2] I J Q ↔ Cal 126 [.int p2, .int p1, .int p0] I J (fun v I' J' => At 175 6 ls (v.toList ++ []) I' J' Q) := A_cal (kd := 1) (j := 101) (na := 3) (ea := 3) (rk := 0) (by decide +kernel) rfl rfl rfl (Or.inl rfl) (Nat.le_of_ble_eq_true rfl)
theorem k175_6 : At 175 6 ls (.int x :: st) I J Q ↔ if ¬ x = 0 then At 175 15 ls st I J Q else At 175 9 ls st I J Q := A_ifCond_ne (o := 9) (ab_io ci175 (by decide +kernel)) (by decide)
theorem k175_9 : At 175 9 ls st I J Q ↔ At 175 11 ls (.int (-2) :: st) I J Q := A_bipush (ab_io ci175 (by decide +kernel)) bc_m2
theorem k175_11 : At 175 11 ls [.int p0] I J Q ↔ Cal 127 [.int p0] I J (fun v I' J' => At 175 14 ls (v.toList ++ []) I' J' Q) := A_cal (kd := 1) (j := 162) (na := 1) (ea := 1) (rk := 0) (by decide +kernel) rfl rfl rfl (Or.inl rfl) (Nat.le_of_ble_eq_true rfl)
theorem k175_14 : At 175 14 ls [.long u] I J Q ↔ Q (some (.long u)) I J := A_lret (ab_io ci175 (by decide +kernel)) rt175
theorem k175_15 : At 175 15 [some (.ref r), a1, a2, a3, a4, a5, a6, a7] st I J Q ↔ At 175 16 [some (.ref r), a1, a2, a3, a4, a5, a6, a7] (.ref r :: st) I J Q := A_aload_n (q := 0) (ab_io ci175 (by decide +kernel)) rfl
theorem k175_16 : At 175 16 ls [.ref 49] I J Q ↔ Cal 138 [.ref 49] I J (fun v I' J' => At 175 19 ls (v.toList ++ []) I' J' Q) := A_cal (kd := 0) (j := 133) (na := 1) (ea := 1) (rk := 49) (by decide +kernel) rfl rfl rfl (Or.inr rfl) (Nat.le_of_ble_eq_true rfl)
theorem k175_19 : At 175 19 ls st I J Q ↔ At 175 20 ls (.int (-1) :: st) I J Q := A_iconst (ab_io ci175 (by decide +kernel)) ic_m1
theorem k175_20 : At 175 20 [a0, a1, a2, a3, a4, a5, a6, a7] (.int x :: st) I J Q ↔ At 175 21 [a0, ab_nv a1, some (.int x), a3, a4, a5, a6, a7] st I J Q := A_istore_n (q := 2) (ab_io ci175 (by decide +kernel)) (Nat.le_of_ble_eq_true rfl) rfl
theorem k175_21 : At 175 21 ls st I J Q ↔ At 175 22 ls (.long 0 :: st) I J Q := A_lconst (n := 0) (ab_io ci175 (by decide +kernel)) rfl
theorem k175_22 : At 175 22 [a0, a1, a2, a3, a4, a5, a6, a7] (.long u :: st) I J Q ↔ At 175 23 [a0, a1, ab_nv a2, some (.long u), none, a5, a6, a7] st I J Q := A_lstore_n (q := 3) (ab_io ci175 (by decide +kernel)) (Nat.le_of_ble_eq_true rfl) rfl
theorem k175_23 : At 175 23 ls st I J Q ↔ At 175 24 ls (.long 1 :: st) I J Q := A_lconst (n := 1) (ab_io ci175 (by decide +kernel)) rfl
theorem k175_24 : At 175 24 [a0, a1, a2, a3, a4, a5, a6, a7] (.long u :: st) I J Q ↔ At 175 26 [a0, a1, a2, a3, ab_nv a4, some (.long u), none, a7] st I J Q := A_lstore (q := 5) (ab_io ci175 (by decide +kernel)) (Nat.le_of_ble_eq_true rfl) rfl
theorem k175_26 : At 175 26 ls st I J Q ↔ At 175 27 ls (.int (nI 0) :: st) I J Q := A_iconst (ab_io ci175 (by decide +kernel)) ic_0
theorem k175_27 : At 175 27 [a0, a1, a2, a3, a4, a5, a6, a7] (.int x :: st) I J Q ↔ At 175 29 [a0, a1, a2, a3, a4, a5, ab_nv a6, some (.int x)] st I J Q := A_istore (q := 7) (ab_io ci175 (by decide +kernel)) (Nat.le_of_ble_eq_true rfl) rfl
theorem k175_29 : At 175 29 [a0, a1, a2, a3, a4, a5, a6, some (.int x)] st I J Q ↔ At 175 31 [a0, a1, a2, a3, a4, a5, a6, some (.int x)] (.int x :: st) I J Q := A_iload (q := 7) (ab_io ci175 (by decide +kernel)) rfl
theorem k175_31 : At 175 31 ls st I J Q ↔ At 175 33 ls (.int (nI 48) :: st) I J Q := A_bipush (ab_io ci175 (by decide +kernel)) bc_48
theorem k175_33 : At 175 33 ls (.int x1 :: .int x :: st) I J Q ↔ if x1 ≤ x then At 175 149 ls st I J Q else At 175 36 ls st I J Q := A_if_icmp_ge (o := 116) (ab_io ci175 (by decide +kernel)) (by decide)
theorem k175_36 : At 175 36 [some (.ref r), a1, a2, a3, a4, a5, a6, a7] st I J Q ↔ At 175 37 [some (.ref r), a1, a2, a3, a4, a5, a6, a7] (.ref r :: st) I J Q := A_aload_n (q := 0) (ab_io ci175 (by decide +kernel)) rfl
theorem k175_37 : At 175 37 ls (.ref 49 :: st) I J Q ↔ At 175 40 ls (.ref 55 :: st) I J Q := A_getR (ab_io ci175 (by decide +kernel)) ow175 fq8_29_49
theorem k175_40 : At 175 40 [a0, a1, a2, a3, a4, a5, a6, some (.int x)] st I J Q ↔ At 175 42 [a0, a1, a2, a3, a4, a5, a6, some (.int x)] (.int x :: st) I J Q := A_iload (q := 7) (ab_io ci175 (by decide +kernel)) rfl
theorem k175_42 : At 175 42 ls (.int x :: .ref r :: st) I J Q ↔ ((ab_ly r).1 = 1 ∧ r < 75 ∧ 0 ≤ x.toInt ∧ x.toInt < (ab_ly r).2) ∧ At 175 43 ls (.int (I r x.toNatClampNeg) :: st) I J Q := A_iaload (ab_io ci175 (by decide +kernel))
theorem k175_43 : At 175 43 ls st I J Q ↔ At 175 44 ls (.int (-1) :: st) I J Q := A_iconst (ab_io ci175 (by decide +kernel)) ic_m1
theorem k175_44 : At 175 44 ls (.int x1 :: .int x :: st) I J Q ↔ if ¬ x = x1 then At 175 143 ls st I J Q else At 175 47 ls st I J Q := A_if_icmp_ne (o := 99) (ab_io ci175 (by decide +kernel)) (by decide)
theorem k175_47 : At 175 47 [some (.ref r), a1, a2, a3, a4, a5, a6, a7] st I J Q ↔ At 175 48 [some (.ref r), a1, a2, a3, a4, a5, a6, a7] (.ref r :: st) I J Q := A_aload_n (q := 0) (ab_io ci175 (by decide +kernel)) rfl
theorem k175_48 : At 175 48 ls (.ref 49 :: st) I J Q ↔ At 175 51 ls (.ref 57 :: st) I J Q := A_getR (ab_io ci175 (by decide +kernel)) ow175 fq8_35_49
theorem k175_51 : At 175 51 [a0, a1, a2, a3, a4, a5, a6, some (.int x)] st I J Q ↔ At 175 53 [a0, a1, a2, a3, a4, a5, a6, some (.int x)] (.int x :: st) I J Q := A_iload (q := 7) (ab_io ci175 (by decide +kernel)) rfl
theorem k175_53 : At 175 53 ls st I J Q ↔ At 175 54 ls (.int (nI 4) :: st) I J Q := A_iconst (ab_io ci175 (by decide +kernel)) ic_4
theorem k175_54 : At 175 54 ls (.int x1 :: .int x :: st) I J Q ↔ ¬ x1 = 0 ∧ At 175 55 ls (.int (x / x1) :: st) I J Q := A_idiv (ab_io ci175 (by decide +kernel))
theorem k175_55 : At 175 55 ls (.int x :: .ref r :: st) I J Q ↔ ((ab_ly r).1 = 1 ∧ r < 75 ∧ 0 ≤ x.toInt ∧ x.toInt < (ab_ly r).2) ∧ At 175 56 ls (.int (I r x.toNatClampNeg) :: st) I J Q := A_iaload (ab_io ci175 (by decide +kernel))
theorem k175_56 : At 175 56 ls st I J Q ↔ At 175 57 ls (.int (-1) :: st) I J Q := A_iconst (ab_io ci175 (by decide +kernel)) ic_m1
theorem k175_57 : At 175 57 ls (.int x1 :: .int x :: st) I J Q ↔ if x = x1 then At 175 143 ls st I J Q else At 175 60 ls st I J Q := A_if_icmp_eq (o := 86) (ab_io ci175 (by decide +kernel)) (by decide)
theorem k175_60 : At 175 60 [some (.ref r), a1, a2, a3, a4, a5, a6, a7] st I J Q ↔ At 175 61 [some (.ref r), a1, a2, a3, a4, a5, a6, a7] (.ref r :: st) I J Q := A_aload_n (q := 0) (ab_io ci175 (by decide +kernel)) rfl
theorem k175_61 : At 175 61 ls (.ref 49 :: st) I J Q ↔ At 175 64 ls (.ref 57 :: st) I J Q := A_getR (ab_io ci175 (by decide +kernel)) ow175 fq8_35_49
theorem k175_64 : At 175 64 [a0, a1, a2, a3, a4, a5, a6, some (.int x)] st I J Q ↔ At 175 66 [a0, a1, a2, a3, a4, a5, a6, some (.int x)] (.int x :: st) I J Q := A_iload (q := 7) (ab_io ci175 (by decide +kernel)) rfl
theorem k175_66 : At 175 66 ls st I J Q ↔ At 175 67 ls (.int (nI 4) :: st) I J Q := A_iconst (ab_io ci175 (by decide +kernel)) ic_4
theorem k175_67 : At 175 67 ls (.int x1 :: .int x :: st) I J Q ↔ ¬ x1 = 0 ∧ At 175 68 ls (.int (x / x1) :: st) I J Q := A_idiv (ab_io ci175 (by decide +kernel))
theorem k175_68 : At 175 68 ls (.int x :: .ref r :: st) I J Q ↔ ((ab_ly r).1 = 1 ∧ r < 75 ∧ 0 ≤ x.toInt ∧ x.toInt < (ab_ly r).2) ∧ At 175 69 ls (.int (I r x.toNatClampNeg) :: st) I J Q := A_iaload (ab_io ci175 (by decide +kernel))
theorem k175_69 : At 175 69 [some (.ref r), a1, a2, a3, a4, a5, a6, a7] st I J Q ↔ At 175 70 [some (.ref r), a1, a2, a3, a4, a5, a6, a7] (.ref r :: st) I J Q := A_aload_n (q := 0) (ab_io ci175 (by decide +kernel)) rfl
theorem k175_70 : At 175 70 ls (.ref 49 :: st) I J Q ↔ At 175 73 ls (.ref 57 :: st) I J Q := A_getR (ab_io ci175 (by decide +kernel)) ow175 fq8_35_49
theorem k175_73 : At 175 73 ls st I J Q ↔ At 175 75 ls (.int (nI 12) :: st) I J Q := A_bipush (ab_io ci175 (by decide +kernel)) bc_12
theorem k175_75 : At 175 75 [a0, a1, a2, a3, a4, a5, a6, some (.int x)] st I J Q ↔ At 175 77 [a0, a1, a2, a3, a4, a5, a6, some (.int x)] (.int x :: st) I J Q := A_iload (q := 7) (ab_io ci175 (by decide +kernel)) rfl
theorem k175_77 : At 175 77 ls st I J Q ↔ At 175 78 ls (.int (nI 4) :: st) I J Q := A_iconst (ab_io ci175 (by decide +kernel)) ic_4
theorem k175_78 : At 175 78 ls (.int x1 :: .int x :: st) I J Q ↔ ¬ x1 = 0 ∧ At 175 79 ls (.int (x - x / x1 * x1) :: st) I J Q := A_irem (ab_io ci175 (by decide +kernel))
theorem k175_79 : At 175 79 ls (.int x1 :: .int x :: st) I J Q ↔ At 175 80 ls (.int (x + x1) :: st) I J Q := A_iadd (ab_io ci175 (by decide +kernel))
theorem k175_80 : At 175 80 ls (.int x :: .ref r :: st) I J Q ↔ ((ab_ly r).1 = 1 ∧ r < 75 ∧ 0 ≤ x.toInt ∧ x.toInt < (ab_ly r).2) ∧ At 175 81 ls (.int (I r x.toNatClampNeg) :: st) I J Q := A_iaload (ab_io ci175 (by decide +kernel))
theorem k175_81 : At 175 81 ls (.int x1 :: .int x :: st) I J Q ↔ if ¬ x = x1 then At 175 143 ls st I J Q else At 175 84 ls st I J Q := A_if_icmp_ne (o := 62) (ab_io ci175 (by decide +kernel)) (by decide)
theorem k175_84 : At 175 84 [some (.ref r), a1, a2, a3, a4, a5, a6, a7] st I J Q ↔ At 175 85 [some (.ref r), a1, a2, a3, a4, a5, a6, a7] (.ref r :: st) I J Q := A_aload_n (q := 0) (ab_io ci175 (by decide +kernel)) rfl
theorem k175_85 : At 175 85 ls (.ref 49 :: st) I J Q ↔ At 175 88 ls (.ref 55 :: st) I J Q := A_getR (ab_io ci175 (by decide +kernel)) ow175 fq8_29_49
theorem k175_88 : At 175 88 [a0, a1, a2, a3, a4, a5, a6, some (.int x)] st I J Q ↔ At 175 90 [a0, a1, a2, a3, a4, a5, a6, some (.int x)] (.int x :: st) I J Q := A_iload (q := 7) (ab_io ci175 (by decide +kernel)) rfl
theorem k175_90 : At 175 90 ls st I J Q ↔ At 175 91 ls (.int (nI 0) :: st) I J Q := A_iconst (ab_io ci175 (by decide +kernel)) ic_0
theorem k175_91 : At 175 91 ls (.int x1 :: .int x :: .ref r :: st) I J Q ↔ ((ab_ly r).1 = 1 ∧ r < 75 ∧ 0 ≤ x.toInt ∧ x.toInt < (ab_ly r).2) ∧ At 175 92 ls st (va_up I r (va_up (I r) x.toNatClampNeg x1)) J Q := A_iastore (ab_io ci175 (by decide +kernel))
theorem k175_92 : At 175 92 [some (.ref r), a1, a2, a3, a4, a5, a6, a7] st I J Q ↔ At 175 93 [some (.ref r), a1, a2, a3, a4, a5, a6, a7] (.ref r :: st) I J Q := A_aload_n (q := 0) (ab_io ci175 (by decide +kernel)) rfl
theorem k175_93 : At 175 93 ls [.ref 49] I J Q ↔ Cal 172 [.ref 49] I J (fun v I' J' => At 175 96 ls (v.toList ++ []) I' J' Q) := A_cal (kd := 0) (j := 245) (na := 1) (ea := 1) (rk := 49) (by decide +kernel) rfl rfl rfl (Or.inr rfl) (Nat.le_of_ble_eq_true rfl)
theorem k175_96 : At 175 96 ls (.int x :: st) I J Q ↔ if x = 0 then At 175 135 ls st I J Q else At 175 99 ls st I J Q := A_ifCond_eq (o := 39) (ab_io ci175 (by decide +kernel)) (by decide)
theorem k175_99 : At 175 99 [a0, a1, some (.int x), a3, a4, a5, a6, a7] st I J Q ↔ At 175 100 [a0, a1, some (.int x), a3, a4, a5, a6, a7] (.int x :: st) I J Q := A_iload_n (q := 2) (ab_io ci175 (by decide +kernel)) rfl
theorem k175_100 : At 175 100 ls st I J Q ↔ At 175 101 ls (.int (-1) :: st) I J Q := A_iconst (ab_io ci175 (by decide +kernel)) ic_m1
theorem k175_101 : At 175 101 ls (.int x1 :: .int x :: st) I J Q ↔ if x = x1 then At 175 121 ls st I J Q else At 175 104 ls st I J Q := A_if_icmp_eq (o := 20) (ab_io ci175 (by decide +kernel)) (by decide)
theorem k175_104 : At 175 104 [some (.ref r), a1, a2, a3, a4, a5, a6, a7] st I J Q ↔ At 175 105 [some (.ref r), a1, a2, a3, a4, a5, a6, a7] (.ref r :: st) I J Q := A_aload_n (q := 0) (ab_io ci175 (by decide +kernel)) rfl
theorem k175_105 : At 175 105 ls (.ref 49 :: st) I J Q ↔ At 175 108 ls (.long (J 49 27) :: st) I J Q := A_getJ (ab_io ci175 (by decide +kernel)) ow175 fq8_236_49
theorem k175_108 : At 175 108 [a0, a1, a2, a3, a4, some (.long u), a6, a7] st I J Q ↔ At 175 110 [a0, a1, a2, a3, a4, some (.long u), a6, a7] (.long u :: st) I J Q := A_lload (q := 5) (ab_io ci175 (by decide +kernel)) rfl
theorem k175_110 : At 175 110 ls (.long u1 :: .long u :: st) I J Q ↔ At 175 111 ls (.long (u * u1) :: st) I J Q := A_lmul (ab_io ci175 (by decide +kernel))
theorem k175_111 : At 175 111 [a0, a1, a2, some (.long u), a4, a5, a6, a7] st I J Q ↔ At 175 112 [a0, a1, a2, some (.long u), a4, a5, a6, a7] (.long u :: st) I J Q := A_lload_n (q := 3) (ab_io ci175 (by decide +kernel)) rfl
theorem k175_112 : At 175 112 [some (.ref r), a1, a2, a3, a4, a5, a6, a7] st I J Q ↔ At 175 113 [some (.ref r), a1, a2, a3, a4, a5, a6, a7] (.ref r :: st) I J Q := A_aload_n (q := 0) (ab_io ci175 (by decide +kernel)) rfl
theorem k175_113 : At 175 113 ls (.ref 49 :: st) I J Q ↔ At 175 116 ls (.long (J 49 28) :: st) I J Q := A_getJ (ab_io ci175 (by decide +kernel)) ow175 fq8_239_49
theorem k175_116 : At 175 116 ls (.long u1 :: .long u :: st) I J Q ↔ At 175 117 ls (.long (u * u1) :: st) I J Q := A_lmul (ab_io ci175 (by decide +kernel))
theorem k175_117 : At 175 117 ls (.long u1 :: .long u :: st) I J Q ↔ At 175 118 ls (.int (lg_cmp u u1) :: st) I J Q := A_lcmp (ab_io ci175 (by decide +kernel))
theorem k175_118 : At 175 118 ls (.int x :: st) I J Q ↔ if 0 ≤ x then At 175 135 ls st I J Q else At 175 121 ls st I J Q := A_ifCond_ge (o := 17) (ab_io ci175 (by decide +kernel)) (by decide)
theorem k175_121 : At 175 121 [a0, a1, a2, a3, a4, a5, a6, some (.int x)] st I J Q ↔ At 175 123 [a0, a1, a2, a3, a4, a5, a6, some (.int x)] (.int x :: st) I J Q := A_iload (q := 7) (ab_io ci175 (by decide +kernel)) rfl
theorem k175_123 : At 175 123 [a0, a1, a2, a3, a4, a5, a6, a7] (.int x :: st) I J Q ↔ At 175 124 [a0, ab_nv a1, some (.int x), a3, a4, a5, a6, a7] st I J Q := A_istore_n (q := 2) (ab_io ci175 (by decide +kernel)) (Nat.le_of_ble_eq_true rfl) rfl
theorem k175_124 : At 175 124 [some (.ref r), a1, a2, a3, a4, a5, a6, a7] st I J Q ↔ At 175 125 [some (.ref r), a1, a2, a3, a4, a5, a6, a7] (.ref r :: st) I J Q := A_aload_n (q := 0) (ab_io ci175 (by decide +kernel)) rfl
theorem k175_125 : At 175 125 ls (.ref 49 :: st) I J Q ↔ At 175 128 ls (.long (J 49 27) :: st) I J Q := A_getJ (ab_io ci175 (by decide +kernel)) ow175 fq8_236_49
theorem k175_128 : At 175 128 [a0, a1, a2, a3, a4, a5, a6, a7] (.long u :: st) I J Q ↔ At 175 129 [a0, a1, ab_nv a2, some (.long u), none, a5, a6, a7] st I J Q := A_lstore_n (q := 3) (ab_io ci175 (by decide +kernel)) (Nat.le_of_ble_eq_true rfl) rfl
theorem k175_129 : At 175 129 [some (.ref r), a1, a2, a3, a4, a5, a6, a7] st I J Q ↔ At 175 130 [some (.ref r), a1, a2, a3, a4, a5, a6, a7] (.ref r :: st) I J Q := A_aload_n (q := 0) (ab_io ci175 (by decide +kernel)) rfl
theorem k175_130 : At 175 130 ls (.ref 49 :: st) I J Q ↔ At 175 133 ls (.long (J 49 28) :: st) I J Q := A_getJ (ab_io ci175 (by decide +kernel)) ow175 fq8_239_49
theorem k175_133 : At 175 133 [a0, a1, a2, a3, a4, a5, a6, a7] (.long u :: st) I J Q ↔ At 175 135 [a0, a1, a2, a3, ab_nv a4, some (.long u), none, a7] st I J Q := A_lstore (q := 5) (ab_io ci175 (by decide +kernel)) (Nat.le_of_ble_eq_true rfl) rfl
theorem k175_135 : At 175 135 [some (.ref r), a1, a2, a3, a4, a5, a6, a7] st I J Q ↔ At 175 136 [some (.ref r), a1, a2, a3, a4, a5, a6, a7] (.ref r :: st) I J Q := A_aload_n (q := 0) (ab_io ci175 (by decide +kernel)) rfl
theorem k175_136 : At 175 136 ls (.ref 49 :: st) I J Q ↔ At 175 139 ls (.ref 55 :: st) I J Q := A_getR (ab_io ci175 (by decide +kernel)) ow175 fq8_29_49
theorem k175_139 : At 175 139 [a0, a1, a2, a3, a4, a5, a6, some (.int x)] st I J Q ↔ At 175 141 [a0, a1, a2, a3, a4, a5, a6, some (.int x)] (.int x :: st) I J Q := A_iload (q := 7) (ab_io ci175 (by decide +kernel)) rfl
theorem k175_141 : At 175 141 ls st I J Q ↔ At 175 142 ls (.int (-1) :: st) I J Q := A_iconst (ab_io ci175 (by decide +kernel)) ic_m1
theorem k175_142 : At 175 142 ls (.int x1 :: .int x :: .ref r :: st) I J Q ↔ ((ab_ly r).1 = 1 ∧ r < 75 ∧ 0 ≤ x.toInt ∧ x.toInt < (ab_ly r).2) ∧ At 175 143 ls st (va_up I r (va_up (I r) x.toNatClampNeg x1)) J Q := A_iastore (ab_io ci175 (by decide +kernel))
theorem k175_143 : At 175 143 [a0, a1, a2, a3, a4, a5, a6, some (.int x)] st I J Q ↔ At 175 146 [a0, a1, a2, a3, a4, a5, ab_nv a6, some (.int (x + (nI 1)))] st I J Q := A_iinc (q := 7) (ab_io ci175 (by decide +kernel)) ic_1 (Nat.le_of_ble_eq_true rfl) rfl rfl
theorem k175_146 : At 175 146 ls st I J Q ↔ At 175 29 ls st I J Q := A_goto (o := (-117)) (ab_io ci175 (by decide +kernel)) (by decide)
theorem k175_149 : At 175 149 [a0, a1, some (.int x), a3, a4, a5, a6, a7] st I J Q ↔ At 175 150 [a0, a1, some (.int x), a3, a4, a5, a6, a7] (.int x :: st) I J Q := A_iload_n (q := 2) (ab_io ci175 (by decide +kernel)) rfl
theorem k175_150 : At 175 150 ls st I J Q ↔ At 175 151 ls (.int (-1) :: st) I J Q := A_iconst (ab_io ci175 (by decide +kernel)) ic_m1
theorem k175_151 : At 175 151 ls (.int x1 :: .int x :: st) I J Q ↔ if ¬ x = x1 then At 175 160 ls st I J Q else At 175 154 ls st I J Q := A_if_icmp_ne (o := 9) (ab_io ci175 (by decide +kernel)) (by decide)
theorem k175_154 : At 175 154 ls st I J Q ↔ At 175 156 ls (.int (-3) :: st) I J Q := A_bipush (ab_io ci175 (by decide +kernel)) bc_m3
theorem k175_156 : At 175 156 ls [.int p0] I J Q ↔ Cal 127 [.int p0] I J (fun v I' J' => At 175 159 ls (v.toList ++ []) I' J' Q) := A_cal (kd := 1) (j := 162) (na := 1) (ea := 1) (rk := 0) (by decide +kernel) rfl rfl rfl (Or.inl rfl) (Nat.le_of_ble_eq_true rfl)
theorem k175_159 : At 175 159 ls [.long u] I J Q ↔ Q (some (.long u)) I J := A_lret (ab_io ci175 (by decide +kernel)) rt175
theorem k175_160 : At 175 160 [a0, some (.int x), a2, a3, a4, a5, a6, a7] st I J Q ↔ At 175 161 [a0, some (.int x), a2, a3, a4, a5, a6, a7] (.int x :: st) I J Q := A_iload_n (q := 1) (ab_io ci175 (by decide +kernel)) rfl
theorem k175_161 : At 175 161 ls (.int x :: st) I J Q ↔ if ¬ x = 0 then At 175 171 ls st I J Q else At 175 164 ls st I J Q := A_ifCond_ne (o := 10) (ab_io ci175 (by decide +kernel)) (by decide)
theorem k175_164 : At 175 164 [a0, a1, some (.int x), a3, a4, a5, a6, a7] st I J Q ↔ At 175 165 [a0, a1, some (.int x), a3, a4, a5, a6, a7] (.int x :: st) I J Q := A_iload_n (q := 2) (ab_io ci175 (by decide +kernel)) rfl
theorem k175_165 : At 175 165 ls st I J Q ↔ At 175 166 ls (.int (nI 4) :: st) I J Q := A_iconst (ab_io ci175 (by decide +kernel)) ic_4
theorem k175_166 : At 175 166 ls (.int x1 :: .int x :: st) I J Q ↔ ¬ x1 = 0 ∧ At 175 167 ls (.int (x / x1) :: st) I J Q := A_idiv (ab_io ci175 (by decide +kernel))
theorem k175_167 : At 175 167 ls (.int x :: st) I J Q ↔ At 175 168 ls (.long x.toInt64 :: st) I J Q := A_i2l (ab_io ci175 (by decide +kernel))
theorem k175_168 : At 175 168 ls st I J Q ↔ At 175 194 ls st I J Q := A_goto (o := 26) (ab_io ci175 (by decide +kernel)) (by decide)
theorem k175_171 : At 175 171 [a0, some (.int x), a2, a3, a4, a5, a6, a7] st I J Q ↔ At 175 172 [a0, some (.int x), a2, a3, a4, a5, a6, a7] (.int x :: st) I J Q := A_iload_n (q := 1) (ab_io ci175 (by decide +kernel)) rfl
theorem k175_172 : At 175 172 ls st I J Q ↔ At 175 173 ls (.int (nI 1) :: st) I J Q := A_iconst (ab_io ci175 (by decide +kernel)) ic_1
theorem k175_173 : At 175 173 ls (.int x1 :: .int x :: st) I J Q ↔ if ¬ x = x1 then At 175 183 ls st I J Q else At 175 176 ls st I J Q := A_if_icmp_ne (o := 10) (ab_io ci175 (by decide +kernel)) (by decide)
theorem k175_176 : At 175 176 [a0, a1, some (.int x), a3, a4, a5, a6, a7] st I J Q ↔ At 175 177 [a0, a1, some (.int x), a3, a4, a5, a6, a7] (.int x :: st) I J Q := A_iload_n (q := 2) (ab_io ci175 (by decide +kernel)) rfl
theorem k175_177 : At 175 177 ls st I J Q ↔ At 175 178 ls (.int (nI 4) :: st) I J Q := A_iconst (ab_io ci175 (by decide +kernel)) ic_4
theorem k175_178 : At 175 178 ls (.int x1 :: .int x :: st) I J Q ↔ ¬ x1 = 0 ∧ At 175 179 ls (.int (x - x / x1 * x1) :: st) I J Q := A_irem (ab_io ci175 (by decide +kernel))
theorem k175_179 : At 175 179 ls (.int x :: st) I J Q ↔ At 175 180 ls (.long x.toInt64 :: st) I J Q := A_i2l (ab_io ci175 (by decide +kernel))
theorem k175_180 : At 175 180 ls st I J Q ↔ At 175 194 ls st I J Q := A_goto (o := 14) (ab_io ci175 (by decide +kernel)) (by decide)
theorem k175_183 : At 175 183 [a0, some (.int x), a2, a3, a4, a5, a6, a7] st I J Q ↔ At 175 184 [a0, some (.int x), a2, a3, a4, a5, a6, a7] (.int x :: st) I J Q := A_iload_n (q := 1) (ab_io ci175 (by decide +kernel)) rfl
theorem k175_184 : At 175 184 ls st I J Q ↔ At 175 185 ls (.int (nI 2) :: st) I J Q := A_iconst (ab_io ci175 (by decide +kernel)) ic_2
theorem k175_185 : At 175 185 ls (.int x1 :: .int x :: st) I J Q ↔ if ¬ x = x1 then At 175 192 ls st I J Q else At 175 188 ls st I J Q := A_if_icmp_ne (o := 7) (ab_io ci175 (by decide +kernel)) (by decide)
theorem k175_188 : At 175 188 [a0, a1, a2, some (.long u), a4, a5, a6, a7] st I J Q ↔ At 175 189 [a0, a1, a2, some (.long u), a4, a5, a6, a7] (.long u :: st) I J Q := A_lload_n (q := 3) (ab_io ci175 (by decide +kernel)) rfl
theorem k175_189 : At 175 189 ls st I J Q ↔ At 175 194 ls st I J Q := A_goto (o := 5) (ab_io ci175 (by decide +kernel)) (by decide)
theorem k175_192 : At 175 192 [a0, a1, a2, a3, a4, some (.long u), a6, a7] st I J Q ↔ At 175 194 [a0, a1, a2, a3, a4, some (.long u), a6, a7] (.long u :: st) I J Q := A_lload (q := 5) (ab_io ci175 (by decide +kernel)) rfl
theorem k175_194 : At 175 194 ls [.long u] I J Q ↔ Q (some (.long u)) I J := A_lret (ab_io ci175 (by decide +kernel)) rt175
theorem k176_0 : At 176 0 [some (.ref r), a1, a2, a3] st I J Q ↔ At 176 1 [some (.ref r), a1, a2, a3] (.ref r :: st) I J Q := A_aload_n (q := 0) (ab_io ci176 (by decide +kernel)) rfl
theorem k176_1 : At 176 1 ls (.ref 49 :: st) I J Q ↔ At 176 4 ls (.ref 55 :: st) I J Q := A_getR (ab_io ci176 (by decide +kernel)) ow176 fq8_29_49
theorem k176_4 : At 176 4 [a0, some (.int x), a2, a3] st I J Q ↔ At 176 5 [a0, some (.int x), a2, a3] (.int x :: st) I J Q := A_iload_n (q := 1) (ab_io ci176 (by decide +kernel)) rfl
theorem k176_5 : At 176 5 ls (.int x :: .ref r :: st) I J Q ↔ ((ab_ly r).1 = 1 ∧ r < 75 ∧ 0 ≤ x.toInt ∧ x.toInt < (ab_ly r).2) ∧ At 176 6 ls (.int (I r x.toNatClampNeg) :: st) I J Q := A_iaload (ab_io ci176 (by decide +kernel))
theorem k176_6 : At 176 6 [a0, a1, a2, a3] (.int x :: st) I J Q ↔ At 176 7 [a0, ab_nv a1, some (.int x), a3] st I J Q := A_istore_n (q := 2) (ab_io ci176 (by decide +kernel)) (Nat.le_of_ble_eq_true rfl) rfl
theorem k176_7 : At 176 7 [some (.ref r), a1, a2, a3] st I J Q ↔ At 176 8 [some (.ref r), a1, a2, a3] (.ref r :: st) I J Q := A_aload_n (q := 0) (ab_io ci176 (by decide +kernel)) rfl
theorem k176_8 : At 176 8 ls (.ref 49 :: st) I J Q ↔ At 176 11 ls (.ref 55 :: st) I J Q := A_getR (ab_io ci176 (by decide +kernel)) ow176 fq8_29_49
theorem k176_11 : At 176 11 [a0, some (.int x), a2, a3] st I J Q ↔ At 176 12 [a0, some (.int x), a2, a3] (.int x :: st) I J Q := A_iload_n (q := 1) (ab_io ci176 (by decide +kernel)) rfl
theorem k176_12 : At 176 12 ls st I J Q ↔ At 176 13 ls (.int (-1) :: st) I J Q := A_iconst (ab_io ci176 (by decide +kernel)) ic_m1
theorem k176_13 : At 176 13 ls (.int x1 :: .int x :: .ref r :: st) I J Q ↔ ((ab_ly r).1 = 1 ∧ r < 75 ∧ 0 ≤ x.toInt ∧ x.toInt < (ab_ly r).2) ∧ At 176 14 ls st (va_up I r (va_up (I r) x.toNatClampNeg x1)) J Q := A_iastore (ab_io ci176 (by decide +kernel))
theorem k176_14 : At 176 14 [some (.ref r), a1, a2, a3] st I J Q ↔ At 176 15 [some (.ref r), a1, a2, a3] (.ref r :: st) I J Q := A_aload_n (q := 0) (ab_io ci176 (by decide +kernel)) rfl
theorem k176_15 : At 176 15 ls [.ref 49] I J Q ↔ Cal 139 [.ref 49] I J (fun v I' J' => At 176 18 ls (v.toList ++ []) I' J' Q) := A_cal (kd := 0) (j := 130) (na := 1) (ea := 1) (rk := 49) (by decide +kernel) rfl rfl rfl (Or.inr rfl) (Nat.le_of_ble_eq_true rfl)
theorem k176_18 : At 176 18 [some (.ref r), a1, a2, a3] st I J Q ↔ At 176 19 [some (.ref r), a1, a2, a3] (.ref r :: st) I J Q := A_aload_n (q := 0) (ab_io ci176 (by decide +kernel)) rfl
theorem k176_19 : At 176 19 ls (.ref 49 :: st) I J Q ↔ At 176 22 ls (.ref 57 :: st) I J Q := A_getR (ab_io ci176 (by decide +kernel)) ow176 fq8_35_49
theorem k176_22 : At 176 22 [a0, some (.int x), a2, a3] st I J Q ↔ At 176 23 [a0, some (.int x), a2, a3] (.int x :: st) I J Q := A_iload_n (q := 1) (ab_io ci176 (by decide +kernel)) rfl
theorem k176_23 : At 176 23 ls st I J Q ↔ At 176 24 ls (.int (nI 4) :: st) I J Q := A_iconst (ab_io ci176 (by decide +kernel)) ic_4
theorem k176_24 : At 176 24 ls (.int x1 :: .int x :: st) I J Q ↔ ¬ x1 = 0 ∧ At 176 25 ls (.int (x / x1) :: st) I J Q := A_idiv (ab_io ci176 (by decide +kernel))
theorem k176_25 : At 176 25 ls (.int x :: .ref r :: st) I J Q ↔ ((ab_ly r).1 = 1 ∧ r < 75 ∧ 0 ≤ x.toInt ∧ x.toInt < (ab_ly r).2) ∧ At 176 26 ls (.int (I r x.toNatClampNeg) :: st) I J Q := A_iaload (ab_io ci176 (by decide +kernel))
theorem k176_26 : At 176 26 ls st I J Q ↔ At 176 27 ls (.int (-1) :: st) I J Q := A_iconst (ab_io ci176 (by decide +kernel)) ic_m1
theorem k176_27 : At 176 27 ls (.int x1 :: .int x :: st) I J Q ↔ if x = x1 then At 176 52 ls st I J Q else At 176 30 ls st I J Q := A_if_icmp_eq (o := 25) (ab_io ci176 (by decide +kernel)) (by decide)
theorem k176_30 : At 176 30 [some (.ref r), a1, a2, a3] st I J Q ↔ At 176 31 [some (.ref r), a1, a2, a3] (.ref r :: st) I J Q := A_aload_n (q := 0) (ab_io ci176 (by decide +kernel)) rfl
theorem k176_31 : At 176 31 ls (.ref 49 :: st) I J Q ↔ At 176 34 ls (.ref 57 :: st) I J Q := A_getR (ab_io ci176 (by decide +kernel)) ow176 fq8_35_49
theorem k176_34 : At 176 34 [a0, some (.int x), a2, a3] st I J Q ↔ At 176 35 [a0, some (.int x), a2, a3] (.int x :: st) I J Q := A_iload_n (q := 1) (ab_io ci176 (by decide +kernel)) rfl
theorem k176_35 : At 176 35 ls st I J Q ↔ At 176 36 ls (.int (nI 4) :: st) I J Q := A_iconst (ab_io ci176 (by decide +kernel)) ic_4
theorem k176_36 : At 176 36 ls (.int x1 :: .int x :: st) I J Q ↔ ¬ x1 = 0 ∧ At 176 37 ls (.int (x / x1) :: st) I J Q := A_idiv (ab_io ci176 (by decide +kernel))
theorem k176_37 : At 176 37 ls (.int x :: .ref r :: st) I J Q ↔ ((ab_ly r).1 = 1 ∧ r < 75 ∧ 0 ≤ x.toInt ∧ x.toInt < (ab_ly r).2) ∧ At 176 38 ls (.int (I r x.toNatClampNeg) :: st) I J Q := A_iaload (ab_io ci176 (by decide +kernel))
theorem k176_38 : At 176 38 [some (.ref r), a1, a2, a3] st I J Q ↔ At 176 39 [some (.ref r), a1, a2, a3] (.ref r :: st) I J Q := A_aload_n (q := 0) (ab_io ci176 (by decide +kernel)) rfl
theorem k176_39 : At 176 39 ls (.ref 49 :: st) I J Q ↔ At 176 42 ls (.ref 57 :: st) I J Q := A_getR (ab_io ci176 (by decide +kernel)) ow176 fq8_35_49
theorem k176_42 : At 176 42 ls st I J Q ↔ At 176 44 ls (.int (nI 12) :: st) I J Q := A_bipush (ab_io ci176 (by decide +kernel)) bc_12
theorem k176_44 : At 176 44 [a0, some (.int x), a2, a3] st I J Q ↔ At 176 45 [a0, some (.int x), a2, a3] (.int x :: st) I J Q := A_iload_n (q := 1) (ab_io ci176 (by decide +kernel)) rfl
theorem k176_45 : At 176 45 ls st I J Q ↔ At 176 46 ls (.int (nI 4) :: st) I J Q := A_iconst (ab_io ci176 (by decide +kernel)) ic_4
theorem k176_46 : At 176 46 ls (.int x1 :: .int x :: st) I J Q ↔ ¬ x1 = 0 ∧ At 176 47 ls (.int (x - x / x1 * x1) :: st) I J Q := A_irem (ab_io ci176 (by decide +kernel))
theorem k176_47 : At 176 47 ls (.int x1 :: .int x :: st) I J Q ↔ At 176 48 ls (.int (x + x1) :: st) I J Q := A_iadd (ab_io ci176 (by decide +kernel))
theorem k176_48 : At 176 48 ls (.int x :: .ref r :: st) I J Q ↔ ((ab_ly r).1 = 1 ∧ r < 75 ∧ 0 ≤ x.toInt ∧ x.toInt < (ab_ly r).2) ∧ At 176 49 ls (.int (I r x.toNatClampNeg) :: st) I J Q := A_iaload (ab_io ci176 (by decide +kernel))
theorem k176_49 : At 176 49 ls (.int x1 :: .int x :: st) I J Q ↔ if x = x1 then At 176 56 ls st I J Q else At 176 52 ls st I J Q := A_if_icmp_eq (o := 7) (ab_io ci176 (by decide +kernel)) (by decide)
theorem k176_52 : At 176 52 ls st I J Q ↔ At 176 53 ls (.int (nI 1) :: st) I J Q := A_iconst (ab_io ci176 (by decide +kernel)) ic_1
theorem k176_53 : At 176 53 ls st I J Q ↔ At 176 57 ls st I J Q := A_goto (o := 4) (ab_io ci176 (by decide +kernel)) (by decide)
theorem k176_56 : At 176 56 ls st I J Q ↔ At 176 57 ls (.int (nI 0) :: st) I J Q := A_iconst (ab_io ci176 (by decide +kernel)) ic_0
theorem k176_57 : At 176 57 [a0, a1, a2, a3] (.int x :: st) I J Q ↔ At 176 58 [a0, a1, ab_nv a2, some (.int x)] st I J Q := A_istore_n (q := 3) (ab_io ci176 (by decide +kernel)) (Nat.le_of_ble_eq_true rfl) rfl
theorem k176_58 : At 176 58 [some (.ref r), a1, a2, a3] st I J Q ↔ At 176 59 [some (.ref r), a1, a2, a3] (.ref r :: st) I J Q := A_aload_n (q := 0) (ab_io ci176 (by decide +kernel)) rfl
theorem k176_59 : At 176 59 ls (.ref 49 :: st) I J Q ↔ At 176 62 ls (.ref 55 :: st) I J Q := A_getR (ab_io ci176 (by decide +kernel)) ow176 fq8_29_49
theorem k176_62 : At 176 62 [a0, some (.int x), a2, a3] st I J Q ↔ At 176 63 [a0, some (.int x), a2, a3] (.int x :: st) I J Q := A_iload_n (q := 1) (ab_io ci176 (by decide +kernel)) rfl
theorem k176_63 : At 176 63 [a0, a1, some (.int x), a3] st I J Q ↔ At 176 64 [a0, a1, some (.int x), a3] (.int x :: st) I J Q := A_iload_n (q := 2) (ab_io ci176 (by decide +kernel)) rfl
theorem k176_64 : At 176 64 ls (.int x1 :: .int x :: .ref r :: st) I J Q ↔ ((ab_ly r).1 = 1 ∧ r < 75 ∧ 0 ≤ x.toInt ∧ x.toInt < (ab_ly r).2) ∧ At 176 65 ls st (va_up I r (va_up (I r) x.toNatClampNeg x1)) J Q := A_iastore (ab_io ci176 (by decide +kernel))
theorem k176_65 : At 176 65 [some (.ref r), a1, a2, a3] st I J Q ↔ At 176 66 [some (.ref r), a1, a2, a3] (.ref r :: st) I J Q := A_aload_n (q := 0) (ab_io ci176 (by decide +kernel)) rfl
theorem k176_66 : At 176 66 ls [.ref 49] I J Q ↔ Cal 139 [.ref 49] I J (fun v I' J' => At 176 69 ls (v.toList ++ []) I' J' Q) := A_cal (kd := 0) (j := 130) (na := 1) (ea := 1) (rk := 49) (by decide +kernel) rfl rfl rfl (Or.inr rfl) (Nat.le_of_ble_eq_true rfl)
theorem k176_69 : At 176 69 [a0, a1, a2, some (.int x)] st I J Q ↔ At 176 70 [a0, a1, a2, some (.int x)] (.int x :: st) I J Q := A_iload_n (q := 3) (ab_io ci176 (by decide +kernel)) rfl
theorem k176_70 : At 176 70 ls [.int x] I J Q ↔ (x = 0 ∨ x = 1) ∧ Q (some (.int x)) I J := A_zret (ab_io ci176 (by decide +kernel)) rt176
theorem k177_0 : At 177 0 [a0, some (.int x), a2] st I J Q ↔ At 177 1 [a0, some (.int x), a2] (.int x :: st) I J Q := A_iload_n (q := 1) (ab_io ci177 (by decide +kernel)) rfl
theorem k177_1 : At 177 1 ls [.int p0] I J Q ↔ Cal 131 [.int p0] I J (fun v I' J' => At 177 4 ls (v.toList ++ []) I' J' Q) := A_cal (kd := 1) (j := 108) (na := 1) (ea := 1) (rk := 0) (by decide +kernel) rfl rfl rfl (Or.inl rfl) (Nat.le_of_ble_eq_true rfl)
theorem k177_4 : At 177 4 ls (.int x :: st) I J Q ↔ if x = 0 then At 177 14 ls st I J Q else At 177 7 ls st I J Q := A_ifCond_eq (o := 10) (ab_io ci177 (by decide +kernel)) (by decide)
theorem k177_7 : At 177 7 [a0, a1, some (.int x)] st I J Q ↔ At 177 8 [a0, a1, some (.int x)] (.int x :: st) I J Q := A_iload_n (q := 2) (ab_io ci177 (by decide +kernel)) rfl
theorem k177_8 : At 177 8 ls [.int p0] I J Q ↔ Cal 132 [.int p0] I J (fun v I' J' => At 177 11 ls (v.toList ++ []) I' J' Q) := A_cal (kd := 1) (j := 112) (na := 1) (ea := 1) (rk := 0) (by decide +kernel) rfl rfl rfl (Or.inl rfl) (Nat.le_of_ble_eq_true rfl)
theorem k177_11 : At 177 11 ls (.int x :: st) I J Q ↔ if ¬ x = 0 then At 177 17 ls st I J Q else At 177 14 ls st I J Q := A_ifCond_ne (o := 6) (ab_io ci177 (by decide +kernel)) (by decide)
theorem k177_14 : At 177 14 ls st I J Q ↔ At 177 16 ls (.int (-2) :: st) I J Q := A_bipush (ab_io ci177 (by decide +kernel)) bc_m2
theorem k177_16 : At 177 16 ls [.int x] I J Q ↔ Q (some (.int x)) I J := A_iret (ab_io ci177 (by decide +kernel)) rt177
theorem k177_17 : At 177 17 [some (.ref r), a1, a2] st I J Q ↔ At 177 18 [some (.ref r), a1, a2] (.ref r :: st) I J Q := A_aload_n (q := 0) (ab_io ci177 (by decide +kernel)) rfl
theorem k177_18 : At 177 18 ls [.ref 49] I J Q ↔ Cal 138 [.ref 49] I J (fun v I' J' => At 177 21 ls (v.toList ++ []) I' J' Q) := A_cal (kd := 0) (j := 133) (na := 1) (ea := 1) (rk := 49) (by decide +kernel) rfl rfl rfl (Or.inr rfl) (Nat.le_of_ble_eq_true rfl)
theorem k177_21 : At 177 21 [some (.ref r), a1, a2] st I J Q ↔ At 177 22 [some (.ref r), a1, a2] (.ref r :: st) I J Q := A_aload_n (q := 0) (ab_io ci177 (by decide +kernel)) rfl
theorem k177_22 : At 177 22 [a0, some (.int x), a2] st I J Q ↔ At 177 23 [a0, some (.int x), a2] (.int x :: st) I J Q := A_iload_n (q := 1) (ab_io ci177 (by decide +kernel)) rfl
theorem k177_23 : At 177 23 [a0, a1, some (.int x)] st I J Q ↔ At 177 24 [a0, a1, some (.int x)] (.int x :: st) I J Q := A_iload_n (q := 2) (ab_io ci177 (by decide +kernel)) rfl
theorem k177_24 : At 177 24 ls [.int p0, .int p1, .ref 49] I J Q ↔ Cal 140 [.ref 49, .int p1, .int p0] I J (fun v I' J' => At 177 27 ls (v.toList ++ []) I' J' Q) := A_cal (kd := 0) (j := 136) (na := 3) (ea := 3) (rk := 49) (by decide +kernel) rfl rfl rfl (Or.inr rfl) (Nat.le_of_ble_eq_true rfl)
theorem k177_27 : At 177 27 ls st I J Q ↔ At 177 28 ls (.int (-1) :: st) I J Q := A_iconst (ab_io ci177 (by decide +kernel)) ic_m1
theorem k177_28 : At 177 28 ls (.int x1 :: .int x :: st) I J Q ↔ if ¬ x = x1 then At 177 36 ls st I J Q else At 177 31 ls st I J Q := A_if_icmp_ne (o := 8) (ab_io ci177 (by decide +kernel)) (by decide)
theorem k177_31 : At 177 31 ls st I J Q ↔ At 177 33 ls (.int (-3) :: st) I J Q := A_bipush (ab_io ci177 (by decide +kernel)) bc_m3
theorem k177_33 : At 177 33 ls st I J Q ↔ At 177 53 ls st I J Q := A_goto (o := 20) (ab_io ci177 (by decide +kernel)) (by decide)
theorem k177_36 : At 177 36 [some (.ref r), a1, a2] st I J Q ↔ At 177 37 [some (.ref r), a1, a2] (.ref r :: st) I J Q := A_aload_n (q := 0) (ab_io ci177 (by decide +kernel)) rfl
theorem k177_37 : At 177 37 ls st I J Q ↔ At 177 38 ls (.int (nI 4) :: st) I J Q := A_iconst (ab_io ci177 (by decide +kernel)) ic_4
theorem k177_38 : At 177 38 [a0, some (.int x), a2] st I J Q ↔ At 177 39 [a0, some (.int x), a2] (.int x :: st) I J Q := A_iload_n (q := 1) (ab_io ci177 (by decide +kernel)) rfl
theorem k177_39 : At 177 39 ls (.int x1 :: .int x :: st) I J Q ↔ At 177 40 ls (.int (x * x1) :: st) I J Q := A_imul (ab_io ci177 (by decide +kernel))
theorem k177_40 : At 177 40 [a0, a1, some (.int x)] st I J Q ↔ At 177 41 [a0, a1, some (.int x)] (.int x :: st) I J Q := A_iload_n (q := 2) (ab_io ci177 (by decide +kernel)) rfl
theorem k177_41 : At 177 41 ls (.int x1 :: .int x :: st) I J Q ↔ At 177 42 ls (.int (x + x1) :: st) I J Q := A_iadd (ab_io ci177 (by decide +kernel))
theorem k177_42 : At 177 42 ls [.int p0, .ref 49] I J Q ↔ Cal 176 [.ref 49, .int p0] I J (fun v I' J' => At 177 45 ls (v.toList ++ []) I' J' Q) := A_cal (kd := 0) (j := 251) (na := 2) (ea := 2) (rk := 49) (by decide +kernel) rfl rfl rfl (Or.inr rfl) (Nat.le_of_ble_eq_true rfl)
theorem k177_45 : At 177 45 ls (.int x :: st) I J Q ↔ if x = 0 then At 177 52 ls st I J Q else At 177 48 ls st I J Q := A_ifCond_eq (o := 7) (ab_io ci177 (by decide +kernel)) (by decide)
theorem k177_48 : At 177 48 ls st I J Q ↔ At 177 49 ls (.int (nI 1) :: st) I J Q := A_iconst (ab_io ci177 (by decide +kernel)) ic_1
theorem k177_49 : At 177 49 ls st I J Q ↔ At 177 53 ls st I J Q := A_goto (o := 4) (ab_io ci177 (by decide +kernel)) (by decide)
theorem k177_52 : At 177 52 ls st I J Q ↔ At 177 53 ls (.int (nI 0) :: st) I J Q := A_iconst (ab_io ci177 (by decide +kernel)) ic_0
theorem k177_53 : At 177 53 ls [.int x] I J Q ↔ Q (some (.int x)) I J := A_iret (ab_io ci177 (by decide +kernel)) rt177
theorem k178_0 : At 178 0 [a0, some (.int x), a2, a3] st I J Q ↔ At 178 1 [a0, some (.int x), a2, a3] (.int x :: st) I J Q := A_iload_n (q := 1) (ab_io ci178 (by decide +kernel)) rfl
theorem k178_1 : At 178 1 ls [.int p0] I J Q ↔ Cal 132 [.int p0] I J (fun v I' J' => At 178 4 ls (v.toList ++ []) I' J' Q) := A_cal (kd := 1) (j := 112) (na := 1) (ea := 1) (rk := 0) (by decide +kernel) rfl rfl rfl (Or.inl rfl) (Nat.le_of_ble_eq_true rfl)
theorem k178_4 : At 178 4 ls (.int x :: st) I J Q ↔ if x = 0 then At 178 17 ls st I J Q else At 178 7 ls st I J Q := A_ifCond_eq (o := 13) (ab_io ci178 (by decide +kernel)) (by decide)
theorem k178_7 : At 178 7 [a0, a1, some (.int x), a3] st I J Q ↔ At 178 8 [a0, a1, some (.int x), a3] (.int x :: st) I J Q := A_iload_n (q := 2) (ab_io ci178 (by decide +kernel)) rfl
theorem k178_8 : At 178 8 ls st I J Q ↔ At 178 9 ls (.int (nI 0) :: st) I J Q := A_iconst (ab_io ci178 (by decide +kernel)) ic_0
theorem k178_9 : At 178 9 ls st I J Q ↔ At 178 11 ls (.int (nI 99) :: st) I J Q := A_bipush (ab_io ci178 (by decide +kernel)) bc_99
theorem k178_11 : At 178 11 ls [.int p0, .int p1, .int p2] I J Q ↔ Cal 126 [.int p2, .int p1, .int p0] I J (fun v I' J' => At 178 14 ls (v.toList ++ []) I' J' Q) := A_cal (kd := 1) (j := 101) (na := 3) (ea := 3) (rk := 0) (by decide +kernel) rfl rfl rfl (Or.inl rfl) (Nat.le_of_ble_eq_true rfl)
theorem k178_14 : At 178 14 ls (.int x :: st) I J Q ↔ if ¬ x = 0 then At 178 20 ls st I J Q else At 178 17 ls st I J Q := A_ifCond_ne (o := 6) (ab_io ci178 (by decide +kernel)) (by decide)
theorem k178_17 : At 178 17 ls st I J Q ↔ At 178 19 ls (.int (-2) :: st) I J Q := A_bipush (ab_io ci178 (by decide +kernel)) bc_m2
theorem k178_19 : At 178 19 ls [.int x] I J Q ↔ Q (some (.int x)) I J := A_iret (ab_io ci178 (by decide +kernel)) rt178
theorem k178_20 : At 178 20 [some (.ref r), a1, a2, a3] st I J Q ↔ At 178 21 [some (.ref r), a1, a2, a3] (.ref r :: st) I J Q := A_aload_n (q := 0) (ab_io ci178 (by decide +kernel)) rfl
theorem k178_21 : At 178 21 ls (.ref 49 :: st) I J Q ↔ At 178 24 ls (.ref 54 :: st) I J Q := A_getR (ab_io ci178 (by decide +kernel)) ow178 fq8_26_49
theorem k178_24 : At 178 24 [a0, some (.int x), a2, a3] st I J Q ↔ At 178 25 [a0, some (.int x), a2, a3] (.int x :: st) I J Q := A_iload_n (q := 1) (ab_io ci178 (by decide +kernel)) rfl
theorem k178_25 : At 178 25 ls (.int x :: .ref r :: st) I J Q ↔ ((ab_ly r).1 = 1 ∧ r < 75 ∧ 0 ≤ x.toInt ∧ x.toInt < (ab_ly r).2) ∧ At 178 26 ls (.int (I r x.toNatClampNeg) :: st) I J Q := A_iaload (ab_io ci178 (by decide +kernel))
theorem k178_26 : At 178 26 [a0, a1, a2, a3] (.int x :: st) I J Q ↔ At 178 27 [a0, a1, ab_nv a2, some (.int x)] st I J Q := A_istore_n (q := 3) (ab_io ci178 (by decide +kernel)) (Nat.le_of_ble_eq_true rfl) rfl
theorem k178_27 : At 178 27 [some (.ref r), a1, a2, a3] st I J Q ↔ At 178 28 [some (.ref r), a1, a2, a3] (.ref r :: st) I J Q := A_aload_n (q := 0) (ab_io ci178 (by decide +kernel)) rfl
theorem k178_28 : At 178 28 ls (.ref 49 :: st) I J Q ↔ At 178 31 ls (.ref 54 :: st) I J Q := A_getR (ab_io ci178 (by decide +kernel)) ow178 fq8_26_49
theorem k178_31 : At 178 31 [a0, some (.int x), a2, a3] st I J Q ↔ At 178 32 [a0, some (.int x), a2, a3] (.int x :: st) I J Q := A_iload_n (q := 1) (ab_io ci178 (by decide +kernel)) rfl
theorem k178_32 : At 178 32 [a0, a1, some (.int x), a3] st I J Q ↔ At 178 33 [a0, a1, some (.int x), a3] (.int x :: st) I J Q := A_iload_n (q := 2) (ab_io ci178 (by decide +kernel)) rfl
theorem k178_33 : At 178 33 ls (.int x1 :: .int x :: .ref r :: st) I J Q ↔ ((ab_ly r).1 = 1 ∧ r < 75 ∧ 0 ≤ x.toInt ∧ x.toInt < (ab_ly r).2) ∧ At 178 34 ls st (va_up I r (va_up (I r) x.toNatClampNeg x1)) J Q := A_iastore (ab_io ci178 (by decide +kernel))
theorem k178_34 : At 178 34 [a0, a1, a2, some (.int x)] st I J Q ↔ At 178 35 [a0, a1, a2, some (.int x)] (.int x :: st) I J Q := A_iload_n (q := 3) (ab_io ci178 (by decide +kernel)) rfl
theorem k178_35 : At 178 35 ls [.int x] I J Q ↔ Q (some (.int x)) I J := A_iret (ab_io ci178 (by decide +kernel)) rt178
theorem k179_0 : At 179 0 [a0, some (.int x), a2, a3, a4, a5, a6, a7, a8] st I J Q ↔ At 179 1 [a0, some (.int x), a2, a3, a4, a5, a6, a7, a8] (.int x :: st) I J Q := A_iload_n (q := 1) (ab_io ci179 (by decide +kernel)) rfl
theorem k179_1 : At 179 1 ls st I J Q ↔ At 179 2 ls (.int (-1) :: st) I J Q := A_iconst (ab_io ci179 (by decide +kernel)) ic_m1
theorem k179_2 : At 179 2 ls (.int x1 :: .int x :: st) I J Q ↔ if x1 ≤ x then At 179 8 ls st I J Q else At 179 5 ls st I J Q := A_if_icmp_ge (o := 6) (ab_io ci179 (by decide +kernel)) (by decide)
theorem k179_5 : At 179 5 ls st I J Q ↔ At 179 7 ls (.int (-2) :: st) I J Q := A_bipush (ab_io ci179 (by decide +kernel)) bc_m2
theorem k179_7 : At 179 7 ls [.int x] I J Q ↔ Q (some (.int x)) I J := A_iret (ab_io ci179 (by decide +kernel)) rt179
theorem k179_8 : At 179 8 [some (.ref r), a1, a2, a3, a4, a5, a6, a7, a8] st I J Q ↔ At 179 9 [some (.ref r), a1, a2, a3, a4, a5, a6, a7, a8] (.ref r :: st) I J Q := A_aload_n (q := 0) (ab_io ci179 (by decide +kernel)) rfl
theorem k179_9 : At 179 9 ls [.ref 49] I J Q ↔ Cal 138 [.ref 49] I J (fun v I' J' => At 179 12 ls (v.toList ++ []) I' J' Q) := A_cal (kd := 0) (j := 133) (na := 1) (ea := 1) (rk := 49) (by decide +kernel) rfl rfl rfl (Or.inr rfl) (Nat.le_of_ble_eq_true rfl)
theorem k179_12 : At 179 12 ls st I J Q ↔ At 179 13 ls (.int (nI 0) :: st) I J Q := A_iconst (ab_io ci179 (by decide +kernel)) ic_0
theorem k179_13 : At 179 13 [a0, a1, a2, a3, a4, a5, a6, a7, a8] (.int x :: st) I J Q ↔ At 179 14 [a0, ab_nv a1, some (.int x), a3, a4, a5, a6, a7, a8] st I J Q := A_istore_n (q := 2) (ab_io ci179 (by decide +kernel)) (Nat.le_of_ble_eq_true rfl) rfl
theorem k179_14 : At 179 14 ls st I J Q ↔ At 179 15 ls (.int (nI 0) :: st) I J Q := A_iconst (ab_io ci179 (by decide +kernel)) ic_0
theorem k179_15 : At 179 15 [a0, a1, a2, a3, a4, a5, a6, a7, a8] (.int x :: st) I J Q ↔ At 179 16 [a0, a1, ab_nv a2, some (.int x), a4, a5, a6, a7, a8] st I J Q := A_istore_n (q := 3) (ab_io ci179 (by decide +kernel)) (Nat.le_of_ble_eq_true rfl) rfl
theorem k179_16 : At 179 16 ls st I J Q ↔ At 179 17 ls (.int (nI 1) :: st) I J Q := A_iconst (ab_io ci179 (by decide +kernel)) ic_1
theorem k179_17 : At 179 17 [a0, a1, a2, a3, a4, a5, a6, a7, a8] (.int x :: st) I J Q ↔ At 179 19 [a0, a1, a2, ab_nv a3, some (.int x), a5, a6, a7, a8] st I J Q := A_istore (q := 4) (ab_io ci179 (by decide +kernel)) (Nat.le_of_ble_eq_true rfl) rfl
theorem k179_19 : At 179 19 [a0, a1, a2, a3, some (.int x), a5, a6, a7, a8] st I J Q ↔ At 179 21 [a0, a1, a2, a3, some (.int x), a5, a6, a7, a8] (.int x :: st) I J Q := A_iload (q := 4) (ab_io ci179 (by decide +kernel)) rfl
theorem k179_21 : At 179 21 ls (.int x :: st) I J Q ↔ if x = 0 then At 179 179 ls st I J Q else At 179 24 ls st I J Q := A_ifCond_eq (o := 158) (ab_io ci179 (by decide +kernel)) (by decide)
theorem k179_24 : At 179 24 ls st I J Q ↔ At 179 25 ls (.int (-1) :: st) I J Q := A_iconst (ab_io ci179 (by decide +kernel)) ic_m1
theorem k179_25 : At 179 25 [a0, a1, a2, a3, a4, a5, a6, a7, a8] (.int x :: st) I J Q ↔ At 179 27 [a0, a1, a2, a3, ab_nv a4, some (.int x), a6, a7, a8] st I J Q := A_istore (q := 5) (ab_io ci179 (by decide +kernel)) (Nat.le_of_ble_eq_true rfl) rfl
theorem k179_27 : At 179 27 ls st I J Q ↔ At 179 28 ls (.int (nI 0) :: st) I J Q := A_iconst (ab_io ci179 (by decide +kernel)) ic_0
theorem k179_28 : At 179 28 [a0, a1, a2, a3, a4, a5, a6, a7, a8] (.int x :: st) I J Q ↔ At 179 30 [a0, a1, a2, a3, a4, ab_nv a5, some (.int x), a7, a8] st I J Q := A_istore (q := 6) (ab_io ci179 (by decide +kernel)) (Nat.le_of_ble_eq_true rfl) rfl
theorem k179_30 : At 179 30 [a0, a1, a2, a3, a4, a5, some (.int x), a7, a8] st I J Q ↔ At 179 32 [a0, a1, a2, a3, a4, a5, some (.int x), a7, a8] (.int x :: st) I J Q := A_iload (q := 6) (ab_io ci179 (by decide +kernel)) rfl
theorem k179_32 : At 179 32 ls st I J Q ↔ At 179 34 ls (.int (nI 48) :: st) I J Q := A_bipush (ab_io ci179 (by decide +kernel)) bc_48
theorem k179_34 : At 179 34 ls (.int x1 :: .int x :: st) I J Q ↔ if x1 ≤ x then At 179 123 ls st I J Q else At 179 37 ls st I J Q := A_if_icmp_ge (o := 89) (ab_io ci179 (by decide +kernel)) (by decide)
theorem k179_37 : At 179 37 [some (.ref r), a1, a2, a3, a4, a5, a6, a7, a8] st I J Q ↔ At 179 38 [some (.ref r), a1, a2, a3, a4, a5, a6, a7, a8] (.ref r :: st) I J Q := A_aload_n (q := 0) (ab_io ci179 (by decide +kernel)) rfl
theorem k179_38 : At 179 38 ls (.ref 49 :: st) I J Q ↔ At 179 41 ls (.ref 57 :: st) I J Q := A_getR (ab_io ci179 (by decide +kernel)) ow179 fq8_35_49
theorem k179_41 : At 179 41 [a0, a1, a2, a3, a4, a5, some (.int x), a7, a8] st I J Q ↔ At 179 43 [a0, a1, a2, a3, a4, a5, some (.int x), a7, a8] (.int x :: st) I J Q := A_iload (q := 6) (ab_io ci179 (by decide +kernel)) rfl
theorem k179_43 : At 179 43 ls st I J Q ↔ At 179 44 ls (.int (nI 4) :: st) I J Q := A_iconst (ab_io ci179 (by decide +kernel)) ic_4
theorem k179_44 : At 179 44 ls (.int x1 :: .int x :: st) I J Q ↔ ¬ x1 = 0 ∧ At 179 45 ls (.int (x / x1) :: st) I J Q := A_idiv (ab_io ci179 (by decide +kernel))
theorem k179_45 : At 179 45 ls (.int x :: .ref r :: st) I J Q ↔ ((ab_ly r).1 = 1 ∧ r < 75 ∧ 0 ≤ x.toInt ∧ x.toInt < (ab_ly r).2) ∧ At 179 46 ls (.int (I r x.toNatClampNeg) :: st) I J Q := A_iaload (ab_io ci179 (by decide +kernel))
theorem k179_46 : At 179 46 [a0, a1, a2, a3, a4, a5, a6, a7, a8] (.int x :: st) I J Q ↔ At 179 48 [a0, a1, a2, a3, a4, a5, ab_nv a6, some (.int x), a8] st I J Q := A_istore (q := 7) (ab_io ci179 (by decide +kernel)) (Nat.le_of_ble_eq_true rfl) rfl
theorem k179_48 : At 179 48 [some (.ref r), a1, a2, a3, a4, a5, a6, a7, a8] st I J Q ↔ At 179 49 [some (.ref r), a1, a2, a3, a4, a5, a6, a7, a8] (.ref r :: st) I J Q := A_aload_n (q := 0) (ab_io ci179 (by decide +kernel)) rfl
theorem k179_49 : At 179 49 ls (.ref 49 :: st) I J Q ↔ At 179 52 ls (.ref 57 :: st) I J Q := A_getR (ab_io ci179 (by decide +kernel)) ow179 fq8_35_49
theorem k179_52 : At 179 52 ls st I J Q ↔ At 179 54 ls (.int (nI 12) :: st) I J Q := A_bipush (ab_io ci179 (by decide +kernel)) bc_12
theorem k179_54 : At 179 54 [a0, a1, a2, a3, a4, a5, some (.int x), a7, a8] st I J Q ↔ At 179 56 [a0, a1, a2, a3, a4, a5, some (.int x), a7, a8] (.int x :: st) I J Q := A_iload (q := 6) (ab_io ci179 (by decide +kernel)) rfl
theorem k179_56 : At 179 56 ls st I J Q ↔ At 179 57 ls (.int (nI 4) :: st) I J Q := A_iconst (ab_io ci179 (by decide +kernel)) ic_4
theorem k179_57 : At 179 57 ls (.int x1 :: .int x :: st) I J Q ↔ ¬ x1 = 0 ∧ At 179 58 ls (.int (x - x / x1 * x1) :: st) I J Q := A_irem (ab_io ci179 (by decide +kernel))
theorem k179_58 : At 179 58 ls (.int x1 :: .int x :: st) I J Q ↔ At 179 59 ls (.int (x + x1) :: st) I J Q := A_iadd (ab_io ci179 (by decide +kernel))
theorem k179_59 : At 179 59 ls (.int x :: .ref r :: st) I J Q ↔ ((ab_ly r).1 = 1 ∧ r < 75 ∧ 0 ≤ x.toInt ∧ x.toInt < (ab_ly r).2) ∧ At 179 60 ls (.int (I r x.toNatClampNeg) :: st) I J Q := A_iaload (ab_io ci179 (by decide +kernel))
theorem k179_60 : At 179 60 [a0, a1, a2, a3, a4, a5, a6, a7, a8] (.int x :: st) I J Q ↔ At 179 62 [a0, a1, a2, a3, a4, a5, a6, ab_nv a7, some (.int x)] st I J Q := A_istore (q := 8) (ab_io ci179 (by decide +kernel)) (Nat.le_of_ble_eq_true rfl) rfl
theorem k179_62 : At 179 62 [a0, a1, a2, a3, a4, a5, a6, some (.int x), a8] st I J Q ↔ At 179 64 [a0, a1, a2, a3, a4, a5, a6, some (.int x), a8] (.int x :: st) I J Q := A_iload (q := 7) (ab_io ci179 (by decide +kernel)) rfl
theorem k179_64 : At 179 64 ls st I J Q ↔ At 179 65 ls (.int (-1) :: st) I J Q := A_iconst (ab_io ci179 (by decide +kernel)) ic_m1
theorem k179_65 : At 179 65 ls (.int x1 :: .int x :: st) I J Q ↔ if x = x1 then At 179 117 ls st I J Q else At 179 68 ls st I J Q := A_if_icmp_eq (o := 52) (ab_io ci179 (by decide +kernel)) (by decide)
theorem k179_68 : At 179 68 [a0, a1, a2, a3, a4, a5, a6, a7, some (.int x)] st I J Q ↔ At 179 70 [a0, a1, a2, a3, a4, a5, a6, a7, some (.int x)] (.int x :: st) I J Q := A_iload (q := 8) (ab_io ci179 (by decide +kernel)) rfl
theorem k179_70 : At 179 70 ls st I J Q ↔ At 179 71 ls (.int (-1) :: st) I J Q := A_iconst (ab_io ci179 (by decide +kernel)) ic_m1
theorem k179_71 : At 179 71 ls (.int x1 :: .int x :: st) I J Q ↔ if x = x1 then At 179 117 ls st I J Q else At 179 74 ls st I J Q := A_if_icmp_eq (o := 46) (ab_io ci179 (by decide +kernel)) (by decide)
theorem k179_74 : At 179 74 [a0, a1, a2, a3, a4, a5, a6, some (.int x), a8] st I J Q ↔ At 179 76 [a0, a1, a2, a3, a4, a5, a6, some (.int x), a8] (.int x :: st) I J Q := A_iload (q := 7) (ab_io ci179 (by decide +kernel)) rfl
theorem k179_76 : At 179 76 [a0, a1, a2, a3, a4, a5, a6, a7, some (.int x)] st I J Q ↔ At 179 78 [a0, a1, a2, a3, a4, a5, a6, a7, some (.int x)] (.int x :: st) I J Q := A_iload (q := 8) (ab_io ci179 (by decide +kernel)) rfl
theorem k179_78 : At 179 78 ls (.int x1 :: .int x :: st) I J Q ↔ if x = x1 then At 179 117 ls st I J Q else At 179 81 ls st I J Q := A_if_icmp_eq (o := 39) (ab_io ci179 (by decide +kernel)) (by decide)
theorem k179_81 : At 179 81 [a0, a1, a2, a3, a4, some (.int x), a6, a7, a8] st I J Q ↔ At 179 83 [a0, a1, a2, a3, a4, some (.int x), a6, a7, a8] (.int x :: st) I J Q := A_iload (q := 5) (ab_io ci179 (by decide +kernel)) rfl
theorem k179_83 : At 179 83 ls st I J Q ↔ At 179 84 ls (.int (-1) :: st) I J Q := A_iconst (ab_io ci179 (by decide +kernel)) ic_m1
theorem k179_84 : At 179 84 ls (.int x1 :: .int x :: st) I J Q ↔ if x = x1 then At 179 108 ls st I J Q else At 179 87 ls st I J Q := A_if_icmp_eq (o := 24) (ab_io ci179 (by decide +kernel)) (by decide)
theorem k179_87 : At 179 87 [some (.ref r), a1, a2, a3, a4, a5, a6, a7, a8] st I J Q ↔ At 179 88 [some (.ref r), a1, a2, a3, a4, a5, a6, a7, a8] (.ref r :: st) I J Q := A_aload_n (q := 0) (ab_io ci179 (by decide +kernel)) rfl
theorem k179_88 : At 179 88 ls (.ref 49 :: st) I J Q ↔ At 179 91 ls (.ref 54 :: st) I J Q := A_getR (ab_io ci179 (by decide +kernel)) ow179 fq8_26_49
theorem k179_91 : At 179 91 [a0, a1, a2, a3, a4, a5, some (.int x), a7, a8] st I J Q ↔ At 179 93 [a0, a1, a2, a3, a4, a5, some (.int x), a7, a8] (.int x :: st) I J Q := A_iload (q := 6) (ab_io ci179 (by decide +kernel)) rfl
theorem k179_93 : At 179 93 ls st I J Q ↔ At 179 94 ls (.int (nI 4) :: st) I J Q := A_iconst (ab_io ci179 (by decide +kernel)) ic_4
theorem k179_94 : At 179 94 ls (.int x1 :: .int x :: st) I J Q ↔ ¬ x1 = 0 ∧ At 179 95 ls (.int (x - x / x1 * x1) :: st) I J Q := A_irem (ab_io ci179 (by decide +kernel))
theorem k179_95 : At 179 95 ls (.int x :: .ref r :: st) I J Q ↔ ((ab_ly r).1 = 1 ∧ r < 75 ∧ 0 ≤ x.toInt ∧ x.toInt < (ab_ly r).2) ∧ At 179 96 ls (.int (I r x.toNatClampNeg) :: st) I J Q := A_iaload (ab_io ci179 (by decide +kernel))
theorem k179_96 : At 179 96 [some (.ref r), a1, a2, a3, a4, a5, a6, a7, a8] st I J Q ↔ At 179 97 [some (.ref r), a1, a2, a3, a4, a5, a6, a7, a8] (.ref r :: st) I J Q := A_aload_n (q := 0) (ab_io ci179 (by decide +kernel)) rfl
theorem k179_97 : At 179 97 ls (.ref 49 :: st) I J Q ↔ At 179 100 ls (.ref 54 :: st) I J Q := A_getR (ab_io ci179 (by decide +kernel)) ow179 fq8_26_49
theorem k179_100 : At 179 100 [a0, a1, a2, a3, a4, some (.int x), a6, a7, a8] st I J Q ↔ At 179 102 [a0, a1, a2, a3, a4, some (.int x), a6, a7, a8] (.int x :: st) I J Q := A_iload (q := 5) (ab_io ci179 (by decide +kernel)) rfl
theorem k179_102 : At 179 102 ls st I J Q ↔ At 179 103 ls (.int (nI 4) :: st) I J Q := A_iconst (ab_io ci179 (by decide +kernel)) ic_4
theorem k179_103 : At 179 103 ls (.int x1 :: .int x :: st) I J Q ↔ ¬ x1 = 0 ∧ At 179 104 ls (.int (x - x / x1 * x1) :: st) I J Q := A_irem (ab_io ci179 (by decide +kernel))
theorem k179_104 : At 179 104 ls (.int x :: .ref r :: st) I J Q ↔ ((ab_ly r).1 = 1 ∧ r < 75 ∧ 0 ≤ x.toInt ∧ x.toInt < (ab_ly r).2) ∧ At 179 105 ls (.int (I r x.toNatClampNeg) :: st) I J Q := A_iaload (ab_io ci179 (by decide +kernel))
theorem k179_105 : At 179 105 ls (.int x1 :: .int x :: st) I J Q ↔ if x1 ≤ x then At 179 113 ls st I J Q else At 179 108 ls st I J Q := A_if_icmp_ge (o := 8) (ab_io ci179 (by decide +kernel)) (by decide)
theorem k179_108 : At 179 108 [a0, a1, a2, a3, a4, a5, some (.int x), a7, a8] st I J Q ↔ At 179 110 [a0, a1, a2, a3, a4, a5, some (.int x), a7, a8] (.int x :: st) I J Q := A_iload (q := 6) (ab_io ci179 (by decide +kernel)) rfl
theorem k179_110 : At 179 110 ls st I J Q ↔ At 179 115 ls st I J Q := A_goto (o := 5) (ab_io ci179 (by decide +kernel)) (by decide)
theorem k179_113 : At 179 113 [a0, a1, a2, a3, a4, some (.int x), a6, a7, a8] st I J Q ↔ At 179 115 [a0, a1, a2, a3, a4, some (.int x), a6, a7, a8] (.int x :: st) I J Q := A_iload (q := 5) (ab_io ci179 (by decide +kernel)) rfl
theorem k179_115 : At 179 115 [a0, a1, a2, a3, a4, a5, a6, a7, a8] (.int x :: st) I J Q ↔ At 179 117 [a0, a1, a2, a3, ab_nv a4, some (.int x), a6, a7, a8] st I J Q := A_istore (q := 5) (ab_io ci179 (by decide +kernel)) (Nat.le_of_ble_eq_true rfl) rfl
theorem k179_117 : At 179 117 [a0, a1, a2, a3, a4, a5, some (.int x), a7, a8] st I J Q ↔ At 179 120 [a0, a1, a2, a3, a4, ab_nv a5, some (.int (x + (nI 1))), a7, a8] st I J Q := A_iinc (q := 6) (ab_io ci179 (by decide +kernel)) ic_1 (Nat.le_of_ble_eq_true rfl) rfl rfl
theorem k179_120 : At 179 120 ls st I J Q ↔ At 179 30 ls st I J Q := A_goto (o := (-90)) (ab_io ci179 (by decide +kernel)) (by decide)
theorem k179_123 : At 179 123 [a0, a1, a2, a3, a4, some (.int x), a6, a7, a8] st I J Q ↔ At 179 125 [a0, a1, a2, a3, a4, some (.int x), a6, a7, a8] (.int x :: st) I J Q := A_iload (q := 5) (ab_io ci179 (by decide +kernel)) rfl
theorem k179_125 : At 179 125 ls st I J Q ↔ At 179 126 ls (.int (-1) :: st) I J Q := A_iconst (ab_io ci179 (by decide +kernel)) ic_m1
theorem k179_126 : At 179 126 ls (.int x1 :: .int x :: st) I J Q ↔ if x = x1 then At 179 133 ls st I J Q else At 179 129 ls st I J Q := A_if_icmp_eq (o := 7) (ab_io ci179 (by decide +kernel)) (by decide)
theorem k179_129 : At 179 129 ls st I J Q ↔ At 179 130 ls (.int (nI 1) :: st) I J Q := A_iconst (ab_io ci179 (by decide +kernel)) ic_1
theorem k179_130 : At 179 130 ls st I J Q ↔ At 179 134 ls st I J Q := A_goto (o := 4) (ab_io ci179 (by decide +kernel)) (by decide)
theorem k179_133 : At 179 133 ls st I J Q ↔ At 179 134 ls (.int (nI 0) :: st) I J Q := A_iconst (ab_io ci179 (by decide +kernel)) ic_0
theorem k179_134 : At 179 134 [a0, a1, a2, a3, a4, a5, a6, a7, a8] (.int x :: st) I J Q ↔ At 179 136 [a0, a1, a2, ab_nv a3, some (.int x), a5, a6, a7, a8] st I J Q := A_istore (q := 4) (ab_io ci179 (by decide +kernel)) (Nat.le_of_ble_eq_true rfl) rfl
theorem k179_136 : At 179 136 [a0, a1, a2, a3, some (.int x), a5, a6, a7, a8] st I J Q ↔ At 179 138 [a0, a1, a2, a3, some (.int x), a5, a6, a7, a8] (.int x :: st) I J Q := A_iload (q := 4) (ab_io ci179 (by decide +kernel)) rfl
theorem k179_138 : At 179 138 ls (.int x :: st) I J Q ↔ if x = 0 then At 179 176 ls st I J Q else At 179 141 ls st I J Q := A_ifCond_eq (o := 38) (ab_io ci179 (by decide +kernel)) (by decide)
theorem k179_141 : At 179 141 [a0, a1, a2, some (.int x), a4, a5, a6, a7, a8] st I J Q ↔ At 179 142 [a0, a1, a2, some (.int x), a4, a5, a6, a7, a8] (.int x :: st) I J Q := A_iload_n (q := 3) (ab_io ci179 (by decide +kernel)) rfl
theorem k179_142 : At 179 142 [a0, some (.int x), a2, a3, a4, a5, a6, a7, a8] st I J Q ↔ At 179 143 [a0, some (.int x), a2, a3, a4, a5, a6, a7, a8] (.int x :: st) I J Q := A_iload_n (q := 1) (ab_io ci179 (by decide +kernel)) rfl
theorem k179_143 : At 179 143 ls (.int x1 :: .int x :: st) I J Q ↔ if ¬ x = x1 then At 179 149 ls st I J Q else At 179 146 ls st I J Q := A_if_icmp_ne (o := 6) (ab_io ci179 (by decide +kernel)) (by decide)
theorem k179_146 : At 179 146 [a0, a1, a2, a3, a4, some (.int x), a6, a7, a8] st I J Q ↔ At 179 148 [a0, a1, a2, a3, a4, some (.int x), a6, a7, a8] (.int x :: st) I J Q := A_iload (q := 5) (ab_io ci179 (by decide +kernel)) rfl
theorem k179_148 : At 179 148 ls [.int x] I J Q ↔ Q (some (.int x)) I J := A_iret (ab_io ci179 (by decide +kernel)) rt179
theorem k179_149 : At 179 149 [a0, a1, some (.int x), a3, a4, a5, a6, a7, a8] st I J Q ↔ At 179 150 [a0, a1, some (.int x), a3, a4, a5, a6, a7, a8] (.int x :: st) I J Q := A_iload_n (q := 2) (ab_io ci179 (by decide +kernel)) rfl
theorem k179_150 : At 179 150 [some (.ref r), a1, a2, a3, a4, a5, a6, a7, a8] st I J Q ↔ At 179 151 [some (.ref r), a1, a2, a3, a4, a5, a6, a7, a8] (.ref r :: st) I J Q := A_aload_n (q := 0) (ab_io ci179 (by decide +kernel)) rfl
theorem k179_151 : At 179 151 ls (.ref 49 :: st) I J Q ↔ At 179 154 ls (.ref 54 :: st) I J Q := A_getR (ab_io ci179 (by decide +kernel)) ow179 fq8_26_49
theorem k179_154 : At 179 154 [a0, a1, a2, a3, a4, some (.int x), a6, a7, a8] st I J Q ↔ At 179 156 [a0, a1, a2, a3, a4, some (.int x), a6, a7, a8] (.int x :: st) I J Q := A_iload (q := 5) (ab_io ci179 (by decide +kernel)) rfl
theorem k179_156 : At 179 156 ls st I J Q ↔ At 179 157 ls (.int (nI 4) :: st) I J Q := A_iconst (ab_io ci179 (by decide +kernel)) ic_4
theorem k179_157 : At 179 157 ls (.int x1 :: .int x :: st) I J Q ↔ ¬ x1 = 0 ∧ At 179 158 ls (.int (x - x / x1 * x1) :: st) I J Q := A_irem (ab_io ci179 (by decide +kernel))
theorem k179_158 : At 179 158 ls (.int x :: .ref r :: st) I J Q ↔ ((ab_ly r).1 = 1 ∧ r < 75 ∧ 0 ≤ x.toInt ∧ x.toInt < (ab_ly r).2) ∧ At 179 159 ls (.int (I r x.toNatClampNeg) :: st) I J Q := A_iaload (ab_io ci179 (by decide +kernel))
theorem k179_159 : At 179 159 ls (.int x1 :: .int x :: st) I J Q ↔ At 179 160 ls (.int (x + x1) :: st) I J Q := A_iadd (ab_io ci179 (by decide +kernel))
theorem k179_160 : At 179 160 [a0, a1, a2, a3, a4, a5, a6, a7, a8] (.int x :: st) I J Q ↔ At 179 161 [a0, ab_nv a1, some (.int x), a3, a4, a5, a6, a7, a8] st I J Q := A_istore_n (q := 2) (ab_io ci179 (by decide +kernel)) (Nat.le_of_ble_eq_true rfl) rfl
theorem k179_161 : At 179 161 [a0, a1, a2, some (.int x), a4, a5, a6, a7, a8] st I J Q ↔ At 179 164 [a0, a1, ab_nv a2, some (.int (x + (nI 1))), a4, a5, a6, a7, a8] st I J Q := A_iinc (q := 3) (ab_io ci179 (by decide +kernel)) ic_1 (Nat.le_of_ble_eq_true rfl) rfl rfl
theorem k179_164 : At 179 164 [some (.ref r), a1, a2, a3, a4, a5, a6, a7, a8] st I J Q ↔ At 179 165 [some (.ref r), a1, a2, a3, a4, a5, a6, a7, a8] (.ref r :: st) I J Q := A_aload_n (q := 0) (ab_io ci179 (by decide +kernel)) rfl
theorem k179_165 : At 179 165 ls (.ref 49 :: st) I J Q ↔ At 179 168 ls (.ref 55 :: st) I J Q := A_getR (ab_io ci179 (by decide +kernel)) ow179 fq8_29_49
theorem k179_168 : At 179 168 [a0, a1, a2, a3, a4, some (.int x), a6, a7, a8] st I J Q ↔ At 179 170 [a0, a1, a2, a3, a4, some (.int x), a6, a7, a8] (.int x :: st) I J Q := A_iload (q := 5) (ab_io ci179 (by decide +kernel)) rfl
theorem k179_170 : At 179 170 ls st I J Q ↔ At 179 171 ls (.int (nI 0) :: st) I J Q := A_iconst (ab_io ci179 (by decide +kernel)) ic_0
theorem k179_171 : At 179 171 ls (.int x1 :: .int x :: .ref r :: st) I J Q ↔ ((ab_ly r).1 = 1 ∧ r < 75 ∧ 0 ≤ x.toInt ∧ x.toInt < (ab_ly r).2) ∧ At 179 172 ls st (va_up I r (va_up (I r) x.toNatClampNeg x1)) J Q := A_iastore (ab_io ci179 (by decide +kernel))
theorem k179_172 : At 179 172 [some (.ref r), a1, a2, a3, a4, a5, a6, a7, a8] st I J Q ↔ At 179 173 [some (.ref r), a1, a2, a3, a4, a5, a6, a7, a8] (.ref r :: st) I J Q := A_aload_n (q := 0) (ab_io ci179 (by decide +kernel)) rfl
theorem k179_173 : At 179 173 ls [.ref 49] I J Q ↔ Cal 139 [.ref 49] I J (fun v I' J' => At 179 176 ls (v.toList ++ []) I' J' Q) := A_cal (kd := 0) (j := 130) (na := 1) (ea := 1) (rk := 49) (by decide +kernel) rfl rfl rfl (Or.inr rfl) (Nat.le_of_ble_eq_true rfl)
theorem k179_176 : At 179 176 ls st I J Q ↔ At 179 19 ls st I J Q := A_goto (o := (-157)) (ab_io ci179 (by decide +kernel)) (by decide)
theorem k179_179 : At 179 179 [a0, some (.int x), a2, a3, a4, a5, a6, a7, a8] st I J Q ↔ At 179 180 [a0, some (.int x), a2, a3, a4, a5, a6, a7, a8] (.int x :: st) I J Q := A_iload_n (q := 1) (ab_io ci179 (by decide +kernel)) rfl
theorem k179_180 : At 179 180 ls st I J Q ↔ At 179 181 ls (.int (-1) :: st) I J Q := A_iconst (ab_io ci179 (by decide +kernel)) ic_m1
theorem k179_181 : At 179 181 ls (.int x1 :: .int x :: st) I J Q ↔ if ¬ x = x1 then At 179 188 ls st I J Q else At 179 184 ls st I J Q := A_if_icmp_ne (o := 7) (ab_io ci179 (by decide +kernel)) (by decide)
theorem k179_184 : At 179 184 [a0, a1, some (.int x), a3, a4, a5, a6, a7, a8] st I J Q ↔ At 179 185 [a0, a1, some (.int x), a3, a4, a5, a6, a7, a8] (.int x :: st) I J Q := A_iload_n (q := 2) (ab_io ci179 (by decide +kernel)) rfl
theorem k179_185 : At 179 185 ls st I J Q ↔ At 179 189 ls st I J Q := A_goto (o := 4) (ab_io ci179 (by decide +kernel)) (by decide)
theorem k179_188 : At 179 188 ls st I J Q ↔ At 179 189 ls (.int (-1) :: st) I J Q := A_iconst (ab_io ci179 (by decide +kernel)) ic_m1
theorem k179_189 : At 179 189 ls [.int x] I J Q ↔ Q (some (.int x)) I J := A_iret (ab_io ci179 (by decide +kernel)) rt179
theorem k180_0 : At 180 0 [a0, some (.int x), a2, a3, a4, a5, a6, a7, a8, a9] st I J Q ↔ At 180 1 [a0, some (.int x), a2, a3, a4, a5, a6, a7, a8, a9] (.int x :: st) I J Q := A_iload_n (q := 1) (ab_io ci180 (by decide +kernel)) rfl
theorem k180_1 : At 180 1 ls [.int p0] I J Q ↔ Cal 132 [.int p0] I J (fun v I' J' => At 180 4 ls (v.toList ++ []) I' J' Q) := A_cal (kd := 1) (j := 112) (na := 1) (ea := 1) (rk := 0) (by decide +kernel) rfl rfl rfl (Or.inl rfl) (Nat.le_of_ble_eq_true rfl)
theorem k180_4 : At 180 4 ls (.int x :: st) I J Q ↔ if x = 0 then At 180 16 ls st I J Q else At 180 7 ls st I J Q := A_ifCond_eq (o := 12) (ab_io ci180 (by decide +kernel)) (by decide)
theorem k180_7 : At 180 7 [a0, a1, some (.int x), a3, a4, a5, a6, a7, a8, a9] st I J Q ↔ At 180 8 [a0, a1, some (.int x), a3, a4, a5, a6, a7, a8, a9] (.int x :: st) I J Q := A_iload_n (q := 2) (ab_io ci180 (by decide +kernel)) rfl
theorem k180_8 : At 180 8 ls st I J Q ↔ At 180 9 ls (.int (nI 0) :: st) I J Q := A_iconst (ab_io ci180 (by decide +kernel)) ic_0
theorem k180_9 : At 180 9 ls st I J Q ↔ At 180 10 ls (.int (nI 1) :: st) I J Q := A_iconst (ab_io ci180 (by decide +kernel)) ic_1
theorem k180_10 : At 180 10 ls [.int p0, .int p1, .int p2] I J Q ↔ Cal 126 [.int p2, .int p1, .int p0] I J (fun v I' J' => At 180 13 ls (v.toList ++ []) I' J' Q) := A_cal (kd := 1) (j := 101) (na := 3) (ea := 3) (rk := 0) (by decide +kernel) rfl rfl rfl (Or.inl rfl) (Nat.le_of_ble_eq_true rfl)
theorem k180_13 : At 180 13 ls (.int x :: st) I J Q ↔ if ¬ x = 0 then At 180 22 ls st I J Q else At 180 16 ls st I J Q := A_ifCond_ne (o := 9) (ab_io ci180 (by decide +kernel)) (by decide)
theorem k180_16 : At 180 16 ls st I J Q ↔ At 180 18 ls (.int (-2) :: st) I J Q := A_bipush (ab_io ci180 (by decide +kernel)) bc_m2
theorem k180_18 : At 180 18 ls [.int p0] I J Q ↔ Cal 127 [.int p0] I J (fun v I' J' => At 180 21 ls (v.toList ++ []) I' J' Q) := A_cal (kd := 1) (j := 162) (na := 1) (ea := 1) (rk := 0) (by decide +kernel) rfl rfl rfl (Or.inl rfl) (Nat.le_of_ble_eq_true rfl)
theorem k180_21 : At 180 21 ls [.long u] I J Q ↔ Q (some (.long u)) I J := A_lret (ab_io ci180 (by decide +kernel)) rt180
theorem k180_22 : At 180 22 [some (.ref r), a1, a2, a3, a4, a5, a6, a7, a8, a9] st I J Q ↔ At 180 23 [some (.ref r), a1, a2, a3, a4, a5, a6, a7, a8, a9] (.ref r :: st) I J Q := A_aload_n (q := 0) (ab_io ci180 (by decide +kernel)) rfl
theorem k180_23 : At 180 23 ls [.ref 49] I J Q ↔ Cal 138 [.ref 49] I J (fun v I' J' => At 180 26 ls (v.toList ++ []) I' J' Q) := A_cal (kd := 0) (j := 133) (na := 1) (ea := 1) (rk := 49) (by decide +kernel) rfl rfl rfl (Or.inr rfl) (Nat.le_of_ble_eq_true rfl)
theorem k180_26 : At 180 26 ls st I J Q ↔ At 180 27 ls (.int (nI 0) :: st) I J Q := A_iconst (ab_io ci180 (by decide +kernel)) ic_0
theorem k180_27 : At 180 27 [a0, a1, a2, a3, a4, a5, a6, a7, a8, a9] (.int x :: st) I J Q ↔ At 180 28 [a0, a1, ab_nv a2, some (.int x), a4, a5, a6, a7, a8, a9] st I J Q := A_istore_n (q := 3) (ab_io ci180 (by decide +kernel)) (Nat.le_of_ble_eq_true rfl) rfl
theorem k180_28 : At 180 28 ls st I J Q ↔ At 180 29 ls (.int (nI 0) :: st) I J Q := A_iconst (ab_io ci180 (by decide +kernel)) ic_0
theorem k180_29 : At 180 29 [a0, a1, a2, a3, a4, a5, a6, a7, a8, a9] (.int x :: st) I J Q ↔ At 180 31 [a0, a1, a2, ab_nv a3, some (.int x), a5, a6, a7, a8, a9] st I J Q := A_istore (q := 4) (ab_io ci180 (by decide +kernel)) (Nat.le_of_ble_eq_true rfl) rfl
theorem k180_31 : At 180 31 [a0, a1, a2, a3, some (.int x), a5, a6, a7, a8, a9] st I J Q ↔ At 180 33 [a0, a1, a2, a3, some (.int x), a5, a6, a7, a8, a9] (.int x :: st) I J Q := A_iload (q := 4) (ab_io ci180 (by decide +kernel)) rfl
theorem k180_33 : At 180 33 ls st I J Q ↔ At 180 35 ls (.int (nI 12) :: st) I J Q := A_bipush (ab_io ci180 (by decide +kernel)) bc_12
theorem k180_35 : At 180 35 ls (.int x1 :: .int x :: st) I J Q ↔ if x1 ≤ x then At 180 63 ls st I J Q else At 180 38 ls st I J Q := A_if_icmp_ge (o := 28) (ab_io ci180 (by decide +kernel)) (by decide)
theorem k180_38 : At 180 38 [a0, a1, a2, some (.int x), a4, a5, a6, a7, a8, a9] st I J Q ↔ At 180 39 [a0, a1, a2, some (.int x), a4, a5, a6, a7, a8, a9] (.int x :: st) I J Q := A_iload_n (q := 3) (ab_io ci180 (by decide +kernel)) rfl
theorem k180_39 : At 180 39 [some (.ref r), a1, a2, a3, a4, a5, a6, a7, a8, a9] st I J Q ↔ At 180 40 [some (.ref r), a1, a2, a3, a4, a5, a6, a7, a8, a9] (.ref r :: st) I J Q := A_aload_n (q := 0) (ab_io ci180 (by decide +kernel)) rfl
theorem k180_40 : At 180 40 [a0, a1, a2, a3, some (.int x), a5, a6, a7, a8, a9] st I J Q ↔ At 180 42 [a0, a1, a2, a3, some (.int x), a5, a6, a7, a8, a9] (.int x :: st) I J Q := A_iload (q := 4) (ab_io ci180 (by decide +kernel)) rfl
theorem k180_42 : At 180 42 [a0, some (.int x), a2, a3, a4, a5, a6, a7, a8, a9] st I J Q ↔ At 180 43 [a0, some (.int x), a2, a3, a4, a5, a6, a7, a8, a9] (.int x :: st) I J Q := A_iload_n (q := 1) (ab_io ci180 (by decide +kernel)) rfl
theorem k180_43 : At 180 43 ls [.int p0, .int p1, .ref 49, .int q0] I J Q ↔ Cal 140 [.ref 49, .int p1, .int p0] I J (fun v I' J' => At 180 46 ls (v.toList ++ [.int q0]) I' J' Q) := A_cal (kd := 0) (j := 136) (na := 3) (ea := 3) (rk := 49) (by decide +kernel) rfl rfl rfl (Or.inr rfl) (Nat.le_of_ble_eq_true rfl)
theorem k180_46 : At 180 46 ls st I J Q ↔ At 180 47 ls (.int (-1) :: st) I J Q := A_iconst (ab_io ci180 (by decide +kernel)) ic_m1
theorem k180_47 : At 180 47 ls (.int x1 :: .int x :: st) I J Q ↔ if ¬ x = x1 then At 180 54 ls st I J Q else At 180 50 ls st I J Q := A_if_icmp_ne (o := 7) (ab_io ci180 (by decide +kernel)) (by decide)
theorem k180_50 : At 180 50 ls st I J Q ↔ At 180 51 ls (.int (nI 0) :: st) I J Q := A_iconst (ab_io ci180 (by decide +kernel)) ic_0
theorem k180_51 : At 180 51 ls st I J Q ↔ At 180 55 ls st I J Q := A_goto (o := 4) (ab_io ci180 (by decide +kernel)) (by decide)
theorem k180_54 : At 180 54 ls st I J Q ↔ At 180 55 ls (.int (nI 1) :: st) I J Q := A_iconst (ab_io ci180 (by decide +kernel)) ic_1
theorem k180_55 : At 180 55 ls (.int x1 :: .int x :: st) I J Q ↔ At 180 56 ls (.int (x + x1) :: st) I J Q := A_iadd (ab_io ci180 (by decide +kernel))
theorem k180_56 : At 180 56 [a0, a1, a2, a3, a4, a5, a6, a7, a8, a9] (.int x :: st) I J Q ↔ At 180 57 [a0, a1, ab_nv a2, some (.int x), a4, a5, a6, a7, a8, a9] st I J Q := A_istore_n (q := 3) (ab_io ci180 (by decide +kernel)) (Nat.le_of_ble_eq_true rfl) rfl
theorem k180_57 : At 180 57 [a0, a1, a2, a3, some (.int x), a5, a6, a7, a8, a9] st I J Q ↔ At 180 60 [a0, a1, a2, ab_nv a3, some (.int (x + (nI 1))), a5, a6, a7, a8, a9] st I J Q := A_iinc (q := 4) (ab_io ci180 (by decide +kernel)) ic_1 (Nat.le_of_ble_eq_true rfl) rfl rfl
theorem k180_60 : At 180 60 ls st I J Q ↔ At 180 31 ls st I J Q := A_goto (o := (-29)) (ab_io ci180 (by decide +kernel)) (by decide)
theorem k180_63 : At 180 63 [a0, a1, a2, some (.int x), a4, a5, a6, a7, a8, a9] st I J Q ↔ At 180 64 [a0, a1, a2, some (.int x), a4, a5, a6, a7, a8, a9] (.int x :: st) I J Q := A_iload_n (q := 3) (ab_io ci180 (by decide +kernel)) rfl
theorem k180_64 : At 180 64 ls st I J Q ↔ At 180 65 ls (.int (nI 2) :: st) I J Q := A_iconst (ab_io ci180 (by decide +kernel)) ic_2
theorem k180_65 : At 180 65 ls (.int x1 :: .int x :: st) I J Q ↔ if x1 ≤ x then At 180 74 ls st I J Q else At 180 68 ls st I J Q := A_if_icmp_ge (o := 9) (ab_io ci180 (by decide +kernel)) (by decide)
theorem k180_68 : At 180 68 ls st I J Q ↔ At 180 70 ls (.int (-3) :: st) I J Q := A_bipush (ab_io ci180 (by decide +kernel)) bc_m3
theorem k180_70 : At 180 70 ls [.int p0] I J Q ↔ Cal 127 [.int p0] I J (fun v I' J' => At 180 73 ls (v.toList ++ []) I' J' Q) := A_cal (kd := 1) (j := 162) (na := 1) (ea := 1) (rk := 0) (by decide +kernel) rfl rfl rfl (Or.inl rfl) (Nat.le_of_ble_eq_true rfl)
theorem k180_73 : At 180 73 ls [.long u] I J Q ↔ Q (some (.long u)) I J := A_lret (ab_io ci180 (by decide +kernel)) rt180
theorem k180_74 : At 180 74 [some (.ref r), a1, a2, a3, a4, a5, a6, a7, a8, a9] st I J Q ↔ At 180 75 [some (.ref r), a1, a2, a3, a4, a5, a6, a7, a8, a9] (.ref r :: st) I J Q := A_aload_n (q := 0) (ab_io ci180 (by decide +kernel)) rfl
theorem k180_75 : At 180 75 [some (.ref r), a1, a2, a3, a4, a5, a6, a7, a8, a9] st I J Q ↔ At 180 76 [some (.ref r), a1, a2, a3, a4, a5, a6, a7, a8, a9] (.ref r :: st) I J Q := A_aload_n (q := 0) (ab_io ci180 (by decide +kernel)) rfl
theorem k180_76 : At 180 76 ls (.ref 49 :: st) I J Q ↔ At 180 79 ls (.ref 57 :: st) I J Q := A_getR (ab_io ci180 (by decide +kernel)) ow180 fq8_35_49
theorem k180_79 : At 180 79 ls st I J Q ↔ At 180 81 ls (.int (nI 12) :: st) I J Q := A_bipush (ab_io ci180 (by decide +kernel)) bc_12
theorem k180_81 : At 180 81 [a0, some (.int x), a2, a3, a4, a5, a6, a7, a8, a9] st I J Q ↔ At 180 82 [a0, some (.int x), a2, a3, a4, a5, a6, a7, a8, a9] (.int x :: st) I J Q := A_iload_n (q := 1) (ab_io ci180 (by decide +kernel)) rfl
theorem k180_82 : At 180 82 ls (.int x1 :: .int x :: st) I J Q ↔ At 180 83 ls (.int (x + x1) :: st) I J Q := A_iadd (ab_io ci180 (by decide +kernel))
theorem k180_83 : At 180 83 ls (.int x :: .ref r :: st) I J Q ↔ ((ab_ly r).1 = 1 ∧ r < 75 ∧ 0 ≤ x.toInt ∧ x.toInt < (ab_ly r).2) ∧ At 180 84 ls (.int (I r x.toNatClampNeg) :: st) I J Q := A_iaload (ab_io ci180 (by decide +kernel))
theorem k180_84 : At 180 84 ls [.int p0, .ref 49] I J Q ↔ Cal 146 [.ref 49, .int p0] I J (fun v I' J' => At 180 87 ls (v.toList ++ []) I' J' Q) := A_cal (kd := 0) (j := 166) (na := 2) (ea := 2) (rk := 49) (by decide +kernel) rfl rfl rfl (Or.inr rfl) (Nat.le_of_ble_eq_true rfl)
theorem k180_87 : At 180 87 [a0, a1, a2, some (.int x), a4, a5, a6, a7, a8, a9] st I J Q ↔ At 180 88 [a0, a1, a2, some (.int x), a4, a5, a6, a7, a8, a9] (.int x :: st) I J Q := A_iload_n (q := 3) (ab_io ci180 (by decide +kernel)) rfl
theorem k180_88 : At 180 88 ls st I J Q ↔ At 180 89 ls (.int (nI 2) :: st) I J Q := A_iconst (ab_io ci180 (by decide +kernel)) ic_2
theorem k180_89 : At 180 89 ls (.int x1 :: .int x :: st) I J Q ↔ ¬ x1 = 0 ∧ At 180 90 ls (.int (x / x1) :: st) I J Q := A_idiv (ab_io ci180 (by decide +kernel))
theorem k180_90 : At 180 90 [a0, a1, a2, a3, a4, a5, a6, a7, a8, a9] (.int x :: st) I J Q ↔ At 180 92 [a0, a1, a2, ab_nv a3, some (.int x), a5, a6, a7, a8, a9] st I J Q := A_istore (q := 4) (ab_io ci180 (by decide +kernel)) (Nat.le_of_ble_eq_true rfl) rfl
theorem k180_92 : At 180 92 ls st I J Q ↔ At 180 93 ls (.long 0 :: st) I J Q := A_lconst (n := 0) (ab_io ci180 (by decide +kernel)) rfl
theorem k180_93 : At 180 93 [a0, a1, a2, a3, a4, a5, a6, a7, a8, a9] (.long u :: st) I J Q ↔ At 180 95 [a0, a1, a2, a3, ab_nv a4, some (.long u), none, a7, a8, a9] st I J Q := A_lstore (q := 5) (ab_io ci180 (by decide +kernel)) (Nat.le_of_ble_eq_true rfl) rfl
theorem k180_95 : At 180 95 ls st I J Q ↔ At 180 96 ls (.int (nI 0) :: st) I J Q := A_iconst (ab_io ci180 (by decide +kernel)) ic_0
theorem k180_96 : At 180 96 [a0, a1, a2, a3, a4, a5, a6, a7, a8, a9] (.int x :: st) I J Q ↔ At 180 98 [a0, a1, a2, a3, a4, a5, ab_nv a6, some (.int x), a8, a9] st I J Q := A_istore (q := 7) (ab_io ci180 (by decide +kernel)) (Nat.le_of_ble_eq_true rfl) rfl
theorem k180_98 : At 180 98 [a0, a1, a2, a3, a4, a5, a6, some (.int x), a8, a9] st I J Q ↔ At 180 100 [a0, a1, a2, a3, a4, a5, a6, some (.int x), a8, a9] (.int x :: st) I J Q := A_iload (q := 7) (ab_io ci180 (by decide +kernel)) rfl
theorem k180_100 : At 180 100 ls st I J Q ↔ At 180 102 ls (.int (nI 12) :: st) I J Q := A_bipush (ab_io ci180 (by decide +kernel)) bc_12
theorem k180_102 : At 180 102 ls (.int x1 :: .int x :: st) I J Q ↔ if x1 ≤ x then At 180 230 ls st I J Q else At 180 105 ls st I J Q := A_if_icmp_ge (o := 128) (ab_io ci180 (by decide +kernel)) (by decide)
theorem k180_105 : At 180 105 [some (.ref r), a1, a2, a3, a4, a5, a6, a7, a8, a9] st I J Q ↔ At 180 106 [some (.ref r), a1, a2, a3, a4, a5, a6, a7, a8, a9] (.ref r :: st) I J Q := A_aload_n (q := 0) (ab_io ci180 (by decide +kernel)) rfl
theorem k180_106 : At 180 106 [a0, a1, a2, a3, a4, a5, a6, some (.int x), a8, a9] st I J Q ↔ At 180 108 [a0, a1, a2, a3, a4, a5, a6, some (.int x), a8, a9] (.int x :: st) I J Q := A_iload (q := 7) (ab_io ci180 (by decide +kernel)) rfl
theorem k180_108 : At 180 108 [a0, some (.int x), a2, a3, a4, a5, a6, a7, a8, a9] st I J Q ↔ At 180 109 [a0, some (.int x), a2, a3, a4, a5, a6, a7, a8, a9] (.int x :: st) I J Q := A_iload_n (q := 1) (ab_io ci180 (by decide +kernel)) rfl
theorem k180_109 : At 180 109 ls [.int p0, .int p1, .ref 49] I J Q ↔ Cal 140 [.ref 49, .int p1, .int p0] I J (fun v I' J' => At 180 112 ls (v.toList ++ []) I' J' Q) := A_cal (kd := 0) (j := 136) (na := 3) (ea := 3) (rk := 49) (by decide +kernel) rfl rfl rfl (Or.inr rfl) (Nat.le_of_ble_eq_true rfl)
theorem k180_112 : At 180 112 ls st I J Q ↔ At 180 113 ls (.int (-1) :: st) I J Q := A_iconst (ab_io ci180 (by decide +kernel)) ic_m1
theorem k180_113 : At 180 113 ls (.int x1 :: .int x :: st) I J Q ↔ if x = x1 then At 180 224 ls st I J Q else At 180 116 ls st I J Q := A_if_icmp_eq (o := 111) (ab_io ci180 (by decide +kernel)) (by decide)
theorem k180_116 : At 180 116 ls st I J Q ↔ At 180 117 ls (.int (nI 0) :: st) I J Q := A_iconst (ab_io ci180 (by decide +kernel)) ic_0
theorem k180_117 : At 180 117 [a0, a1, a2, a3, a4, a5, a6, a7, a8, a9] (.int x :: st) I J Q ↔ At 180 119 [a0, a1, a2, a3, a4, a5, a6, ab_nv a7, some (.int x), a9] st I J Q := A_istore (q := 8) (ab_io ci180 (by decide +kernel)) (Nat.le_of_ble_eq_true rfl) rfl
theorem k180_119 : At 180 119 ls st I J Q ↔ At 180 120 ls (.int (nI 0) :: st) I J Q := A_iconst (ab_io ci180 (by decide +kernel)) ic_0
theorem k180_120 : At 180 120 [a0, a1, a2, a3, a4, a5, a6, a7, a8, a9] (.int x :: st) I J Q ↔ At 180 122 [a0, a1, a2, a3, a4, a5, a6, a7, ab_nv a8, some (.int x)] st I J Q := A_istore (q := 9) (ab_io ci180 (by decide +kernel)) (Nat.le_of_ble_eq_true rfl) rfl
theorem k180_122 : At 180 122 [a0, a1, a2, a3, a4, a5, a6, a7, a8, some (.int x)] st I J Q ↔ At 180 124 [a0, a1, a2, a3, a4, a5, a6, a7, a8, some (.int x)] (.int x :: st) I J Q := A_iload (q := 9) (ab_io ci180 (by decide +kernel)) rfl
theorem k180_124 : At 180 124 ls st I J Q ↔ At 180 126 ls (.int (nI 12) :: st) I J Q := A_bipush (ab_io ci180 (by decide +kernel)) bc_12
theorem k180_126 : At 180 126 ls (.int x1 :: .int x :: st) I J Q ↔ if x1 ≤ x then At 180 181 ls st I J Q else At 180 129 ls st I J Q := A_if_icmp_ge (o := 55) (ab_io ci180 (by decide +kernel)) (by decide)
theorem k180_129 : At 180 129 [a0, a1, a2, a3, a4, a5, a6, a7, some (.int x), a9] st I J Q ↔ At 180 131 [a0, a1, a2, a3, a4, a5, a6, a7, some (.int x), a9] (.int x :: st) I J Q := A_iload (q := 8) (ab_io ci180 (by decide +kernel)) rfl
theorem k180_131 : At 180 131 [some (.ref r), a1, a2, a3, a4, a5, a6, a7, a8, a9] st I J Q ↔ At 180 132 [some (.ref r), a1, a2, a3, a4, a5, a6, a7, a8, a9] (.ref r :: st) I J Q := A_aload_n (q := 0) (ab_io ci180 (by decide +kernel)) rfl
theorem k180_132 : At 180 132 [a0, a1, a2, a3, a4, a5, a6, a7, a8, some (.int x)] st I J Q ↔ At 180 134 [a0, a1, a2, a3, a4, a5, a6, a7, a8, some (.int x)] (.int x :: st) I J Q := A_iload (q := 9) (ab_io ci180 (by decide +kernel)) rfl
theorem k180_134 : At 180 134 [a0, some (.int x), a2, a3, a4, a5, a6, a7, a8, a9] st I J Q ↔ At 180 135 [a0, some (.int x), a2, a3, a4, a5, a6, a7, a8, a9] (.int x :: st) I J Q := A_iload_n (q := 1) (ab_io ci180 (by decide +kernel)) rfl
theorem k180_135 : At 180 135 ls [.int p0, .int p1, .ref 49, .int q0] I J Q ↔ Cal 140 [.ref 49, .int p1, .int p0] I J (fun v I' J' => At 180 138 ls (v.toList ++ [.int q0]) I' J' Q) := A_cal (kd := 0) (j := 136) (na := 3) (ea := 3) (rk := 49) (by decide +kernel) rfl rfl rfl (Or.inr rfl) (Nat.le_of_ble_eq_true rfl)
theorem k180_138 : At 180 138 ls st I J Q ↔ At 180 139 ls (.int (-1) :: st) I J Q := A_iconst (ab_io ci180 (by decide +kernel)) ic_m1
theorem k180_139 : At 180 139 ls (.int x1 :: .int x :: st) I J Q ↔ if x = x1 then At 180 171 ls st I J Q else At 180 142 ls st I J Q := A_if_icmp_eq (o := 32) (ab_io ci180 (by decide +kernel)) (by decide)
theorem k180_142 : At 180 142 [some (.ref r), a1, a2, a3, a4, a5, a6, a7, a8, a9] st I J Q ↔ At 180 143 [some (.ref r), a1, a2, a3, a4, a5, a6, a7, a8, a9] (.ref r :: st) I J Q := A_aload_n (q := 0) (ab_io ci180 (by decide +kernel)) rfl
theorem k180_143 : At 180 143 ls (.ref 49 :: st) I J Q ↔ At 180 146 ls (.ref 56 :: st) I J Q := A_getR (ab_io ci180 (by decide +kernel)) ow180 fq8_32_49
theorem k180_146 : At 180 146 ls st I J Q ↔ At 180 147 ls (.int (nI 4) :: st) I J Q := A_iconst (ab_io ci180 (by decide +kernel)) ic_4
theorem k180_147 : At 180 147 [a0, a1, a2, a3, a4, a5, a6, a7, a8, some (.int x)] st I J Q ↔ At 180 149 [a0, a1, a2, a3, a4, a5, a6, a7, a8, some (.int x)] (.int x :: st) I J Q := A_iload (q := 9) (ab_io ci180 (by decide +kernel)) rfl
theorem k180_149 : At 180 149 ls (.int x1 :: .int x :: st) I J Q ↔ At 180 150 ls (.int (x * x1) :: st) I J Q := A_imul (ab_io ci180 (by decide +kernel))
theorem k180_150 : At 180 150 [a0, some (.int x), a2, a3, a4, a5, a6, a7, a8, a9] st I J Q ↔ At 180 151 [a0, some (.int x), a2, a3, a4, a5, a6, a7, a8, a9] (.int x :: st) I J Q := A_iload_n (q := 1) (ab_io ci180 (by decide +kernel)) rfl
theorem k180_151 : At 180 151 ls (.int x1 :: .int x :: st) I J Q ↔ At 180 152 ls (.int (x + x1) :: st) I J Q := A_iadd (ab_io ci180 (by decide +kernel))
theorem k180_152 : At 180 152 ls (.int x :: .ref r :: st) I J Q ↔ ((ab_ly r).1 = 1 ∧ r < 75 ∧ 0 ≤ x.toInt ∧ x.toInt < (ab_ly r).2) ∧ At 180 153 ls (.int (I r x.toNatClampNeg) :: st) I J Q := A_iaload (ab_io ci180 (by decide +kernel))
theorem k180_153 : At 180 153 [some (.ref r), a1, a2, a3, a4, a5, a6, a7, a8, a9] st I J Q ↔ At 180 154 [some (.ref r), a1, a2, a3, a4, a5, a6, a7, a8, a9] (.ref r :: st) I J Q := A_aload_n (q := 0) (ab_io ci180 (by decide +kernel)) rfl
theorem k180_154 : At 180 154 ls (.ref 49 :: st) I J Q ↔ At 180 157 ls (.ref 56 :: st) I J Q := A_getR (ab_io ci180 (by decide +kernel)) ow180 fq8_32_49
theorem k180_157 : At 180 157 ls st I J Q ↔ At 180 158 ls (.int (nI 4) :: st) I J Q := A_iconst (ab_io ci180 (by decide +kernel)) ic_4
theorem k180_158 : At 180 158 [a0, a1, a2, a3, a4, a5, a6, some (.int x), a8, a9] st I J Q ↔ At 180 160 [a0, a1, a2, a3, a4, a5, a6, some (.int x), a8, a9] (.int x :: st) I J Q := A_iload (q := 7) (ab_io ci180 (by decide +kernel)) rfl
theorem k180_160 : At 180 160 ls (.int x1 :: .int x :: st) I J Q ↔ At 180 161 ls (.int (x * x1) :: st) I J Q := A_imul (ab_io ci180 (by decide +kernel))
theorem k180_161 : At 180 161 [a0, some (.int x), a2, a3, a4, a5, a6, a7, a8, a9] st I J Q ↔ At 180 162 [a0, some (.int x), a2, a3, a4, a5, a6, a7, a8, a9] (.int x :: st) I J Q := A_iload_n (q := 1) (ab_io ci180 (by decide +kernel)) rfl
theorem k180_162 : At 180 162 ls (.int x1 :: .int x :: st) I J Q ↔ At 180 163 ls (.int (x + x1) :: st) I J Q := A_iadd (ab_io ci180 (by decide +kernel))
theorem k180_163 : At 180 163 ls (.int x :: .ref r :: st) I J Q ↔ ((ab_ly r).1 = 1 ∧ r < 75 ∧ 0 ≤ x.toInt ∧ x.toInt < (ab_ly r).2) ∧ At 180 164 ls (.int (I r x.toNatClampNeg) :: st) I J Q := A_iaload (ab_io ci180 (by decide +kernel))
theorem k180_164 : At 180 164 ls (.int x1 :: .int x :: st) I J Q ↔ if x1 ≤ x then At 180 171 ls st I J Q else At 180 167 ls st I J Q := A_if_icmp_ge (o := 7) (ab_io ci180 (by decide +kernel)) (by decide)
theorem k180_167 : At 180 167 ls st I J Q ↔ At 180 168 ls (.int (nI 1) :: st) I J Q := A_iconst (ab_io ci180 (by decide +kernel)) ic_1
theorem k180_168 : At 180 168 ls st I J Q ↔ At 180 172 ls st I J Q := A_goto (o := 4) (ab_io ci180 (by decide +kernel)) (by decide)
theorem k180_171 : At 180 171 ls st I J Q ↔ At 180 172 ls (.int (nI 0) :: st) I J Q := A_iconst (ab_io ci180 (by decide +kernel)) ic_0
theorem k180_172 : At 180 172 ls (.int x1 :: .int x :: st) I J Q ↔ At 180 173 ls (.int (x + x1) :: st) I J Q := A_iadd (ab_io ci180 (by decide +kernel))
theorem k180_173 : At 180 173 [a0, a1, a2, a3, a4, a5, a6, a7, a8, a9] (.int x :: st) I J Q ↔ At 180 175 [a0, a1, a2, a3, a4, a5, a6, ab_nv a7, some (.int x), a9] st I J Q := A_istore (q := 8) (ab_io ci180 (by decide +kernel)) (Nat.le_of_ble_eq_true rfl) rfl
theorem k180_175 : At 180 175 [a0, a1, a2, a3, a4, a5, a6, a7, a8, some (.int x)] st I J Q ↔ At 180 178 [a0, a1, a2, a3, a4, a5, a6, a7, ab_nv a8, some (.int (x + (nI 1)))] st I J Q := A_iinc (q := 9) (ab_io ci180 (by decide +kernel)) ic_1 (Nat.le_of_ble_eq_true rfl) rfl rfl
theorem k180_178 : At 180 178 ls st I J Q ↔ At 180 122 ls st I J Q := A_goto (o := (-56)) (ab_io ci180 (by decide +kernel)) (by decide)
theorem k180_181 : At 180 181 [a0, a1, a2, a3, a4, some (.long u), a6, a7, a8, a9] st I J Q ↔ At 180 183 [a0, a1, a2, a3, a4, some (.long u), a6, a7, a8, a9] (.long u :: st) I J Q := A_lload (q := 5) (ab_io ci180 (by decide +kernel)) rfl
theorem k180_183 : At 180 183 [a0, a1, a2, a3, a4, a5, a6, a7, some (.int x), a9] st I J Q ↔ At 180 185 [a0, a1, a2, a3, a4, a5, a6, a7, some (.int x), a9] (.int x :: st) I J Q := A_iload (q := 8) (ab_io ci180 (by decide +kernel)) rfl
theorem k180_185 : At 180 185 [a0, a1, a2, some (.int x), a4, a5, a6, a7, a8, a9] st I J Q ↔ At 180 186 [a0, a1, a2, some (.int x), a4, a5, a6, a7, a8, a9] (.int x :: st) I J Q := A_iload_n (q := 3) (ab_io ci180 (by decide +kernel)) rfl
theorem k180_186 : At 180 186 [a0, a1, a2, a3, some (.int x), a5, a6, a7, a8, a9] st I J Q ↔ At 180 188 [a0, a1, a2, a3, some (.int x), a5, a6, a7, a8, a9] (.int x :: st) I J Q := A_iload (q := 4) (ab_io ci180 (by decide +kernel)) rfl
theorem k180_188 : At 180 188 ls (.int x1 :: .int x :: st) I J Q ↔ At 180 189 ls (.int (x - x1) :: st) I J Q := A_isub (ab_io ci180 (by decide +kernel))
theorem k180_189 : At 180 189 ls (.int x1 :: .int x :: st) I J Q ↔ if x < x1 then At 180 202 ls st I J Q else At 180 192 ls st I J Q := A_if_icmp_lt (o := 13) (ab_io ci180 (by decide +kernel)) (by decide)
theorem k180_192 : At 180 192 [some (.ref r), a1, a2, a3, a4, a5, a6, a7, a8, a9] st I J Q ↔ At 180 193 [some (.ref r), a1, a2, a3, a4, a5, a6, a7, a8, a9] (.ref r :: st) I J Q := A_aload_n (q := 0) (ab_io ci180 (by decide +kernel)) rfl
theorem k180_193 : At 180 193 [a0, a1, a2, a3, a4, a5, a6, some (.int x), a8, a9] st I J Q ↔ At 180 195 [a0, a1, a2, a3, a4, a5, a6, some (.int x), a8, a9] (.int x :: st) I J Q := A_iload (q := 7) (ab_io ci180 (by decide +kernel)) rfl
theorem k180_195 : At 180 195 [a0, some (.int x), a2, a3, a4, a5, a6, a7, a8, a9] st I J Q ↔ At 180 196 [a0, some (.int x), a2, a3, a4, a5, a6, a7, a8, a9] (.int x :: st) I J Q := A_iload_n (q := 1) (ab_io ci180 (by decide +kernel)) rfl
theorem k180_196 : At 180 196 ls [.int p0, .int p1, .ref 49, .long qu0] I J Q ↔ Cal 148 [.ref 49, .int p1, .int p0] I J (fun v I' J' => At 180 199 ls (v.toList ++ [.long qu0]) I' J' Q) := A_cal (kd := 0) (j := 180) (na := 3) (ea := 3) (rk := 49) (by decide +kernel) rfl rfl rfl (Or.inr rfl) (Nat.le_of_ble_eq_true rfl)
theorem k180_199 : At 180 199 ls st I J Q ↔ At 180 221 ls st I J Q := A_goto (o := 22) (ab_io ci180 (by decide +kernel)) (by decide)
theorem k180_202 : At 180 202 [a0, a1, a2, a3, a4, a5, a6, a7, some (.int x), a9] st I J Q ↔ At 180 204 [a0, a1, a2, a3, a4, a5, a6, a7, some (.int x), a9] (.int x :: st) I J Q := A_iload (q := 8) (ab_io ci180 (by decide +kernel)) rfl
theorem k180_204 : At 180 204 [a0, a1, a2, a3, some (.int x), a5, a6, a7, a8, a9] st I J Q ↔ At 180 206 [a0, a1, a2, a3, some (.int x), a5, a6, a7, a8, a9] (.int x :: st) I J Q := A_iload (q := 4) (ab_io ci180 (by decide +kernel)) rfl
theorem k180_206 : At 180 206 ls (.int x1 :: .int x :: st) I J Q ↔ if x1 ≤ x then At 180 220 ls st I J Q else At 180 209 ls st I J Q := A_if_icmp_ge (o := 14) (ab_io ci180 (by decide +kernel)) (by decide)
theorem k180_209 : At 180 209 [some (.ref r), a1, a2, a3, a4, a5, a6, a7, a8, a9] st I J Q ↔ At 180 210 [some (.ref r), a1, a2, a3, a4, a5, a6, a7, a8, a9] (.ref r :: st) I J Q := A_aload_n (q := 0) (ab_io ci180 (by decide +kernel)) rfl
theorem k180_210 : At 180 210 [a0, a1, a2, a3, a4, a5, a6, some (.int x), a8, a9] st I J Q ↔ At 180 212 [a0, a1, a2, a3, a4, a5, a6, some (.int x), a8, a9] (.int x :: st) I J Q := A_iload (q := 7) (ab_io ci180 (by decide +kernel)) rfl
theorem k180_212 : At 180 212 [a0, some (.int x), a2, a3, a4, a5, a6, a7, a8, a9] st I J Q ↔ At 180 213 [a0, some (.int x), a2, a3, a4, a5, a6, a7, a8, a9] (.int x :: st) I J Q := A_iload_n (q := 1) (ab_io ci180 (by decide +kernel)) rfl
theorem k180_213 : At 180 213 ls [.int p0, .int p1, .ref 49, .long qu0] I J Q ↔ Cal 148 [.ref 49, .int p1, .int p0] I J (fun v I' J' => At 180 216 ls (v.toList ++ [.long qu0]) I' J' Q) := A_cal (kd := 0) (j := 180) (na := 3) (ea := 3) (rk := 49) (by decide +kernel) rfl rfl rfl (Or.inr rfl) (Nat.le_of_ble_eq_true rfl)
theorem k180_216 : At 180 216 ls (.long u :: st) I J Q ↔ At 180 217 ls (.long (-u) :: st) I J Q := A_lneg (ab_io ci180 (by decide +kernel))
theorem k180_217 : At 180 217 ls st I J Q ↔ At 180 221 ls st I J Q := A_goto (o := 4) (ab_io ci180 (by decide +kernel)) (by decide)
theorem k180_220 : At 180 220 ls st I J Q ↔ At 180 221 ls (.long 0 :: st) I J Q := A_lconst (n := 0) (ab_io ci180 (by decide +kernel)) rfl
theorem k180_221 : At 180 221 ls (.long u1 :: .long u :: st) I J Q ↔ At 180 222 ls (.long (u + u1) :: st) I J Q := A_ladd (ab_io ci180 (by decide +kernel))
theorem k180_222 : At 180 222 [a0, a1, a2, a3, a4, a5, a6, a7, a8, a9] (.long u :: st) I J Q ↔ At 180 224 [a0, a1, a2, a3, ab_nv a4, some (.long u), none, a7, a8, a9] st I J Q := A_lstore (q := 5) (ab_io ci180 (by decide +kernel)) (Nat.le_of_ble_eq_true rfl) rfl
theorem k180_224 : At 180 224 [a0, a1, a2, a3, a4, a5, a6, some (.int x), a8, a9] st I J Q ↔ At 180 227 [a0, a1, a2, a3, a4, a5, ab_nv a6, some (.int (x + (nI 1))), a8, a9] st I J Q := A_iinc (q := 7) (ab_io ci180 (by decide +kernel)) ic_1 (Nat.le_of_ble_eq_true rfl) rfl rfl
theorem k180_227 : At 180 227 ls st I J Q ↔ At 180 98 ls st I J Q := A_goto (o := (-129)) (ab_io ci180 (by decide +kernel)) (by decide)
theorem k180_230 : At 180 230 [a0, a1, a2, a3, a4, some (.long u), a6, a7, a8, a9] st I J Q ↔ At 180 232 [a0, a1, a2, a3, a4, some (.long u), a6, a7, a8, a9] (.long u :: st) I J Q := A_lload (q := 5) (ab_io ci180 (by decide +kernel)) rfl
theorem k180_232 : At 180 232 [some (.ref r), a1, a2, a3, a4, a5, a6, a7, a8, a9] st I J Q ↔ At 180 233 [some (.ref r), a1, a2, a3, a4, a5, a6, a7, a8, a9] (.ref r :: st) I J Q := A_aload_n (q := 0) (ab_io ci180 (by decide +kernel)) rfl
theorem k180_233 : At 180 233 ls (.ref 49 :: st) I J Q ↔ At 180 236 ls (.long (J 49 17) :: st) I J Q := A_getJ (ab_io ci180 (by decide +kernel)) ow180 fq8_159_49
theorem k180_236 : At 180 236 [a0, a1, a2, a3, some (.int x), a5, a6, a7, a8, a9] st I J Q ↔ At 180 238 [a0, a1, a2, a3, some (.int x), a5, a6, a7, a8, a9] (.int x :: st) I J Q := A_iload (q := 4) (ab_io ci180 (by decide +kernel)) rfl
theorem k180_238 : At 180 238 ls (.int x :: st) I J Q ↔ At 180 239 ls (.long x.toInt64 :: st) I J Q := A_i2l (ab_io ci180 (by decide +kernel))
theorem k180_239 : At 180 239 ls (.long u1 :: .long u :: st) I J Q ↔ At 180 240 ls (.long (u * u1) :: st) I J Q := A_lmul (ab_io ci180 (by decide +kernel))
theorem k180_240 : At 180 240 [a0, a1, some (.int x), a3, a4, a5, a6, a7, a8, a9] st I J Q ↔ At 180 241 [a0, a1, some (.int x), a3, a4, a5, a6, a7, a8, a9] (.int x :: st) I J Q := A_iload_n (q := 2) (ab_io ci180 (by decide +kernel)) rfl
theorem k180_241 : At 180 241 ls [.int p0, .long pu1, .long pu2] I J Q ↔ Cal 130 [.long pu2, .long pu1, .int p0] I J (fun v I' J' => At 180 244 ls (v.toList ++ []) I' J' Q) := A_cal (kd := 1) (j := 169) (na := 3) (ea := 5) (rk := 0) (by decide +kernel) rfl rfl rfl (Or.inl rfl) (Nat.le_of_ble_eq_true rfl)
theorem k180_244 : At 180 244 ls [.long u] I J Q ↔ Q (some (.long u)) I J := A_lret (ab_io ci180 (by decide +kernel)) rt180
theorem k181_0 : At 181 0 [some (.int x)] st I J Q ↔ At 181 1 [some (.int x)] (.int x :: st) I J Q := A_iload_n (q := 0) (ab_io ci181 (by decide +kernel)) rfl
theorem k181_1 : At 181 1 ls (.int x :: st) I J Q ↔ if x ≤ 0 then At 181 8 ls st I J Q else At 181 4 ls st I J Q := A_ifCond_le (o := 7) (ab_io ci181 (by decide +kernel)) (by decide)
theorem k181_4 : At 181 4 ls st I J Q ↔ At 181 5 ls (.int (nI 1) :: st) I J Q := A_iconst (ab_io ci181 (by decide +kernel)) ic_1
theorem k181_5 : At 181 5 ls st I J Q ↔ At 181 17 ls st I J Q := A_goto (o := 12) (ab_io ci181 (by decide +kernel)) (by decide)
theorem k181_8 : At 181 8 [some (.int x)] st I J Q ↔ At 181 9 [some (.int x)] (.int x :: st) I J Q := A_iload_n (q := 0) (ab_io ci181 (by decide +kernel)) rfl
theorem k181_9 : At 181 9 ls (.int x :: st) I J Q ↔ if 0 ≤ x then At 181 16 ls st I J Q else At 181 12 ls st I J Q := A_ifCond_ge (o := 7) (ab_io ci181 (by decide +kernel)) (by decide)
theorem k181_12 : At 181 12 ls st I J Q ↔ At 181 13 ls (.int (-1) :: st) I J Q := A_iconst (ab_io ci181 (by decide +kernel)) ic_m1
theorem k181_13 : At 181 13 ls st I J Q ↔ At 181 17 ls st I J Q := A_goto (o := 4) (ab_io ci181 (by decide +kernel)) (by decide)
theorem k181_16 : At 181 16 ls st I J Q ↔ At 181 17 ls (.int (nI 0) :: st) I J Q := A_iconst (ab_io ci181 (by decide +kernel)) ic_0
theorem k181_17 : At 181 17 ls [.int x] I J Q ↔ Q (some (.int x)) I J := A_iret (ab_io ci181 (by decide +kernel)) rt181
theorem k182_0 : At 182 0 ls st I J Q ↔ At 182 1 ls (.int (nI 0) :: st) I J Q := A_iconst (ab_io ci182 (by decide +kernel)) ic_0
theorem k182_1 : At 182 1 [a0, a1, a2, a3] (.int x :: st) I J Q ↔ At 182 2 [ab_nv a0, some (.int x), a2, a3] st I J Q := A_istore_n (q := 1) (ab_io ci182 (by decide +kernel)) (Nat.le_of_ble_eq_true rfl) rfl
theorem k182_2 : At 182 2 ls st I J Q ↔ At 182 3 ls (.int (nI 0) :: st) I J Q := A_iconst (ab_io ci182 (by decide +kernel)) ic_0
theorem k182_3 : At 182 3 [a0, a1, a2, a3] (.int x :: st) I J Q ↔ At 182 4 [a0, ab_nv a1, some (.int x), a3] st I J Q := A_istore_n (q := 2) (ab_io ci182 (by decide +kernel)) (Nat.le_of_ble_eq_true rfl) rfl
theorem k182_4 : At 182 4 [a0, a1, some (.int x), a3] st I J Q ↔ At 182 5 [a0, a1, some (.int x), a3] (.int x :: st) I J Q := A_iload_n (q := 2) (ab_io ci182 (by decide +kernel)) rfl
theorem k182_5 : At 182 5 [some (.ref r), a1, a2, a3] st I J Q ↔ At 182 6 [some (.ref r), a1, a2, a3] (.ref r :: st) I J Q := A_aload_n (q := 0) (ab_io ci182 (by decide +kernel)) rfl
theorem k182_6 : At 182 6 ls (.ref 49 :: st) I J Q ↔ At 182 9 ls (.int (I 49 31) :: st) I J Q := A_getI (ab_io ci182 (by decide +kernel)) ow182 fq8_254_49
theorem k182_9 : At 182 9 ls (.int x1 :: .int x :: st) I J Q ↔ if x1 ≤ x then At 182 82 ls st I J Q else At 182 12 ls st I J Q := A_if_icmp_ge (o := 73) (ab_io ci182 (by decide +kernel)) (by decide)
theorem k182_12 : At 182 12 [a0, a1, some (.int x), a3] st I J Q ↔ At 182 13 [a0, a1, some (.int x), a3] (.int x :: st) I J Q := A_iload_n (q := 2) (ab_io ci182 (by decide +kernel)) rfl
theorem k182_13 : At 182 13 ls st I J Q ↔ At 182 14 ls (.int (nI 1) :: st) I J Q := A_iconst (ab_io ci182 (by decide +kernel)) ic_1
theorem k182_14 : At 182 14 ls (.int x1 :: .int x :: st) I J Q ↔ At 182 15 ls (.int (x + x1) :: st) I J Q := A_iadd (ab_io ci182 (by decide +kernel))
theorem k182_15 : At 182 15 [a0, a1, a2, a3] (.int x :: st) I J Q ↔ At 182 16 [a0, a1, ab_nv a2, some (.int x)] st I J Q := A_istore_n (q := 3) (ab_io ci182 (by decide +kernel)) (Nat.le_of_ble_eq_true rfl) rfl
theorem k182_16 : At 182 16 [a0, a1, a2, some (.int x)] st I J Q ↔ At 182 17 [a0, a1, a2, some (.int x)] (.int x :: st) I J Q := A_iload_n (q := 3) (ab_io ci182 (by decide +kernel)) rfl
theorem k182_17 : At 182 17 [some (.ref r), a1, a2, a3] st I J Q ↔ At 182 18 [some (.ref r), a1, a2, a3] (.ref r :: st) I J Q := A_aload_n (q := 0) (ab_io ci182 (by decide +kernel)) rfl
theorem k182_18 : At 182 18 ls (.ref 49 :: st) I J Q ↔ At 182 21 ls (.int (I 49 31) :: st) I J Q := A_getI (ab_io ci182 (by decide +kernel)) ow182 fq8_254_49
theorem k182_21 : At 182 21 ls (.int x1 :: .int x :: st) I J Q ↔ if x1 ≤ x then At 182 76 ls st I J Q else At 182 24 ls st I J Q := A_if_icmp_ge (o := 55) (ab_io ci182 (by decide +kernel)) (by decide)
theorem k182_24 : At 182 24 [a0, some (.int x), a2, a3] st I J Q ↔ At 182 25 [a0, some (.int x), a2, a3] (.int x :: st) I J Q := A_iload_n (q := 1) (ab_io ci182 (by decide +kernel)) rfl
theorem k182_25 : At 182 25 [some (.ref r), a1, a2, a3] st I J Q ↔ At 182 26 [some (.ref r), a1, a2, a3] (.ref r :: st) I J Q := A_aload_n (q := 0) (ab_io ci182 (by decide +kernel)) rfl
theorem k182_26 : At 182 26 ls (.ref 49 :: st) I J Q ↔ At 182 29 ls (.ref 67 :: st) I J Q := A_getR (ab_io ci182 (by decide +kernel)) ow182 fq8_66_49
theorem k182_29 : At 182 29 [a0, a1, some (.int x), a3] st I J Q ↔ At 182 30 [a0, a1, some (.int x), a3] (.int x :: st) I J Q := A_iload_n (q := 2) (ab_io ci182 (by decide +kernel)) rfl
theorem k182_30 : At 182 30 ls (.int x :: .ref r :: st) I J Q ↔ ((ab_ly r).1 = 1 ∧ r < 75 ∧ 0 ≤ x.toInt ∧ x.toInt < (ab_ly r).2) ∧ At 182 31 ls (.int (I r x.toNatClampNeg) :: st) I J Q := A_iaload (ab_io ci182 (by decide +kernel))
theorem k182_31 : At 182 31 [some (.ref r), a1, a2, a3] st I J Q ↔ At 182 32 [some (.ref r), a1, a2, a3] (.ref r :: st) I J Q := A_aload_n (q := 0) (ab_io ci182 (by decide +kernel)) rfl
theorem k182_32 : At 182 32 ls (.ref 49 :: st) I J Q ↔ At 182 35 ls (.ref 67 :: st) I J Q := A_getR (ab_io ci182 (by decide +kernel)) ow182 fq8_66_49
theorem k182_35 : At 182 35 [a0, a1, a2, some (.int x)] st I J Q ↔ At 182 36 [a0, a1, a2, some (.int x)] (.int x :: st) I J Q := A_iload_n (q := 3) (ab_io ci182 (by decide +kernel)) rfl
theorem k182_36 : At 182 36 ls (.int x :: .ref r :: st) I J Q ↔ ((ab_ly r).1 = 1 ∧ r < 75 ∧ 0 ≤ x.toInt ∧ x.toInt < (ab_ly r).2) ∧ At 182 37 ls (.int (I r x.toNatClampNeg) :: st) I J Q := A_iaload (ab_io ci182 (by decide +kernel))
theorem k182_37 : At 182 37 ls (.int x1 :: .int x :: st) I J Q ↔ At 182 38 ls (.int (x - x1) :: st) I J Q := A_isub (ab_io ci182 (by decide +kernel))
theorem k182_38 : At 182 38 ls [.int p0, .int q0] I J Q ↔ Cal 181 [.int p0] I J (fun v I' J' => At 182 41 ls (v.toList ++ [.int q0]) I' J' Q) := A_cal (kd := 1) (j := 257) (na := 1) (ea := 1) (rk := 0) (by decide +kernel) rfl rfl rfl (Or.inl rfl) (Nat.le_of_ble_eq_true rfl)
theorem k182_41 : At 182 41 [some (.ref r), a1, a2, a3] st I J Q ↔ At 182 42 [some (.ref r), a1, a2, a3] (.ref r :: st) I J Q := A_aload_n (q := 0) (ab_io ci182 (by decide +kernel)) rfl
theorem k182_42 : At 182 42 ls (.ref 49 :: st) I J Q ↔ At 182 45 ls (.ref 68 :: st) I J Q := A_getR (ab_io ci182 (by decide +kernel)) ow182 fq8_69_49
theorem k182_45 : At 182 45 [some (.ref r), a1, a2, a3] st I J Q ↔ At 182 46 [some (.ref r), a1, a2, a3] (.ref r :: st) I J Q := A_aload_n (q := 0) (ab_io ci182 (by decide +kernel)) rfl
theorem k182_46 : At 182 46 ls (.ref 49 :: st) I J Q ↔ At 182 49 ls (.ref 69 :: st) I J Q := A_getR (ab_io ci182 (by decide +kernel)) ow182 fq8_72_49
theorem k182_49 : At 182 49 [a0, a1, some (.int x), a3] st I J Q ↔ At 182 50 [a0, a1, some (.int x), a3] (.int x :: st) I J Q := A_iload_n (q := 2) (ab_io ci182 (by decide +kernel)) rfl
theorem k182_50 : At 182 50 ls (.int x :: .ref r :: st) I J Q ↔ ((ab_ly r).1 = 1 ∧ r < 75 ∧ 0 ≤ x.toInt ∧ x.toInt < (ab_ly r).2) ∧ At 182 51 ls (.int (I r x.toNatClampNeg) :: st) I J Q := A_iaload (ab_io ci182 (by decide +kernel))
theorem k182_51 : At 182 51 ls (.int x :: .ref r :: st) I J Q ↔ ((ab_ly r).1 = 1 ∧ r < 75 ∧ 0 ≤ x.toInt ∧ x.toInt < (ab_ly r).2) ∧ At 182 52 ls (.int (I r x.toNatClampNeg) :: st) I J Q := A_iaload (ab_io ci182 (by decide +kernel))
theorem k182_52 : At 182 52 [some (.ref r), a1, a2, a3] st I J Q ↔ At 182 53 [some (.ref r), a1, a2, a3] (.ref r :: st) I J Q := A_aload_n (q := 0) (ab_io ci182 (by decide +kernel)) rfl
theorem k182_53 : At 182 53 ls (.ref 49 :: st) I J Q ↔ At 182 56 ls (.ref 68 :: st) I J Q := A_getR (ab_io ci182 (by decide +kernel)) ow182 fq8_69_49
theorem k182_56 : At 182 56 [some (.ref r), a1, a2, a3] st I J Q ↔ At 182 57 [some (.ref r), a1, a2, a3] (.ref r :: st) I J Q := A_aload_n (q := 0) (ab_io ci182 (by decide +kernel)) rfl
theorem k182_57 : At 182 57 ls (.ref 49 :: st) I J Q ↔ At 182 60 ls (.ref 69 :: st) I J Q := A_getR (ab_io ci182 (by decide +kernel)) ow182 fq8_72_49
theorem k182_60 : At 182 60 [a0, a1, a2, some (.int x)] st I J Q ↔ At 182 61 [a0, a1, a2, some (.int x)] (.int x :: st) I J Q := A_iload_n (q := 3) (ab_io ci182 (by decide +kernel)) rfl
theorem k182_61 : At 182 61 ls (.int x :: .ref r :: st) I J Q ↔ ((ab_ly r).1 = 1 ∧ r < 75 ∧ 0 ≤ x.toInt ∧ x.toInt < (ab_ly r).2) ∧ At 182 62 ls (.int (I r x.toNatClampNeg) :: st) I J Q := A_iaload (ab_io ci182 (by decide +kernel))
theorem k182_62 : At 182 62 ls (.int x :: .ref r :: st) I J Q ↔ ((ab_ly r).1 = 1 ∧ r < 75 ∧ 0 ≤ x.toInt ∧ x.toInt < (ab_ly r).2) ∧ At 182 63 ls (.int (I r x.toNatClampNeg) :: st) I J Q := A_iaload (ab_io ci182 (by decide +kernel))
theorem k182_63 : At 182 63 ls (.int x1 :: .int x :: st) I J Q ↔ At 182 64 ls (.int (x - x1) :: st) I J Q := A_isub (ab_io ci182 (by decide +kernel))
theorem k182_64 : At 182 64 ls [.int p0, .int q0, .int q1] I J Q ↔ Cal 181 [.int p0] I J (fun v I' J' => At 182 67 ls (v.toList ++ [.int q0, .int q1]) I' J' Q) := A_cal (kd := 1) (j := 257) (na := 1) (ea := 1) (rk := 0) (by decide +kernel) rfl rfl rfl (Or.inl rfl) (Nat.le_of_ble_eq_true rfl)
theorem k182_67 : At 182 67 ls (.int x1 :: .int x :: st) I J Q ↔ At 182 68 ls (.int (x * x1) :: st) I J Q := A_imul (ab_io ci182 (by decide +kernel))
theorem k182_68 : At 182 68 ls (.int x1 :: .int x :: st) I J Q ↔ At 182 69 ls (.int (x + x1) :: st) I J Q := A_iadd (ab_io ci182 (by decide +kernel))
theorem k182_69 : At 182 69 [a0, a1, a2, a3] (.int x :: st) I J Q ↔ At 182 70 [ab_nv a0, some (.int x), a2, a3] st I J Q := A_istore_n (q := 1) (ab_io ci182 (by decide +kernel)) (Nat.le_of_ble_eq_true rfl) rfl
theorem k182_70 : At 182 70 [a0, a1, a2, some (.int x)] st I J Q ↔ At 182 73 [a0, a1, ab_nv a2, some (.int (x + (nI 1)))] st I J Q := A_iinc (q := 3) (ab_io ci182 (by decide +kernel)) ic_1 (Nat.le_of_ble_eq_true rfl) rfl rfl
theorem k182_73 : At 182 73 ls st I J Q ↔ At 182 16 ls st I J Q := A_goto (o := (-57)) (ab_io ci182 (by decide +kernel)) (by decide)
theorem k182_76 : At 182 76 [a0, a1, some (.int x), a3] st I J Q ↔ At 182 79 [a0, ab_nv a1, some (.int (x + (nI 1))), a3] st I J Q := A_iinc (q := 2) (ab_io ci182 (by decide +kernel)) ic_1 (Nat.le_of_ble_eq_true rfl) rfl rfl
theorem k182_79 : At 182 79 ls st I J Q ↔ At 182 4 ls st I J Q := A_goto (o := (-75)) (ab_io ci182 (by decide +kernel)) (by decide)
theorem k182_82 : At 182 82 [a0, some (.int x), a2, a3] st I J Q ↔ At 182 83 [a0, some (.int x), a2, a3] (.int x :: st) I J Q := A_iload_n (q := 1) (ab_io ci182 (by decide +kernel)) rfl
theorem k182_83 : At 182 83 ls [.int x] I J Q ↔ Q (some (.int x)) I J := A_iret (ab_io ci182 (by decide +kernel)) rt182
theorem k183_0 : At 183 0 [some (.ref r), a1, a2, a3, a4, a5] st I J Q ↔ At 183 1 [some (.ref r), a1, a2, a3, a4, a5] (.ref r :: st) I J Q := A_aload_n (q := 0) (ab_io ci183 (by decide +kernel)) rfl
theorem k183_1 : At 183 1 ls (.ref 49 :: st) I J Q ↔ At 183 4 ls (.int (I 49 31) :: st) I J Q := A_getI (ab_io ci183 (by decide +kernel)) ow183 fq8_254_49
theorem k183_4 : At 183 4 ls st I J Q ↔ At 183 5 ls (.int (nI 2) :: st) I J Q := A_iconst (ab_io ci183 (by decide +kernel)) ic_2
theorem k183_5 : At 183 5 ls (.int x1 :: .int x :: st) I J Q ↔ At 183 6 ls (.int (x - x1) :: st) I J Q := A_isub (ab_io ci183 (by decide +kernel))
theorem k183_6 : At 183 6 [a0, a1, a2, a3, a4, a5] (.int x :: st) I J Q ↔ At 183 7 [ab_nv a0, some (.int x), a2, a3, a4, a5] st I J Q := A_istore_n (q := 1) (ab_io ci183 (by decide +kernel)) (Nat.le_of_ble_eq_true rfl) rfl
theorem k183_7 : At 183 7 [a0, some (.int x), a2, a3, a4, a5] st I J Q ↔ At 183 8 [a0, some (.int x), a2, a3, a4, a5] (.int x :: st) I J Q := A_iload_n (q := 1) (ab_io ci183 (by decide +kernel)) rfl
theorem k183_8 : At 183 8 ls (.int x :: st) I J Q ↔ if x < 0 then At 183 34 ls st I J Q else At 183 11 ls st I J Q := A_ifCond_lt (o := 26) (ab_io ci183 (by decide +kernel)) (by decide)
theorem k183_11 : At 183 11 [some (.ref r), a1, a2, a3, a4, a5] st I J Q ↔ At 183 12 [some (.ref r), a1, a2, a3, a4, a5] (.ref r :: st) I J Q := A_aload_n (q := 0) (ab_io ci183 (by decide +kernel)) rfl
theorem k183_12 : At 183 12 ls (.ref 49 :: st) I J Q ↔ At 183 15 ls (.ref 69 :: st) I J Q := A_getR (ab_io ci183 (by decide +kernel)) ow183 fq8_72_49
theorem k183_15 : At 183 15 [a0, some (.int x), a2, a3, a4, a5] st I J Q ↔ At 183 16 [a0, some (.int x), a2, a3, a4, a5] (.int x :: st) I J Q := A_iload_n (q := 1) (ab_io ci183 (by decide +kernel)) rfl
theorem k183_16 : At 183 16 ls (.int x :: .ref r :: st) I J Q ↔ ((ab_ly r).1 = 1 ∧ r < 75 ∧ 0 ≤ x.toInt ∧ x.toInt < (ab_ly r).2) ∧ At 183 17 ls (.int (I r x.toNatClampNeg) :: st) I J Q := A_iaload (ab_io ci183 (by decide +kernel))
theorem k183_17 : At 183 17 [some (.ref r), a1, a2, a3, a4, a5] st I J Q ↔ At 183 18 [some (.ref r), a1, a2, a3, a4, a5] (.ref r :: st) I J Q := A_aload_n (q := 0) (ab_io ci183 (by decide +kernel)) rfl
theorem k183_18 : At 183 18 ls (.ref 49 :: st) I J Q ↔ At 183 21 ls (.ref 69 :: st) I J Q := A_getR (ab_io ci183 (by decide +kernel)) ow183 fq8_72_49
theorem k183_21 : At 183 21 [a0, some (.int x), a2, a3, a4, a5] st I J Q ↔ At 183 22 [a0, some (.int x), a2, a3, a4, a5] (.int x :: st) I J Q := A_iload_n (q := 1) (ab_io ci183 (by decide +kernel)) rfl
theorem k183_22 : At 183 22 ls st I J Q ↔ At 183 23 ls (.int (nI 1) :: st) I J Q := A_iconst (ab_io ci183 (by decide +kernel)) ic_1
theorem k183_23 : At 183 23 ls (.int x1 :: .int x :: st) I J Q ↔ At 183 24 ls (.int (x + x1) :: st) I J Q := A_iadd (ab_io ci183 (by decide +kernel))
theorem k183_24 : At 183 24 ls (.int x :: .ref r :: st) I J Q ↔ ((ab_ly r).1 = 1 ∧ r < 75 ∧ 0 ≤ x.toInt ∧ x.toInt < (ab_ly r).2) ∧ At 183 25 ls (.int (I r x.toNatClampNeg) :: st) I J Q := A_iaload (ab_io ci183 (by decide +kernel))
theorem k183_25 : At 183 25 ls (.int x1 :: .int x :: st) I J Q ↔ if x ≤ x1 then At 183 34 ls st I J Q else At 183 28 ls st I J Q := A_if_icmp_le (o := 9) (ab_io ci183 (by decide +kernel)) (by decide)
theorem k183_28 : At 183 28 [a0, some (.int x), a2, a3, a4, a5] st I J Q ↔ At 183 31 [ab_nv a0, some (.int (x + (-1))), a2, a3, a4, a5] st I J Q := A_iinc (q := 1) (ab_io ci183 (by decide +kernel)) ic_m1 (Nat.le_of_ble_eq_true rfl) rfl rfl
theorem k183_31 : At 183 31 ls st I J Q ↔ At 183 7 ls st I J Q := A_goto (o := (-24)) (ab_io ci183 (by decide +kernel)) (by decide)
theorem k183_34 : At 183 34 [a0, some (.int x), a2, a3, a4, a5] st I J Q ↔ At 183 35 [a0, some (.int x), a2, a3, a4, a5] (.int x :: st) I J Q := A_iload_n (q := 1) (ab_io ci183 (by decide +kernel)) rfl
theorem k183_35 : At 183 35 ls (.int x :: st) I J Q ↔ if 0 ≤ x then At 183 40 ls st I J Q else At 183 38 ls st I J Q := A_ifCond_ge (o := 5) (ab_io ci183 (by decide +kernel)) (by decide)
theorem k183_38 : At 183 38 ls st I J Q ↔ At 183 39 ls (.int (nI 0) :: st) I J Q := A_iconst (ab_io ci183 (by decide +kernel)) ic_0
theorem k183_39 : At 183 39 ls [.int x] I J Q ↔ (x = 0 ∨ x = 1) ∧ Q (some (.int x)) I J := A_zret (ab_io ci183 (by decide +kernel)) rt183
theorem k183_40 : At 183 40 [some (.ref r), a1, a2, a3, a4, a5] st I J Q ↔ At 183 41 [some (.ref r), a1, a2, a3, a4, a5] (.ref r :: st) I J Q := A_aload_n (q := 0) (ab_io ci183 (by decide +kernel)) rfl
theorem k183_41 : At 183 41 ls (.ref 49 :: st) I J Q ↔ At 183 44 ls (.int (I 49 31) :: st) I J Q := A_getI (ab_io ci183 (by decide +kernel)) ow183 fq8_254_49
theorem k183_44 : At 183 44 ls st I J Q ↔ At 183 45 ls (.int (nI 1) :: st) I J Q := A_iconst (ab_io ci183 (by decide +kernel)) ic_1
theorem k183_45 : At 183 45 ls (.int x1 :: .int x :: st) I J Q ↔ At 183 46 ls (.int (x - x1) :: st) I J Q := A_isub (ab_io ci183 (by decide +kernel))
theorem k183_46 : At 183 46 [a0, a1, a2, a3, a4, a5] (.int x :: st) I J Q ↔ At 183 47 [a0, ab_nv a1, some (.int x), a3, a4, a5] st I J Q := A_istore_n (q := 2) (ab_io ci183 (by decide +kernel)) (Nat.le_of_ble_eq_true rfl) rfl
theorem k183_47 : At 183 47 [some (.ref r), a1, a2, a3, a4, a5] st I J Q ↔ At 183 48 [some (.ref r), a1, a2, a3, a4, a5] (.ref r :: st) I J Q := A_aload_n (q := 0) (ab_io ci183 (by decide +kernel)) rfl
theorem k183_48 : At 183 48 ls (.ref 49 :: st) I J Q ↔ At 183 51 ls (.ref 69 :: st) I J Q := A_getR (ab_io ci183 (by decide +kernel)) ow183 fq8_72_49
theorem k183_51 : At 183 51 [a0, a1, some (.int x), a3, a4, a5] st I J Q ↔ At 183 52 [a0, a1, some (.int x), a3, a4, a5] (.int x :: st) I J Q := A_iload_n (q := 2) (ab_io ci183 (by decide +kernel)) rfl
theorem k183_52 : At 183 52 ls (.int x :: .ref r :: st) I J Q ↔ ((ab_ly r).1 = 1 ∧ r < 75 ∧ 0 ≤ x.toInt ∧ x.toInt < (ab_ly r).2) ∧ At 183 53 ls (.int (I r x.toNatClampNeg) :: st) I J Q := A_iaload (ab_io ci183 (by decide +kernel))
theorem k183_53 : At 183 53 [some (.ref r), a1, a2, a3, a4, a5] st I J Q ↔ At 183 54 [some (.ref r), a1, a2, a3, a4, a5] (.ref r :: st) I J Q := A_aload_n (q := 0) (ab_io ci183 (by decide +kernel)) rfl
theorem k183_54 : At 183 54 ls (.ref 49 :: st) I J Q ↔ At 183 57 ls (.ref 69 :: st) I J Q := A_getR (ab_io ci183 (by decide +kernel)) ow183 fq8_72_49
theorem k183_57 : At 183 57 [a0, some (.int x), a2, a3, a4, a5] st I J Q ↔ At 183 58 [a0, some (.int x), a2, a3, a4, a5] (.int x :: st) I J Q := A_iload_n (q := 1) (ab_io ci183 (by decide +kernel)) rfl
theorem k183_58 : At 183 58 ls (.int x :: .ref r :: st) I J Q ↔ ((ab_ly r).1 = 1 ∧ r < 75 ∧ 0 ≤ x.toInt ∧ x.toInt < (ab_ly r).2) ∧ At 183 59 ls (.int (I r x.toNatClampNeg) :: st) I J Q := A_iaload (ab_io ci183 (by decide +kernel))
theorem k183_59 : At 183 59 ls (.int x1 :: .int x :: st) I J Q ↔ if x1 ≤ x then At 183 68 ls st I J Q else At 183 62 ls st I J Q := A_if_icmp_ge (o := 9) (ab_io ci183 (by decide +kernel)) (by decide)
theorem k183_62 : At 183 62 [a0, a1, some (.int x), a3, a4, a5] st I J Q ↔ At 183 65 [a0, ab_nv a1, some (.int (x + (-1))), a3, a4, a5] st I J Q := A_iinc (q := 2) (ab_io ci183 (by decide +kernel)) ic_m1 (Nat.le_of_ble_eq_true rfl) rfl rfl
theorem k183_65 : At 183 65 ls st I J Q ↔ At 183 47 ls st I J Q := A_goto (o := (-18)) (ab_io ci183 (by decide +kernel)) (by decide)
theorem k183_68 : At 183 68 [some (.ref r), a1, a2, a3, a4, a5] st I J Q ↔ At 183 69 [some (.ref r), a1, a2, a3, a4, a5] (.ref r :: st) I J Q := A_aload_n (q := 0) (ab_io ci183 (by decide +kernel)) rfl
theorem k183_69 : At 183 69 ls (.ref 49 :: st) I J Q ↔ At 183 72 ls (.ref 69 :: st) I J Q := A_getR (ab_io ci183 (by decide +kernel)) ow183 fq8_72_49
theorem k183_72 : At 183 72 [a0, some (.int x), a2, a3, a4, a5] st I J Q ↔ At 183 73 [a0, some (.int x), a2, a3, a4, a5] (.int x :: st) I J Q := A_iload_n (q := 1) (ab_io ci183 (by decide +kernel)) rfl
theorem k183_73 : At 183 73 ls (.int x :: .ref r :: st) I J Q ↔ ((ab_ly r).1 = 1 ∧ r < 75 ∧ 0 ≤ x.toInt ∧ x.toInt < (ab_ly r).2) ∧ At 183 74 ls (.int (I r x.toNatClampNeg) :: st) I J Q := A_iaload (ab_io ci183 (by decide +kernel))
theorem k183_74 : At 183 74 [a0, a1, a2, a3, a4, a5] (.int x :: st) I J Q ↔ At 183 75 [a0, a1, ab_nv a2, some (.int x), a4, a5] st I J Q := A_istore_n (q := 3) (ab_io ci183 (by decide +kernel)) (Nat.le_of_ble_eq_true rfl) rfl
theorem k183_75 : At 183 75 [some (.ref r), a1, a2, a3, a4, a5] st I J Q ↔ At 183 76 [some (.ref r), a1, a2, a3, a4, a5] (.ref r :: st) I J Q := A_aload_n (q := 0) (ab_io ci183 (by decide +kernel)) rfl
theorem k183_76 : At 183 76 ls (.ref 49 :: st) I J Q ↔ At 183 79 ls (.ref 69 :: st) I J Q := A_getR (ab_io ci183 (by decide +kernel)) ow183 fq8_72_49
theorem k183_79 : At 183 79 [a0, some (.int x), a2, a3, a4, a5] st I J Q ↔ At 183 80 [a0, some (.int x), a2, a3, a4, a5] (.int x :: st) I J Q := A_iload_n (q := 1) (ab_io ci183 (by decide +kernel)) rfl
theorem k183_80 : At 183 80 [some (.ref r), a1, a2, a3, a4, a5] st I J Q ↔ At 183 81 [some (.ref r), a1, a2, a3, a4, a5] (.ref r :: st) I J Q := A_aload_n (q := 0) (ab_io ci183 (by decide +kernel)) rfl
theorem k183_81 : At 183 81 ls (.ref 49 :: st) I J Q ↔ At 183 84 ls (.ref 69 :: st) I J Q := A_getR (ab_io ci183 (by decide +kernel)) ow183 fq8_72_49
theorem k183_84 : At 183 84 [a0, a1, some (.int x), a3, a4, a5] st I J Q ↔ At 183 85 [a0, a1, some (.int x), a3, a4, a5] (.int x :: st) I J Q := A_iload_n (q := 2) (ab_io ci183 (by decide +kernel)) rfl
theorem k183_85 : At 183 85 ls (.int x :: .ref r :: st) I J Q ↔ ((ab_ly r).1 = 1 ∧ r < 75 ∧ 0 ≤ x.toInt ∧ x.toInt < (ab_ly r).2) ∧ At 183 86 ls (.int (I r x.toNatClampNeg) :: st) I J Q := A_iaload (ab_io ci183 (by decide +kernel))
theorem k183_86 : At 183 86 ls (.int x1 :: .int x :: .ref r :: st) I J Q ↔ ((ab_ly r).1 = 1 ∧ r < 75 ∧ 0 ≤ x.toInt ∧ x.toInt < (ab_ly r).2) ∧ At 183 87 ls st (va_up I r (va_up (I r) x.toNatClampNeg x1)) J Q := A_iastore (ab_io ci183 (by decide +kernel))
theorem k183_87 : At 183 87 [some (.ref r), a1, a2, a3, a4, a5] st I J Q ↔ At 183 88 [some (.ref r), a1, a2, a3, a4, a5] (.ref r :: st) I J Q := A_aload_n (q := 0) (ab_io ci183 (by decide +kernel)) rfl
theorem k183_88 : At 183 88 ls (.ref 49 :: st) I J Q ↔ At 183 91 ls (.ref 69 :: st) I J Q := A_getR (ab_io ci183 (by decide +kernel)) ow183 fq8_72_49
theorem k183_91 : At 183 91 [a0, a1, some (.int x), a3, a4, a5] st I J Q ↔ At 183 92 [a0, a1, some (.int x), a3, a4, a5] (.int x :: st) I J Q := A_iload_n (q := 2) (ab_io ci183 (by decide +kernel)) rfl
theorem k183_92 : At 183 92 [a0, a1, a2, some (.int x), a4, a5] st I J Q ↔ At 183 93 [a0, a1, a2, some (.int x), a4, a5] (.int x :: st) I J Q := A_iload_n (q := 3) (ab_io ci183 (by decide +kernel)) rfl
theorem k183_93 : At 183 93 ls (.int x1 :: .int x :: .ref r :: st) I J Q ↔ ((ab_ly r).1 = 1 ∧ r < 75 ∧ 0 ≤ x.toInt ∧ x.toInt < (ab_ly r).2) ∧ At 183 94 ls st (va_up I r (va_up (I r) x.toNatClampNeg x1)) J Q := A_iastore (ab_io ci183 (by decide +kernel))
theorem k183_94 : At 183 94 [a0, some (.int x), a2, a3, a4, a5] st I J Q ↔ At 183 95 [a0, some (.int x), a2, a3, a4, a5] (.int x :: st) I J Q := A_iload_n (q := 1) (ab_io ci183 (by decide +kernel)) rfl
theorem k183_95 : At 183 95 ls st I J Q ↔ At 183 96 ls (.int (nI 1) :: st) I J Q := A_iconst (ab_io ci183 (by decide +kernel)) ic_1
theorem k183_96 : At 183 96 ls (.int x1 :: .int x :: st) I J Q ↔ At 183 97 ls (.int (x + x1) :: st) I J Q := A_iadd (ab_io ci183 (by decide +kernel))
theorem k183_97 : At 183 97 [a0, a1, a2, a3, a4, a5] (.int x :: st) I J Q ↔ At 183 99 [a0, a1, a2, ab_nv a3, some (.int x), a5] st I J Q := A_istore (q := 4) (ab_io ci183 (by decide +kernel)) (Nat.le_of_ble_eq_true rfl) rfl
theorem k183_99 : At 183 99 [some (.ref r), a1, a2, a3, a4, a5] st I J Q ↔ At 183 100 [some (.ref r), a1, a2, a3, a4, a5] (.ref r :: st) I J Q := A_aload_n (q := 0) (ab_io ci183 (by decide +kernel)) rfl
theorem k183_100 : At 183 100 ls (.ref 49 :: st) I J Q ↔ At 183 103 ls (.int (I 49 31) :: st) I J Q := A_getI (ab_io ci183 (by decide +kernel)) ow183 fq8_254_49
theorem k183_103 : At 183 103 ls st I J Q ↔ At 183 104 ls (.int (nI 1) :: st) I J Q := A_iconst (ab_io ci183 (by decide +kernel)) ic_1
theorem k183_104 : At 183 104 ls (.int x1 :: .int x :: st) I J Q ↔ At 183 105 ls (.int (x - x1) :: st) I J Q := A_isub (ab_io ci183 (by decide +kernel))
theorem k183_105 : At 183 105 [a0, a1, a2, a3, a4, a5] (.int x :: st) I J Q ↔ At 183 107 [a0, a1, a2, a3, ab_nv a4, some (.int x)] st I J Q := A_istore (q := 5) (ab_io ci183 (by decide +kernel)) (Nat.le_of_ble_eq_true rfl) rfl
theorem k183_107 : At 183 107 [a0, a1, a2, a3, some (.int x), a5] st I J Q ↔ At 183 109 [a0, a1, a2, a3, some (.int x), a5] (.int x :: st) I J Q := A_iload (q := 4) (ab_io ci183 (by decide +kernel)) rfl
theorem k183_109 : At 183 109 [a0, a1, a2, a3, a4, some (.int x)] st I J Q ↔ At 183 111 [a0, a1, a2, a3, a4, some (.int x)] (.int x :: st) I J Q := A_iload (q := 5) (ab_io ci183 (by decide +kernel)) rfl
theorem k183_111 : At 183 111 ls (.int x1 :: .int x :: st) I J Q ↔ if x1 ≤ x then At 183 153 ls st I J Q else At 183 114 ls st I J Q := A_if_icmp_ge (o := 42) (ab_io ci183 (by decide +kernel)) (by decide)
theorem k183_114 : At 183 114 [some (.ref r), a1, a2, a3, a4, a5] st I J Q ↔ At 183 115 [some (.ref r), a1, a2, a3, a4, a5] (.ref r :: st) I J Q := A_aload_n (q := 0) (ab_io ci183 (by decide +kernel)) rfl
theorem k183_115 : At 183 115 ls (.ref 49 :: st) I J Q ↔ At 183 118 ls (.ref 69 :: st) I J Q := A_getR (ab_io ci183 (by decide +kernel)) ow183 fq8_72_49
theorem k183_118 : At 183 118 [a0, a1, a2, a3, some (.int x), a5] st I J Q ↔ At 183 120 [a0, a1, a2, a3, some (.int x), a5] (.int x :: st) I J Q := A_iload (q := 4) (ab_io ci183 (by decide +kernel)) rfl
theorem k183_120 : At 183 120 ls (.int x :: .ref r :: st) I J Q ↔ ((ab_ly r).1 = 1 ∧ r < 75 ∧ 0 ≤ x.toInt ∧ x.toInt < (ab_ly r).2) ∧ At 183 121 ls (.int (I r x.toNatClampNeg) :: st) I J Q := A_iaload (ab_io ci183 (by decide +kernel))
theorem k183_121 : At 183 121 [a0, a1, a2, a3, a4, a5] (.int x :: st) I J Q ↔ At 183 122 [a0, a1, ab_nv a2, some (.int x), a4, a5] st I J Q := A_istore_n (q := 3) (ab_io ci183 (by decide +kernel)) (Nat.le_of_ble_eq_true rfl) rfl
theorem k183_122 : At 183 122 [some (.ref r), a1, a2, a3, a4, a5] st I J Q ↔ At 183 123 [some (.ref r), a1, a2, a3, a4, a5] (.ref r :: st) I J Q := A_aload_n (q := 0) (ab_io ci183 (by decide +kernel)) rfl
theorem k183_123 : At 183 123 ls (.ref 49 :: st) I J Q ↔ At 183 126 ls (.ref 69 :: st) I J Q := A_getR (ab_io ci183 (by decide +kernel)) ow183 fq8_72_49
theorem k183_126 : At 183 126 [a0, a1, a2, a3, some (.int x), a5] st I J Q ↔ At 183 128 [a0, a1, a2, a3, some (.int x), a5] (.int x :: st) I J Q := A_iload (q := 4) (ab_io ci183 (by decide +kernel)) rfl
theorem k183_128 : At 183 128 [some (.ref r), a1, a2, a3, a4, a5] st I J Q ↔ At 183 129 [some (.ref r), a1, a2, a3, a4, a5] (.ref r :: st) I J Q := A_aload_n (q := 0) (ab_io ci183 (by decide +kernel)) rfl
theorem k183_129 : At 183 129 ls (.ref 49 :: st) I J Q ↔ At 183 132 ls (.ref 69 :: st) I J Q := A_getR (ab_io ci183 (by decide +kernel)) ow183 fq8_72_49
theorem k183_132 : At 183 132 [a0, a1, a2, a3, a4, some (.int x)] st I J Q ↔ At 183 134 [a0, a1, a2, a3, a4, some (.int x)] (.int x :: st) I J Q := A_iload (q := 5) (ab_io ci183 (by decide +kernel)) rfl
theorem k183_134 : At 183 134 ls (.int x :: .ref r :: st) I J Q ↔ ((ab_ly r).1 = 1 ∧ r < 75 ∧ 0 ≤ x.toInt ∧ x.toInt < (ab_ly r).2) ∧ At 183 135 ls (.int (I r x.toNatClampNeg) :: st) I J Q := A_iaload (ab_io ci183 (by decide +kernel))
theorem k183_135 : At 183 135 ls (.int x1 :: .int x :: .ref r :: st) I J Q ↔ ((ab_ly r).1 = 1 ∧ r < 75 ∧ 0 ≤ x.toInt ∧ x.toInt < (ab_ly r).2) ∧ At 183 136 ls st (va_up I r (va_up (I r) x.toNatClampNeg x1)) J Q := A_iastore (ab_io ci183 (by decide +kernel))
theorem k183_136 : At 183 136 [some (.ref r), a1, a2, a3, a4, a5] st I J Q ↔ At 183 137 [some (.ref r), a1, a2, a3, a4, a5] (.ref r :: st) I J Q := A_aload_n (q := 0) (ab_io ci183 (by decide +kernel)) rfl
theorem k183_137 : At 183 137 ls (.ref 49 :: st) I J Q ↔ At 183 140 ls (.ref 69 :: st) I J Q := A_getR (ab_io ci183 (by decide +kernel)) ow183 fq8_72_49
theorem k183_140 : At 183 140 [a0, a1, a2, a3, a4, some (.int x)] st I J Q ↔ At 183 142 [a0, a1, a2, a3, a4, some (.int x)] (.int x :: st) I J Q := A_iload (q := 5) (ab_io ci183 (by decide +kernel)) rfl
theorem k183_142 : At 183 142 [a0, a1, a2, some (.int x), a4, a5] st I J Q ↔ At 183 143 [a0, a1, a2, some (.int x), a4, a5] (.int x :: st) I J Q := A_iload_n (q := 3) (ab_io ci183 (by decide +kernel)) rfl
theorem k183_143 : At 183 143 ls (.int x1 :: .int x :: .ref r :: st) I J Q ↔ ((ab_ly r).1 = 1 ∧ r < 75 ∧ 0 ≤ x.toInt ∧ x.toInt < (ab_ly r).2) ∧ At 183 144 ls st (va_up I r (va_up (I r) x.toNatClampNeg x1)) J Q := A_iastore (ab_io ci183 (by decide +kernel))
theorem k183_144 : At 183 144 [a0, a1, a2, a3, some (.int x), a5] st I J Q ↔ At 183 147 [a0, a1, a2, ab_nv a3, some (.int (x + (nI 1))), a5] st I J Q := A_iinc (q := 4) (ab_io ci183 (by decide +kernel)) ic_1 (Nat.le_of_ble_eq_true rfl) rfl rfl
theorem k183_147 : At 183 147 [a0, a1, a2, a3, a4, some (.int x)] st I J Q ↔ At 183 150 [a0, a1, a2, a3, ab_nv a4, some (.int (x + (-1)))] st I J Q := A_iinc (q := 5) (ab_io ci183 (by decide +kernel)) ic_m1 (Nat.le_of_ble_eq_true rfl) rfl rfl
theorem k183_150 : At 183 150 ls st I J Q ↔ At 183 107 ls st I J Q := A_goto (o := (-43)) (ab_io ci183 (by decide +kernel)) (by decide)
theorem k183_153 : At 183 153 ls st I J Q ↔ At 183 154 ls (.int (nI 1) :: st) I J Q := A_iconst (ab_io ci183 (by decide +kernel)) ic_1
theorem k183_154 : At 183 154 ls [.int x] I J Q ↔ (x = 0 ∨ x = 1) ∧ Q (some (.int x)) I J := A_zret (ab_io ci183 (by decide +kernel)) rt183
theorem k184_0 : At 184 0 [a0, some (.int x), a2, a3, a4, a5, a6, a7, a8, a9] st I J Q ↔ At 184 1 [a0, some (.int x), a2, a3, a4, a5, a6, a7, a8, a9] (.int x :: st) I J Q := A_iload_n (q := 1) (ab_io ci184 (by decide +kernel)) rfl
theorem k184_1 : At 184 1 ls [.int p0] I J Q ↔ Cal 132 [.int p0] I J (fun v I' J' => At 184 4 ls (v.toList ++ []) I' J' Q) := A_cal (kd := 1) (j := 112) (na := 1) (ea := 1) (rk := 0) (by decide +kernel) rfl rfl rfl (Or.inl rfl) (Nat.le_of_ble_eq_true rfl)
theorem k184_4 : At 184 4 ls (.int x :: st) I J Q ↔ if x = 0 then At 184 28 ls st I J Q else At 184 7 ls st I J Q := A_ifCond_eq (o := 24) (ab_io ci184 (by decide +kernel)) (by decide)
theorem k184_7 : At 184 7 [a0, a1, some (.int x), a3, a4, a5, a6, a7, a8, a9] st I J Q ↔ At 184 8 [a0, a1, some (.int x), a3, a4, a5, a6, a7, a8, a9] (.int x :: st) I J Q := A_iload_n (q := 2) (ab_io ci184 (by decide +kernel)) rfl
theorem k184_8 : At 184 8 ls [.int p0] I J Q ↔ Cal 132 [.int p0] I J (fun v I' J' => At 184 11 ls (v.toList ++ []) I' J' Q) := A_cal (kd := 1) (j := 112) (na := 1) (ea := 1) (rk := 0) (by decide +kernel) rfl rfl rfl (Or.inl rfl) (Nat.le_of_ble_eq_true rfl)
theorem k184_11 : At 184 11 ls (.int x :: st) I J Q ↔ if x = 0 then At 184 28 ls st I J Q else At 184 14 ls st I J Q := A_ifCond_eq (o := 17) (ab_io ci184 (by decide +kernel)) (by decide)
theorem k184_14 : At 184 14 [a0, some (.int x), a2, a3, a4, a5, a6, a7, a8, a9] st I J Q ↔ At 184 15 [a0, some (.int x), a2, a3, a4, a5, a6, a7, a8, a9] (.int x :: st) I J Q := A_iload_n (q := 1) (ab_io ci184 (by decide +kernel)) rfl
theorem k184_15 : At 184 15 [a0, a1, some (.int x), a3, a4, a5, a6, a7, a8, a9] st I J Q ↔ At 184 16 [a0, a1, some (.int x), a3, a4, a5, a6, a7, a8, a9] (.int x :: st) I J Q := A_iload_n (q := 2) (ab_io ci184 (by decide +kernel)) rfl
theorem k184_16 : At 184 16 ls (.int x1 :: .int x :: st) I J Q ↔ if x = x1 then At 184 28 ls st I J Q else At 184 19 ls st I J Q := A_if_icmp_eq (o := 12) (ab_io ci184 (by decide +kernel)) (by decide)
theorem k184_19 : At 184 19 [a0, a1, a2, some (.int x), a4, a5, a6, a7, a8, a9] st I J Q ↔ At 184 20 [a0, a1, a2, some (.int x), a4, a5, a6, a7, a8, a9] (.int x :: st) I J Q := A_iload_n (q := 3) (ab_io ci184 (by decide +kernel)) rfl
theorem k184_20 : At 184 20 ls st I J Q ↔ At 184 21 ls (.int (nI 0) :: st) I J Q := A_iconst (ab_io ci184 (by decide +kernel)) ic_0
theorem k184_21 : At 184 21 ls st I J Q ↔ At 184 22 ls (.int (nI 1) :: st) I J Q := A_iconst (ab_io ci184 (by decide +kernel)) ic_1
theorem k184_22 : At 184 22 ls [.int p0, .int p1, .int p2] I J Q ↔ Cal 126 [.int p2, .int p1, .int p0] I J (fun v I' J' => At 184 25 ls (v.toList ++ []) I' J' Q) := A_cal (kd := 1) (j := 101) (na := 3) (ea := 3) (rk := 0) (by decide +kernel) rfl rfl rfl (Or.inl rfl) (Nat.le_of_ble_eq_true rfl)
theorem k184_25 : At 184 25 ls (.int x :: st) I J Q ↔ if ¬ x = 0 then At 184 31 ls st I J Q else At 184 28 ls st I J Q := A_ifCond_ne (o := 6) (ab_io ci184 (by decide +kernel)) (by decide)
theorem k184_28 : At 184 28 ls st I J Q ↔ At 184 30 ls (.int (-2) :: st) I J Q := A_bipush (ab_io ci184 (by decide +kernel)) bc_m2
theorem k184_30 : At 184 30 ls [.int x] I J Q ↔ Q (some (.int x)) I J := A_iret (ab_io ci184 (by decide +kernel)) rt184
theorem k184_31 : At 184 31 [some (.ref r), a1, a2, a3, a4, a5, a6, a7, a8, a9] st I J Q ↔ At 184 32 [some (.ref r), a1, a2, a3, a4, a5, a6, a7, a8, a9] (.ref r :: st) I J Q := A_aload_n (q := 0) (ab_io ci184 (by decide +kernel)) rfl
theorem k184_32 : At 184 32 ls [.ref 49] I J Q ↔ Cal 138 [.ref 49] I J (fun v I' J' => At 184 35 ls (v.toList ++ []) I' J' Q) := A_cal (kd := 0) (j := 133) (na := 1) (ea := 1) (rk := 49) (by decide +kernel) rfl rfl rfl (Or.inr rfl) (Nat.le_of_ble_eq_true rfl)
theorem k184_35 : At 184 35 [some (.ref r), a1, a2, a3, a4, a5, a6, a7, a8, a9] st I J Q ↔ At 184 36 [some (.ref r), a1, a2, a3, a4, a5, a6, a7, a8, a9] (.ref r :: st) I J Q := A_aload_n (q := 0) (ab_io ci184 (by decide +kernel)) rfl
theorem k184_36 : At 184 36 ls st I J Q ↔ At 184 37 ls (.int (nI 0) :: st) I J Q := A_iconst (ab_io ci184 (by decide +kernel)) ic_0
theorem k184_37 : At 184 37 ls (.int x :: .ref 49 :: st) I J Q ↔ At 184 40 ls st (va_up I 49 (va_up (I 49) 31 x)) J Q := A_putI (ab_io ci184 (by decide +kernel)) ow184 fq8_254_49
theorem k184_40 : At 184 40 ls st I J Q ↔ At 184 41 ls (.int (nI 0) :: st) I J Q := A_iconst (ab_io ci184 (by decide +kernel)) ic_0
theorem k184_41 : At 184 41 [a0, a1, a2, a3, a4, a5, a6, a7, a8, a9] (.int x :: st) I J Q ↔ At 184 43 [a0, a1, a2, ab_nv a3, some (.int x), a5, a6, a7, a8, a9] st I J Q := A_istore (q := 4) (ab_io ci184 (by decide +kernel)) (Nat.le_of_ble_eq_true rfl) rfl
theorem k184_43 : At 184 43 [a0, a1, a2, a3, some (.int x), a5, a6, a7, a8, a9] st I J Q ↔ At 184 45 [a0, a1, a2, a3, some (.int x), a5, a6, a7, a8, a9] (.int x :: st) I J Q := A_iload (q := 4) (ab_io ci184 (by decide +kernel)) rfl
theorem k184_45 : At 184 45 ls st I J Q ↔ At 184 47 ls (.int (nI 12) :: st) I J Q := A_bipush (ab_io ci184 (by decide +kernel)) bc_12
theorem k184_47 : At 184 47 ls (.int x1 :: .int x :: st) I J Q ↔ if x1 ≤ x then At 184 133 ls st I J Q else At 184 50 ls st I J Q := A_if_icmp_ge (o := 86) (ab_io ci184 (by decide +kernel)) (by decide)
theorem k184_50 : At 184 50 [some (.ref r), a1, a2, a3, a4, a5, a6, a7, a8, a9] st I J Q ↔ At 184 51 [some (.ref r), a1, a2, a3, a4, a5, a6, a7, a8, a9] (.ref r :: st) I J Q := A_aload_n (q := 0) (ab_io ci184 (by decide +kernel)) rfl
theorem k184_51 : At 184 51 [a0, a1, a2, a3, some (.int x), a5, a6, a7, a8, a9] st I J Q ↔ At 184 53 [a0, a1, a2, a3, some (.int x), a5, a6, a7, a8, a9] (.int x :: st) I J Q := A_iload (q := 4) (ab_io ci184 (by decide +kernel)) rfl
theorem k184_53 : At 184 53 [a0, some (.int x), a2, a3, a4, a5, a6, a7, a8, a9] st I J Q ↔ At 184 54 [a0, some (.int x), a2, a3, a4, a5, a6, a7, a8, a9] (.int x :: st) I J Q := A_iload_n (q := 1) (ab_io ci184 (by decide +kernel)) rfl
theorem k184_54 : At 184 54 ls [.int p0, .int p1, .ref 49] I J Q ↔ Cal 140 [.ref 49, .int p1, .int p0] I J (fun v I' J' => At 184 57 ls (v.toList ++ []) I' J' Q) := A_cal (kd := 0) (j := 136) (na := 3) (ea := 3) (rk := 49) (by decide +kernel) rfl rfl rfl (Or.inr rfl) (Nat.le_of_ble_eq_true rfl)
theorem k184_57 : At 184 57 ls st I J Q ↔ At 184 58 ls (.int (-1) :: st) I J Q := A_iconst (ab_io ci184 (by decide +kernel)) ic_m1
theorem k184_58 : At 184 58 ls (.int x1 :: .int x :: st) I J Q ↔ if x = x1 then At 184 127 ls st I J Q else At 184 61 ls st I J Q := A_if_icmp_eq (o := 69) (ab_io ci184 (by decide +kernel)) (by decide)
theorem k184_61 : At 184 61 [some (.ref r), a1, a2, a3, a4, a5, a6, a7, a8, a9] st I J Q ↔ At 184 62 [some (.ref r), a1, a2, a3, a4, a5, a6, a7, a8, a9] (.ref r :: st) I J Q := A_aload_n (q := 0) (ab_io ci184 (by decide +kernel)) rfl
theorem k184_62 : At 184 62 [a0, a1, a2, a3, some (.int x), a5, a6, a7, a8, a9] st I J Q ↔ At 184 64 [a0, a1, a2, a3, some (.int x), a5, a6, a7, a8, a9] (.int x :: st) I J Q := A_iload (q := 4) (ab_io ci184 (by decide +kernel)) rfl
theorem k184_64 : At 184 64 [a0, a1, some (.int x), a3, a4, a5, a6, a7, a8, a9] st I J Q ↔ At 184 65 [a0, a1, some (.int x), a3, a4, a5, a6, a7, a8, a9] (.int x :: st) I J Q := A_iload_n (q := 2) (ab_io ci184 (by decide +kernel)) rfl
theorem k184_65 : At 184 65 ls [.int p0, .int p1, .ref 49] I J Q ↔ Cal 140 [.ref 49, .int p1, .int p0] I J (fun v I' J' => At 184 68 ls (v.toList ++ []) I' J' Q) := A_cal (kd := 0) (j := 136) (na := 3) (ea := 3) (rk := 49) (by decide +kernel) rfl rfl rfl (Or.inr rfl) (Nat.le_of_ble_eq_true rfl)
theorem k184_68 : At 184 68 ls st I J Q ↔ At 184 69 ls (.int (-1) :: st) I J Q := A_iconst (ab_io ci184 (by decide +kernel)) ic_m1
theorem k184_69 : At 184 69 ls (.int x1 :: .int x :: st) I J Q ↔ if x = x1 then At 184 127 ls st I J Q else At 184 72 ls st I J Q := A_if_icmp_eq (o := 58) (ab_io ci184 (by decide +kernel)) (by decide)
theorem k184_72 : At 184 72 [some (.ref r), a1, a2, a3, a4, a5, a6, a7, a8, a9] st I J Q ↔ At 184 73 [some (.ref r), a1, a2, a3, a4, a5, a6, a7, a8, a9] (.ref r :: st) I J Q := A_aload_n (q := 0) (ab_io ci184 (by decide +kernel)) rfl
theorem k184_73 : At 184 73 ls (.ref 49 :: st) I J Q ↔ At 184 76 ls (.ref 67 :: st) I J Q := A_getR (ab_io ci184 (by decide +kernel)) ow184 fq8_66_49
theorem k184_76 : At 184 76 [some (.ref r), a1, a2, a3, a4, a5, a6, a7, a8, a9] st I J Q ↔ At 184 77 [some (.ref r), a1, a2, a3, a4, a5, a6, a7, a8, a9] (.ref r :: st) I J Q := A_aload_n (q := 0) (ab_io ci184 (by decide +kernel)) rfl
theorem k184_77 : At 184 77 ls (.ref 49 :: st) I J Q ↔ At 184 80 ls (.int (I 49 31) :: st) I J Q := A_getI (ab_io ci184 (by decide +kernel)) ow184 fq8_254_49
theorem k184_80 : At 184 80 [some (.ref r), a1, a2, a3, a4, a5, a6, a7, a8, a9] st I J Q ↔ At 184 81 [some (.ref r), a1, a2, a3, a4, a5, a6, a7, a8, a9] (.ref r :: st) I J Q := A_aload_n (q := 0) (ab_io ci184 (by decide +kernel)) rfl
theorem k184_81 : At 184 81 [a0, a1, a2, a3, some (.int x), a5, a6, a7, a8, a9] st I J Q ↔ At 184 83 [a0, a1, a2, a3, some (.int x), a5, a6, a7, a8, a9] (.int x :: st) I J Q := A_iload (q := 4) (ab_io ci184 (by decide +kernel)) rfl
theorem k184_83 : At 184 83 [a0, some (.int x), a2, a3, a4, a5, a6, a7, a8, a9] st I J Q ↔ At 184 84 [a0, some (.int x), a2, a3, a4, a5, a6, a7, a8, a9] (.int x :: st) I J Q := A_iload_n (q := 1) (ab_io ci184 (by decide +kernel)) rfl
theorem k184_84 : At 184 84 ls [.int p0, .int p1, .ref 49, .int q0, .ref qr1] I J Q ↔ Cal 140 [.ref 49, .int p1, .int p0] I J (fun v I' J' => At 184 87 ls (v.toList ++ [.int q0, .ref qr1]) I' J' Q) := A_cal (kd := 0) (j := 136) (na := 3) (ea := 3) (rk := 49) (by decide +kernel) rfl rfl rfl (Or.inr rfl) (Nat.le_of_ble_eq_true rfl)
theorem k184_87 : At 184 87 ls (.int x1 :: .int x :: .ref r :: st) I J Q ↔ ((ab_ly r).1 = 1 ∧ r < 75 ∧ 0 ≤ x.toInt ∧ x.toInt < (ab_ly r).2) ∧ At 184 88 ls st (va_up I r (va_up (I r) x.toNatClampNeg x1)) J Q := A_iastore (ab_io ci184 (by decide +kernel))
theorem k184_88 : At 184 88 [some (.ref r), a1, a2, a3, a4, a5, a6, a7, a8, a9] st I J Q ↔ At 184 89 [some (.ref r), a1, a2, a3, a4, a5, a6, a7, a8, a9] (.ref r :: st) I J Q := A_aload_n (q := 0) (ab_io ci184 (by decide +kernel)) rfl
theorem k184_89 : At 184 89 ls (.ref 49 :: st) I J Q ↔ At 184 92 ls (.ref 68 :: st) I J Q := A_getR (ab_io ci184 (by decide +kernel)) ow184 fq8_69_49
theorem k184_92 : At 184 92 [some (.ref r), a1, a2, a3, a4, a5, a6, a7, a8, a9] st I J Q ↔ At 184 93 [some (.ref r), a1, a2, a3, a4, a5, a6, a7, a8, a9] (.ref r :: st) I J Q := A_aload_n (q := 0) (ab_io ci184 (by decide +kernel)) rfl
theorem k184_93 : At 184 93 ls (.ref 49 :: st) I J Q ↔ At 184 96 ls (.int (I 49 31) :: st) I J Q := A_getI (ab_io ci184 (by decide +kernel)) ow184 fq8_254_49
theorem k184_96 : At 184 96 [some (.ref r), a1, a2, a3, a4, a5, a6, a7, a8, a9] st I J Q ↔ At 184 97 [some (.ref r), a1, a2, a3, a4, a5, a6, a7, a8, a9] (.ref r :: st) I J Q := A_aload_n (q := 0) (ab_io ci184 (by decide +kernel)) rfl
theorem k184_97 : At 184 97 [a0, a1, a2, a3, some (.int x), a5, a6, a7, a8, a9] st I J Q ↔ At 184 99 [a0, a1, a2, a3, some (.int x), a5, a6, a7, a8, a9] (.int x :: st) I J Q := A_iload (q := 4) (ab_io ci184 (by decide +kernel)) rfl
theorem k184_99 : At 184 99 [a0, a1, some (.int x), a3, a4, a5, a6, a7, a8, a9] st I J Q ↔ At 184 100 [a0, a1, some (.int x), a3, a4, a5, a6, a7, a8, a9] (.int x :: st) I J Q := A_iload_n (q := 2) (ab_io ci184 (by decide +kernel)) rfl
theorem k184_100 : At 184 100 ls [.int p0, .int p1, .ref 49, .int q0, .ref qr1] I J Q ↔ Cal 140 [.ref 49, .int p1, .int p0] I J (fun v I' J' => At 184 103 ls (v.toList ++ [.int q0, .ref qr1]) I' J' Q) := A_cal (kd := 0) (j := 136) (na := 3) (ea := 3) (rk := 49) (by decide +kernel) rfl rfl rfl (Or.inr rfl) (Nat.le_of_ble_eq_true rfl)
theorem k184_103 : At 184 103 ls (.int x1 :: .int x :: .ref r :: st) I J Q ↔ ((ab_ly r).1 = 1 ∧ r < 75 ∧ 0 ≤ x.toInt ∧ x.toInt < (ab_ly r).2) ∧ At 184 104 ls st (va_up I r (va_up (I r) x.toNatClampNeg x1)) J Q := A_iastore (ab_io ci184 (by decide +kernel))
theorem k184_104 : At 184 104 [some (.ref r), a1, a2, a3, a4, a5, a6, a7, a8, a9] st I J Q ↔ At 184 105 [some (.ref r), a1, a2, a3, a4, a5, a6, a7, a8, a9] (.ref r :: st) I J Q := A_aload_n (q := 0) (ab_io ci184 (by decide +kernel)) rfl
theorem k184_105 : At 184 105 ls (.ref 49 :: st) I J Q ↔ At 184 108 ls (.ref 69 :: st) I J Q := A_getR (ab_io ci184 (by decide +kernel)) ow184 fq8_72_49
theorem k184_108 : At 184 108 [some (.ref r), a1, a2, a3, a4, a5, a6, a7, a8, a9] st I J Q ↔ At 184 109 [some (.ref r), a1, a2, a3, a4, a5, a6, a7, a8, a9] (.ref r :: st) I J Q := A_aload_n (q := 0) (ab_io ci184 (by decide +kernel)) rfl
theorem k184_109 : At 184 109 ls (.ref 49 :: st) I J Q ↔ At 184 112 ls (.int (I 49 31) :: st) I J Q := A_getI (ab_io ci184 (by decide +kernel)) ow184 fq8_254_49
theorem k184_112 : At 184 112 [some (.ref r), a1, a2, a3, a4, a5, a6, a7, a8, a9] st I J Q ↔ At 184 113 [some (.ref r), a1, a2, a3, a4, a5, a6, a7, a8, a9] (.ref r :: st) I J Q := A_aload_n (q := 0) (ab_io ci184 (by decide +kernel)) rfl
theorem k184_113 : At 184 113 ls (.ref 49 :: st) I J Q ↔ At 184 116 ls (.int (I 49 31) :: st) I J Q := A_getI (ab_io ci184 (by decide +kernel)) ow184 fq8_254_49
theorem k184_116 : At 184 116 ls (.int x1 :: .int x :: .ref r :: st) I J Q ↔ ((ab_ly r).1 = 1 ∧ r < 75 ∧ 0 ≤ x.toInt ∧ x.toInt < (ab_ly r).2) ∧ At 184 117 ls st (va_up I r (va_up (I r) x.toNatClampNeg x1)) J Q := A_iastore (ab_io ci184 (by decide +kernel))
theorem k184_117 : At 184 117 [some (.ref r), a1, a2, a3, a4, a5, a6, a7, a8, a9] st I J Q ↔ At 184 118 [some (.ref r), a1, a2, a3, a4, a5, a6, a7, a8, a9] (.ref r :: st) I J Q := A_aload_n (q := 0) (ab_io ci184 (by decide +kernel)) rfl
theorem k184_118 : At 184 118 ls (.ref r :: st) I J Q ↔ At 184 119 ls (.ref r :: .ref r :: st) I J Q := A_dupA (ab_io ci184 (by decide +kernel))
theorem k184_119 : At 184 119 ls (.ref 49 :: st) I J Q ↔ At 184 122 ls (.int (I 49 31) :: st) I J Q := A_getI (ab_io ci184 (by decide +kernel)) ow184 fq8_254_49
theorem k184_122 : At 184 122 ls st I J Q ↔ At 184 123 ls (.int (nI 1) :: st) I J Q := A_iconst (ab_io ci184 (by decide +kernel)) ic_1
theorem k184_123 : At 184 123 ls (.int x1 :: .int x :: st) I J Q ↔ At 184 124 ls (.int (x + x1) :: st) I J Q := A_iadd (ab_io ci184 (by decide +kernel))
theorem k184_124 : At 184 124 ls (.int x :: .ref 49 :: st) I J Q ↔ At 184 127 ls st (va_up I 49 (va_up (I 49) 31 x)) J Q := A_putI (ab_io ci184 (by decide +kernel)) ow184 fq8_254_49
theorem k184_127 : At 184 127 [a0, a1, a2, a3, some (.int x), a5, a6, a7, a8, a9] st I J Q ↔ At 184 130 [a0, a1, a2, ab_nv a3, some (.int (x + (nI 1))), a5, a6, a7, a8, a9] st I J Q := A_iinc (q := 4) (ab_io ci184 (by decide +kernel)) ic_1 (Nat.le_of_ble_eq_true rfl) rfl rfl
theorem k184_130 : At 184 130 ls st I J Q ↔ At 184 43 ls st I J Q := A_goto (o := (-87)) (ab_io ci184 (by decide +kernel)) (by decide)
theorem k184_133 : At 184 133 [some (.ref r), a1, a2, a3, a4, a5, a6, a7, a8, a9] st I J Q ↔ At 184 134 [some (.ref r), a1, a2, a3, a4, a5, a6, a7, a8, a9] (.ref r :: st) I J Q := A_aload_n (q := 0) (ab_io ci184 (by decide +kernel)) rfl
theorem k184_134 : At 184 134 ls (.ref 49 :: st) I J Q ↔ At 184 137 ls (.int (I 49 31) :: st) I J Q := A_getI (ab_io ci184 (by decide +kernel)) ow184 fq8_254_49
theorem k184_137 : At 184 137 ls st I J Q ↔ At 184 138 ls (.int (nI 2) :: st) I J Q := A_iconst (ab_io ci184 (by decide +kernel)) ic_2
theorem k184_138 : At 184 138 ls (.int x1 :: .int x :: st) I J Q ↔ if x1 ≤ x then At 184 144 ls st I J Q else At 184 141 ls st I J Q := A_if_icmp_ge (o := 6) (ab_io ci184 (by decide +kernel)) (by decide)
theorem k184_141 : At 184 141 ls st I J Q ↔ At 184 143 ls (.int (-3) :: st) I J Q := A_bipush (ab_io ci184 (by decide +kernel)) bc_m3
theorem k184_143 : At 184 143 ls [.int x] I J Q ↔ Q (some (.int x)) I J := A_iret (ab_io ci184 (by decide +kernel)) rt184
theorem k184_144 : At 184 144 [some (.ref r), a1, a2, a3, a4, a5, a6, a7, a8, a9] st I J Q ↔ At 184 145 [some (.ref r), a1, a2, a3, a4, a5, a6, a7, a8, a9] (.ref r :: st) I J Q := A_aload_n (q := 0) (ab_io ci184 (by decide +kernel)) rfl
theorem k184_145 : At 184 145 ls [.ref 49] I J Q ↔ Cal 182 [.ref 49] I J (fun v I' J' => At 184 148 ls (v.toList ++ []) I' J' Q) := A_cal (kd := 0) (j := 260) (na := 1) (ea := 1) (rk := 49) (by decide +kernel) rfl rfl rfl (Or.inr rfl) (Nat.le_of_ble_eq_true rfl)
theorem k184_148 : At 184 148 [a0, a1, a2, a3, a4, a5, a6, a7, a8, a9] (.int x :: st) I J Q ↔ At 184 150 [a0, a1, a2, ab_nv a3, some (.int x), a5, a6, a7, a8, a9] st I J Q := A_istore (q := 4) (ab_io ci184 (by decide +kernel)) (Nat.le_of_ble_eq_true rfl) rfl
theorem k184_150 : At 184 150 [a0, a1, a2, some (.int x), a4, a5, a6, a7, a8, a9] st I J Q ↔ At 184 151 [a0, a1, a2, some (.int x), a4, a5, a6, a7, a8, a9] (.int x :: st) I J Q := A_iload_n (q := 3) (ab_io ci184 (by decide +kernel)) rfl
theorem k184_151 : At 184 151 ls (.int x :: st) I J Q ↔ if ¬ x = 0 then At 184 157 ls st I J Q else At 184 154 ls st I J Q := A_ifCond_ne (o := 6) (ab_io ci184 (by decide +kernel)) (by decide)
theorem k184_154 : At 184 154 [a0, a1, a2, a3, some (.int x), a5, a6, a7, a8, a9] st I J Q ↔ At 184 156 [a0, a1, a2, a3, some (.int x), a5, a6, a7, a8, a9] (.int x :: st) I J Q := A_iload (q := 4) (ab_io ci184 (by decide +kernel)) rfl
theorem k184_156 : At 184 156 ls [.int x] I J Q ↔ Q (some (.int x)) I J := A_iret (ab_io ci184 (by decide +kernel)) rt184
theorem k184_157 : At 184 157 [some (.ref r), a1, a2, a3, a4, a5, a6, a7, a8, a9] st I J Q ↔ At 184 158 [some (.ref r), a1, a2, a3, a4, a5, a6, a7, a8, a9] (.ref r :: st) I J Q := A_aload_n (q := 0) (ab_io ci184 (by decide +kernel)) rfl
theorem k184_158 : At 184 158 ls (.ref 49 :: st) I J Q ↔ At 184 161 ls (.int (I 49 31) :: st) I J Q := A_getI (ab_io ci184 (by decide +kernel)) ow184 fq8_254_49
theorem k184_161 : At 184 161 ls st I J Q ↔ At 184 163 ls (.int (nI 7) :: st) I J Q := A_bipush (ab_io ci184 (by decide +kernel)) bc_7
theorem k184_163 : At 184 163 ls (.int x1 :: .int x :: st) I J Q ↔ if x ≤ x1 then At 184 169 ls st I J Q else At 184 166 ls st I J Q := A_if_icmp_le (o := 6) (ab_io ci184 (by decide +kernel)) (by decide)
theorem k184_166 : At 184 166 ls st I J Q ↔ At 184 168 ls (.int (-4) :: st) I J Q := A_bipush (ab_io ci184 (by decide +kernel)) bc_m4
theorem k184_168 : At 184 168 ls [.int x] I J Q ↔ Q (some (.int x)) I J := A_iret (ab_io ci184 (by decide +kernel)) rt184
theorem k184_169 : At 184 169 ls st I J Q ↔ At 184 170 ls (.long 0 :: st) I J Q := A_lconst (n := 0) (ab_io ci184 (by decide +kernel)) rfl
theorem k184_170 : At 184 170 [a0, a1, a2, a3, a4, a5, a6, a7, a8, a9] (.long u :: st) I J Q ↔ At 184 172 [a0, a1, a2, a3, ab_nv a4, some (.long u), none, a7, a8, a9] st I J Q := A_lstore (q := 5) (ab_io ci184 (by decide +kernel)) (Nat.le_of_ble_eq_true rfl) rfl
theorem k184_172 : At 184 172 ls st I J Q ↔ At 184 173 ls (.long 0 :: st) I J Q := A_lconst (n := 0) (ab_io ci184 (by decide +kernel)) rfl
theorem k184_173 : At 184 173 [a0, a1, a2, a3, a4, a5, a6, a7, a8, a9] (.long u :: st) I J Q ↔ At 184 175 [a0, a1, a2, a3, a4, a5, ab_nv a6, some (.long u), none, a9] st I J Q := A_lstore (q := 7) (ab_io ci184 (by decide +kernel)) (Nat.le_of_ble_eq_true rfl) rfl
theorem k184_175 : At 184 175 ls st I J Q ↔ At 184 176 ls (.int (nI 1) :: st) I J Q := A_iconst (ab_io ci184 (by decide +kernel)) ic_1
theorem k184_176 : At 184 176 [a0, a1, a2, a3, a4, a5, a6, a7, a8, a9] (.int x :: st) I J Q ↔ At 184 178 [a0, a1, a2, a3, a4, a5, a6, a7, ab_nv a8, some (.int x)] st I J Q := A_istore (q := 9) (ab_io ci184 (by decide +kernel)) (Nat.le_of_ble_eq_true rfl) rfl
theorem k184_178 : At 184 178 [a0, a1, a2, a3, a4, a5, a6, a7, a8, some (.int x)] st I J Q ↔ At 184 180 [a0, a1, a2, a3, a4, a5, a6, a7, a8, some (.int x)] (.int x :: st) I J Q := A_iload (q := 9) (ab_io ci184 (by decide +kernel)) rfl
theorem k184_180 : At 184 180 ls (.int x :: st) I J Q ↔ if x = 0 then At 184 217 ls st I J Q else At 184 183 ls st I J Q := A_ifCond_eq (o := 37) (ab_io ci184 (by decide +kernel)) (by decide)
theorem k184_183 : At 184 183 [a0, a1, a2, a3, a4, some (.long u), a6, a7, a8, a9] st I J Q ↔ At 184 185 [a0, a1, a2, a3, a4, some (.long u), a6, a7, a8, a9] (.long u :: st) I J Q := A_lload (q := 5) (ab_io ci184 (by decide +kernel)) rfl
theorem k184_185 : At 184 185 ls st I J Q ↔ At 184 186 ls (.long 1 :: st) I J Q := A_lconst (n := 1) (ab_io ci184 (by decide +kernel)) rfl
theorem k184_186 : At 184 186 ls (.long u1 :: .long u :: st) I J Q ↔ At 184 187 ls (.long (u + u1) :: st) I J Q := A_ladd (ab_io ci184 (by decide +kernel))
theorem k184_187 : At 184 187 [a0, a1, a2, a3, a4, a5, a6, a7, a8, a9] (.long u :: st) I J Q ↔ At 184 189 [a0, a1, a2, a3, ab_nv a4, some (.long u), none, a7, a8, a9] st I J Q := A_lstore (q := 5) (ab_io ci184 (by decide +kernel)) (Nat.le_of_ble_eq_true rfl) rfl
theorem k184_189 : At 184 189 [a0, a1, a2, a3, a4, a5, a6, some (.long u), a8, a9] st I J Q ↔ At 184 191 [a0, a1, a2, a3, a4, a5, a6, some (.long u), a8, a9] (.long u :: st) I J Q := A_lload (q := 7) (ab_io ci184 (by decide +kernel)) rfl
theorem k184_191 : At 184 191 [some (.ref r), a1, a2, a3, a4, a5, a6, a7, a8, a9] st I J Q ↔ At 184 192 [some (.ref r), a1, a2, a3, a4, a5, a6, a7, a8, a9] (.ref r :: st) I J Q := A_aload_n (q := 0) (ab_io ci184 (by decide +kernel)) rfl
theorem k184_192 : At 184 192 ls [.ref 49, .long qu0] I J Q ↔ Cal 182 [.ref 49] I J (fun v I' J' => At 184 195 ls (v.toList ++ [.long qu0]) I' J' Q) := A_cal (kd := 0) (j := 260) (na := 1) (ea := 1) (rk := 49) (by decide +kernel) rfl rfl rfl (Or.inr rfl) (Nat.le_of_ble_eq_true rfl)
theorem k184_195 : At 184 195 [a0, a1, a2, a3, some (.int x), a5, a6, a7, a8, a9] st I J Q ↔ At 184 197 [a0, a1, a2, a3, some (.int x), a5, a6, a7, a8, a9] (.int x :: st) I J Q := A_iload (q := 4) (ab_io ci184 (by decide +kernel)) rfl
theorem k184_197 : At 184 197 ls (.int x1 :: .int x :: st) I J Q ↔ if x < x1 then At 184 204 ls st I J Q else At 184 200 ls st I J Q := A_if_icmp_lt (o := 7) (ab_io ci184 (by decide +kernel)) (by decide)
theorem k184_200 : At 184 200 ls st I J Q ↔ At 184 201 ls (.long 1 :: st) I J Q := A_lconst (n := 1) (ab_io ci184 (by decide +kernel)) rfl
theorem k184_201 : At 184 201 ls st I J Q ↔ At 184 205 ls st I J Q := A_goto (o := 4) (ab_io ci184 (by decide +kernel)) (by decide)
theorem k184_204 : At 184 204 ls st I J Q ↔ At 184 205 ls (.long 0 :: st) I J Q := A_lconst (n := 0) (ab_io ci184 (by decide +kernel)) rfl
theorem k184_205 : At 184 205 ls (.long u1 :: .long u :: st) I J Q ↔ At 184 206 ls (.long (u + u1) :: st) I J Q := A_ladd (ab_io ci184 (by decide +kernel))
theorem k184_206 : At 184 206 [a0, a1, a2, a3, a4, a5, a6, a7, a8, a9] (.long u :: st) I J Q ↔ At 184 208 [a0, a1, a2, a3, a4, a5, ab_nv a6, some (.long u), none, a9] st I J Q := A_lstore (q := 7) (ab_io ci184 (by decide +kernel)) (Nat.le_of_ble_eq_true rfl) rfl
theorem k184_208 : At 184 208 [some (.ref r), a1, a2, a3, a4, a5, a6, a7, a8, a9] st I J Q ↔ At 184 209 [some (.ref r), a1, a2, a3, a4, a5, a6, a7, a8, a9] (.ref r :: st) I J Q := A_aload_n (q := 0) (ab_io ci184 (by decide +kernel)) rfl
theorem k184_209 : At 184 209 ls [.ref 49] I J Q ↔ Cal 183 [.ref 49] I J (fun v I' J' => At 184 212 ls (v.toList ++ []) I' J' Q) := A_cal (kd := 0) (j := 263) (na := 1) (ea := 1) (rk := 49) (by decide +kernel) rfl rfl rfl (Or.inr rfl) (Nat.le_of_ble_eq_true rfl)
theorem k184_212 : At 184 212 [a0, a1, a2, a3, a4, a5, a6, a7, a8, a9] (.int x :: st) I J Q ↔ At 184 214 [a0, a1, a2, a3, a4, a5, a6, a7, ab_nv a8, some (.int x)] st I J Q := A_istore (q := 9) (ab_io ci184 (by decide +kernel)) (Nat.le_of_ble_eq_true rfl) rfl
theorem k184_214 : At 184 214 ls st I J Q ↔ At 184 178 ls st I J Q := A_goto (o := (-36)) (ab_io ci184 (by decide +kernel)) (by decide)
theorem k184_217 : At 184 217 ls st I J Q ↔ At 184 220 ls (.long 1000000 :: st) I J Q := A_ldc2_w (j := 266) (q := 1195) (ab_io ci184 (by decide +kernel)) ow184 (by decide +kernel)
theorem k184_220 : At 184 220 [a0, a1, a2, a3, a4, a5, a6, some (.long u), a8, a9] st I J Q ↔ At 184 222 [a0, a1, a2, a3, a4, a5, a6, some (.long u), a8, a9] (.long u :: st) I J Q := A_lload (q := 7) (ab_io ci184 (by decide +kernel)) rfl
theorem k184_222 : At 184 222 ls (.long u1 :: .long u :: st) I J Q ↔ At 184 223 ls (.long (u * u1) :: st) I J Q := A_lmul (ab_io ci184 (by decide +kernel))
theorem k184_223 : At 184 223 [a0, a1, a2, a3, a4, some (.long u), a6, a7, a8, a9] st I J Q ↔ At 184 225 [a0, a1, a2, a3, a4, some (.long u), a6, a7, a8, a9] (.long u :: st) I J Q := A_lload (q := 5) (ab_io ci184 (by decide +kernel)) rfl
theorem k184_225 : At 184 225 ls (.long u1 :: .long u :: st) I J Q ↔ ¬ u1 = 0 ∧ At 184 226 ls (.long (u / u1) :: st) I J Q := A_ldiv (ab_io ci184 (by decide +kernel))
theorem k184_226 : At 184 226 ls (.long u :: st) I J Q ↔ At 184 227 ls (.int u.toInt32 :: st) I J Q := A_l2i (ab_io ci184 (by decide +kernel))
theorem k184_227 : At 184 227 ls [.int x] I J Q ↔ Q (some (.int x)) I J := A_iret (ab_io ci184 (by decide +kernel)) rt184
theorem k185_0 : At 185 0 ls st I J Q ↔ At 185 1 ls (.int (-1) :: st) I J Q := A_iconst (ab_io ci185 (by decide +kernel)) ic_m1
theorem k185_1 : At 185 1 [a0, a1, a2, a3, a4, a5, a6, a7, a8, a9, a10] (.int x :: st) I J Q ↔ At 185 2 [ab_nv a0, some (.int x), a2, a3, a4, a5, a6, a7, a8, a9, a10] st I J Q := A_istore_n (q := 1) (ab_io ci185 (by decide +kernel)) (Nat.le_of_ble_eq_true rfl) rfl
theorem k185_2 : At 185 2 ls st I J Q ↔ At 185 3 ls (.long 0 :: st) I J Q := A_lconst (n := 0) (ab_io ci185 (by decide +kernel)) rfl
theorem k185_3 : At 185 3 [a0, a1, a2, a3, a4, a5, a6, a7, a8, a9, a10] (.long u :: st) I J Q ↔ At 185 4 [a0, ab_nv a1, some (.long u), none, a4, a5, a6, a7, a8, a9, a10] st I J Q := A_lstore_n (q := 2) (ab_io ci185 (by decide +kernel)) (Nat.le_of_ble_eq_true rfl) rfl
theorem k185_4 : At 185 4 ls st I J Q ↔ At 185 5 ls (.long 1 :: st) I J Q := A_lconst (n := 1) (ab_io ci185 (by decide +kernel)) rfl
theorem k185_5 : At 185 5 [a0, a1, a2, a3, a4, a5, a6, a7, a8, a9, a10] (.long u :: st) I J Q ↔ At 185 7 [a0, a1, a2, ab_nv a3, some (.long u), none, a6, a7, a8, a9, a10] st I J Q := A_lstore (q := 4) (ab_io ci185 (by decide +kernel)) (Nat.le_of_ble_eq_true rfl) rfl
theorem k185_7 : At 185 7 ls st I J Q ↔ At 185 8 ls (.int (nI 0) :: st) I J Q := A_iconst (ab_io ci185 (by decide +kernel)) ic_0
theorem k185_8 : At 185 8 [a0, a1, a2, a3, a4, a5, a6, a7, a8, a9, a10] (.int x :: st) I J Q ↔ At 185 10 [a0, a1, a2, a3, a4, ab_nv a5, some (.int x), a7, a8, a9, a10] st I J Q := A_istore (q := 6) (ab_io ci185 (by decide +kernel)) (Nat.le_of_ble_eq_true rfl) rfl
theorem k185_10 : At 185 10 [a0, a1, a2, a3, a4, a5, some (.int x), a7, a8, a9, a10] st I J Q ↔ At 185 12 [a0, a1, a2, a3, a4, a5, some (.int x), a7, a8, a9, a10] (.int x :: st) I J Q := A_iload (q := 6) (ab_io ci185 (by decide +kernel)) rfl
theorem k185_12 : At 185 12 ls st I J Q ↔ At 185 14 ls (.int (nI 48) :: st) I J Q := A_bipush (ab_io ci185 (by decide +kernel)) bc_48
theorem k185_14 : At 185 14 ls (.int x1 :: .int x :: st) I J Q ↔ if x1 ≤ x then At 185 125 ls st I J Q else At 185 17 ls st I J Q := A_if_icmp_ge (o := 111) (ab_io ci185 (by decide +kernel)) (by decide)
theorem k185_17 : At 185 17 [some (.ref r), a1, a2, a3, a4, a5, a6, a7, a8, a9, a10] st I J Q ↔ At 185 18 [some (.ref r), a1, a2, a3, a4, a5, a6, a7, a8, a9, a10] (.ref r :: st) I J Q := A_aload_n (q := 0) (ab_io ci185 (by decide +kernel)) rfl
theorem k185_18 : At 185 18 ls (.ref 49 :: st) I J Q ↔ At 185 21 ls (.ref 55 :: st) I J Q := A_getR (ab_io ci185 (by decide +kernel)) ow185 fq8_29_49
theorem k185_21 : At 185 21 [a0, a1, a2, a3, a4, a5, some (.int x), a7, a8, a9, a10] st I J Q ↔ At 185 23 [a0, a1, a2, a3, a4, a5, some (.int x), a7, a8, a9, a10] (.int x :: st) I J Q := A_iload (q := 6) (ab_io ci185 (by decide +kernel)) rfl
theorem k185_23 : At 185 23 ls (.int x :: .ref r :: st) I J Q ↔ ((ab_ly r).1 = 1 ∧ r < 75 ∧ 0 ≤ x.toInt ∧ x.toInt < (ab_ly r).2) ∧ At 185 24 ls (.int (I r x.toNatClampNeg) :: st) I J Q := A_iaload (ab_io ci185 (by decide +kernel))
theorem k185_24 : At 185 24 ls st I J Q ↔ At 185 25 ls (.int (-1) :: st) I J Q := A_iconst (ab_io ci185 (by decide +kernel)) ic_m1
theorem k185_25 : At 185 25 ls (.int x1 :: .int x :: st) I J Q ↔ if x = x1 then At 185 119 ls st I J Q else At 185 28 ls st I J Q := A_if_icmp_eq (o := 94) (ab_io ci185 (by decide +kernel)) (by decide)
theorem k185_28 : At 185 28 [some (.ref r), a1, a2, a3, a4, a5, a6, a7, a8, a9, a10] st I J Q ↔ At 185 29 [some (.ref r), a1, a2, a3, a4, a5, a6, a7, a8, a9, a10] (.ref r :: st) I J Q := A_aload_n (q := 0) (ab_io ci185 (by decide +kernel)) rfl
theorem k185_29 : At 185 29 [some (.ref r), a1, a2, a3, a4, a5, a6, a7, a8, a9, a10] st I J Q ↔ At 185 30 [some (.ref r), a1, a2, a3, a4, a5, a6, a7, a8, a9, a10] (.ref r :: st) I J Q := A_aload_n (q := 0) (ab_io ci185 (by decide +kernel)) rfl
theorem k185_30 : At 185 30 ls (.ref 49 :: st) I J Q ↔ At 185 33 ls (.ref 57 :: st) I J Q := A_getR (ab_io ci185 (by decide +kernel)) ow185 fq8_35_49
theorem k185_33 : At 185 33 [a0, a1, a2, a3, a4, a5, some (.int x), a7, a8, a9, a10] st I J Q ↔ At 185 35 [a0, a1, a2, a3, a4, a5, some (.int x), a7, a8, a9, a10] (.int x :: st) I J Q := A_iload (q := 6) (ab_io ci185 (by decide +kernel)) rfl
theorem k185_35 : At 185 35 ls st I J Q ↔ At 185 36 ls (.int (nI 4) :: st) I J Q := A_iconst (ab_io ci185 (by decide +kernel)) ic_4
theorem k185_36 : At 185 36 ls (.int x1 :: .int x :: st) I J Q ↔ ¬ x1 = 0 ∧ At 185 37 ls (.int (x / x1) :: st) I J Q := A_idiv (ab_io ci185 (by decide +kernel))
theorem k185_37 : At 185 37 ls (.int x :: .ref r :: st) I J Q ↔ ((ab_ly r).1 = 1 ∧ r < 75 ∧ 0 ≤ x.toInt ∧ x.toInt < (ab_ly r).2) ∧ At 185 38 ls (.int (I r x.toNatClampNeg) :: st) I J Q := A_iaload (ab_io ci185 (by decide +kernel))
theorem k185_38 : At 185 38 ls [.int p0, .ref 49] I J Q ↔ Cal 146 [.ref 49, .int p0] I J (fun v I' J' => At 185 41 ls (v.toList ++ []) I' J' Q) := A_cal (kd := 0) (j := 166) (na := 2) (ea := 2) (rk := 49) (by decide +kernel) rfl rfl rfl (Or.inr rfl) (Nat.le_of_ble_eq_true rfl)
theorem k185_41 : At 185 41 [some (.ref r), a1, a2, a3, a4, a5, a6, a7, a8, a9, a10] st I J Q ↔ At 185 42 [some (.ref r), a1, a2, a3, a4, a5, a6, a7, a8, a9, a10] (.ref r :: st) I J Q := A_aload_n (q := 0) (ab_io ci185 (by decide +kernel)) rfl
theorem k185_42 : At 185 42 [a0, a1, a2, a3, a4, a5, some (.int x), a7, a8, a9, a10] st I J Q ↔ At 185 44 [a0, a1, a2, a3, a4, a5, some (.int x), a7, a8, a9, a10] (.int x :: st) I J Q := A_iload (q := 6) (ab_io ci185 (by decide +kernel)) rfl
theorem k185_44 : At 185 44 ls st I J Q ↔ At 185 45 ls (.int (nI 4) :: st) I J Q := A_iconst (ab_io ci185 (by decide +kernel)) ic_4
theorem k185_45 : At 185 45 ls (.int x1 :: .int x :: st) I J Q ↔ ¬ x1 = 0 ∧ At 185 46 ls (.int (x / x1) :: st) I J Q := A_idiv (ab_io ci185 (by decide +kernel))
theorem k185_46 : At 185 46 [a0, a1, a2, a3, a4, a5, some (.int x), a7, a8, a9, a10] st I J Q ↔ At 185 48 [a0, a1, a2, a3, a4, a5, some (.int x), a7, a8, a9, a10] (.int x :: st) I J Q := A_iload (q := 6) (ab_io ci185 (by decide +kernel)) rfl
theorem k185_48 : At 185 48 ls st I J Q ↔ At 185 49 ls (.int (nI 4) :: st) I J Q := A_iconst (ab_io ci185 (by decide +kernel)) ic_4
theorem k185_49 : At 185 49 ls (.int x1 :: .int x :: st) I J Q ↔ ¬ x1 = 0 ∧ At 185 50 ls (.int (x - x / x1 * x1) :: st) I J Q := A_irem (ab_io ci185 (by decide +kernel))
theorem k185_50 : At 185 50 ls [.int p0, .int p1, .ref 49] I J Q ↔ Cal 148 [.ref 49, .int p1, .int p0] I J (fun v I' J' => At 185 53 ls (v.toList ++ []) I' J' Q) := A_cal (kd := 0) (j := 180) (na := 3) (ea := 3) (rk := 49) (by decide +kernel) rfl rfl rfl (Or.inr rfl) (Nat.le_of_ble_eq_true rfl)
theorem k185_53 : At 185 53 ls [.long pu0] I J Q ↔ Cal 128 [.long pu0] I J (fun v I' J' => At 185 56 ls (v.toList ++ []) I' J' Q) := A_cal (kd := 1) (j := 93) (na := 1) (ea := 2) (rk := 0) (by decide +kernel) rfl rfl rfl (Or.inl rfl) (Nat.le_of_ble_eq_true rfl)
theorem k185_56 : At 185 56 [some (.ref r), a1, a2, a3, a4, a5, a6, a7, a8, a9, a10] st I J Q ↔ At 185 57 [some (.ref r), a1, a2, a3, a4, a5, a6, a7, a8, a9, a10] (.ref r :: st) I J Q := A_aload_n (q := 0) (ab_io ci185 (by decide +kernel)) rfl
theorem k185_57 : At 185 57 ls (.ref 49 :: st) I J Q ↔ At 185 60 ls (.long (J 49 17) :: st) I J Q := A_getJ (ab_io ci185 (by decide +kernel)) ow185 fq8_159_49
theorem k185_60 : At 185 60 ls st I J Q ↔ At 185 61 ls (.int (nI 0) :: st) I J Q := A_iconst (ab_io ci185 (by decide +kernel)) ic_0
theorem k185_61 : At 185 61 ls [.int p0, .long pu1, .long pu2] I J Q ↔ Cal 130 [.long pu2, .long pu1, .int p0] I J (fun v I' J' => At 185 64 ls (v.toList ++ []) I' J' Q) := A_cal (kd := 1) (j := 169) (na := 3) (ea := 5) (rk := 0) (by decide +kernel) rfl rfl rfl (Or.inl rfl) (Nat.le_of_ble_eq_true rfl)
theorem k185_64 : At 185 64 [a0, a1, a2, a3, a4, a5, a6, a7, a8, a9, a10] (.long u :: st) I J Q ↔ At 185 66 [a0, a1, a2, a3, a4, a5, ab_nv a6, some (.long u), none, a9, a10] st I J Q := A_lstore (q := 7) (ab_io ci185 (by decide +kernel)) (Nat.le_of_ble_eq_true rfl) rfl
theorem k185_66 : At 185 66 [some (.ref r), a1, a2, a3, a4, a5, a6, a7, a8, a9, a10] st I J Q ↔ At 185 67 [some (.ref r), a1, a2, a3, a4, a5, a6, a7, a8, a9, a10] (.ref r :: st) I J Q := A_aload_n (q := 0) (ab_io ci185 (by decide +kernel)) rfl
theorem k185_67 : At 185 67 [a0, a1, a2, a3, a4, a5, some (.int x), a7, a8, a9, a10] st I J Q ↔ At 185 69 [a0, a1, a2, a3, a4, a5, some (.int x), a7, a8, a9, a10] (.int x :: st) I J Q := A_iload (q := 6) (ab_io ci185 (by decide +kernel)) rfl
theorem k185_69 : At 185 69 ls st I J Q ↔ At 185 70 ls (.int (nI 4) :: st) I J Q := A_iconst (ab_io ci185 (by decide +kernel)) ic_4
theorem k185_70 : At 185 70 ls (.int x1 :: .int x :: st) I J Q ↔ ¬ x1 = 0 ∧ At 185 71 ls (.int (x / x1) :: st) I J Q := A_idiv (ab_io ci185 (by decide +kernel))
theorem k185_71 : At 185 71 [a0, a1, a2, a3, a4, a5, some (.int x), a7, a8, a9, a10] st I J Q ↔ At 185 73 [a0, a1, a2, a3, a4, a5, some (.int x), a7, a8, a9, a10] (.int x :: st) I J Q := A_iload (q := 6) (ab_io ci185 (by decide +kernel)) rfl
theorem k185_73 : At 185 73 ls st I J Q ↔ At 185 74 ls (.int (nI 4) :: st) I J Q := A_iconst (ab_io ci185 (by decide +kernel)) ic_4
theorem k185_74 : At 185 74 ls (.int x1 :: .int x :: st) I J Q ↔ ¬ x1 = 0 ∧ At 185 75 ls (.int (x - x / x1 * x1) :: st) I J Q := A_irem (ab_io ci185 (by decide +kernel))
theorem k185_75 : At 185 75 ls [.int p0, .int p1, .ref 49] I J Q ↔ Cal 148 [.ref 49, .int p1, .int p0] I J (fun v I' J' => At 185 78 ls (v.toList ++ []) I' J' Q) := A_cal (kd := 0) (j := 180) (na := 3) (ea := 3) (rk := 49) (by decide +kernel) rfl rfl rfl (Or.inr rfl) (Nat.le_of_ble_eq_true rfl)
theorem k185_78 : At 185 78 ls [.long pu0] I J Q ↔ Cal 128 [.long pu0] I J (fun v I' J' => At 185 81 ls (v.toList ++ []) I' J' Q) := A_cal (kd := 1) (j := 93) (na := 1) (ea := 2) (rk := 0) (by decide +kernel) rfl rfl rfl (Or.inl rfl) (Nat.le_of_ble_eq_true rfl)
theorem k185_81 : At 185 81 [some (.ref r), a1, a2, a3, a4, a5, a6, a7, a8, a9, a10] st I J Q ↔ At 185 82 [some (.ref r), a1, a2, a3, a4, a5, a6, a7, a8, a9, a10] (.ref r :: st) I J Q := A_aload_n (q := 0) (ab_io ci185 (by decide +kernel)) rfl
theorem k185_82 : At 185 82 ls (.ref 49 :: st) I J Q ↔ At 185 85 ls (.long (J 49 17) :: st) I J Q := A_getJ (ab_io ci185 (by decide +kernel)) ow185 fq8_159_49
theorem k185_85 : At 185 85 ls st I J Q ↔ At 185 86 ls (.int (nI 1) :: st) I J Q := A_iconst (ab_io ci185 (by decide +kernel)) ic_1
theorem k185_86 : At 185 86 ls [.int p0, .long pu1, .long pu2] I J Q ↔ Cal 130 [.long pu2, .long pu1, .int p0] I J (fun v I' J' => At 185 89 ls (v.toList ++ []) I' J' Q) := A_cal (kd := 1) (j := 169) (na := 3) (ea := 5) (rk := 0) (by decide +kernel) rfl rfl rfl (Or.inl rfl) (Nat.le_of_ble_eq_true rfl)
theorem k185_89 : At 185 89 [a0, a1, a2, a3, a4, a5, a6, a7, a8, a9, a10] (.long u :: st) I J Q ↔ At 185 91 [a0, a1, a2, a3, a4, a5, a6, a7, ab_nv a8, some (.long u), none] st I J Q := A_lstore (q := 9) (ab_io ci185 (by decide +kernel)) (Nat.le_of_ble_eq_true rfl) rfl
theorem k185_91 : At 185 91 [a0, some (.int x), a2, a3, a4, a5, a6, a7, a8, a9, a10] st I J Q ↔ At 185 92 [a0, some (.int x), a2, a3, a4, a5, a6, a7, a8, a9, a10] (.int x :: st) I J Q := A_iload_n (q := 1) (ab_io ci185 (by decide +kernel)) rfl
theorem k185_92 : At 185 92 ls st I J Q ↔ At 185 93 ls (.int (-1) :: st) I J Q := A_iconst (ab_io ci185 (by decide +kernel)) ic_m1
theorem k185_93 : At 185 93 ls (.int x1 :: .int x :: st) I J Q ↔ if x = x1 then At 185 109 ls st I J Q else At 185 96 ls st I J Q := A_if_icmp_eq (o := 16) (ab_io ci185 (by decide +kernel)) (by decide)
theorem k185_96 : At 185 96 [a0, a1, a2, a3, a4, a5, a6, some (.long u), a8, a9, a10] st I J Q ↔ At 185 98 [a0, a1, a2, a3, a4, a5, a6, some (.long u), a8, a9, a10] (.long u :: st) I J Q := A_lload (q := 7) (ab_io ci185 (by decide +kernel)) rfl
theorem k185_98 : At 185 98 [a0, a1, a2, a3, some (.long u), a5, a6, a7, a8, a9, a10] st I J Q ↔ At 185 100 [a0, a1, a2, a3, some (.long u), a5, a6, a7, a8, a9, a10] (.long u :: st) I J Q := A_lload (q := 4) (ab_io ci185 (by decide +kernel)) rfl
theorem k185_100 : At 185 100 ls (.long u1 :: .long u :: st) I J Q ↔ At 185 101 ls (.long (u * u1) :: st) I J Q := A_lmul (ab_io ci185 (by decide +kernel))
theorem k185_101 : At 185 101 [a0, a1, some (.long u), a3, a4, a5, a6, a7, a8, a9, a10] st I J Q ↔ At 185 102 [a0, a1, some (.long u), a3, a4, a5, a6, a7, a8, a9, a10] (.long u :: st) I J Q := A_lload_n (q := 2) (ab_io ci185 (by decide +kernel)) rfl
theorem k185_102 : At 185 102 [a0, a1, a2, a3, a4, a5, a6, a7, a8, some (.long u), a10] st I J Q ↔ At 185 104 [a0, a1, a2, a3, a4, a5, a6, a7, a8, some (.long u), a10] (.long u :: st) I J Q := A_lload (q := 9) (ab_io ci185 (by decide +kernel)) rfl
theorem k185_104 : At 185 104 ls (.long u1 :: .long u :: st) I J Q ↔ At 185 105 ls (.long (u * u1) :: st) I J Q := A_lmul (ab_io ci185 (by decide +kernel))
theorem k185_105 : At 185 105 ls (.long u1 :: .long u :: st) I J Q ↔ At 185 106 ls (.int (lg_cmp u u1) :: st) I J Q := A_lcmp (ab_io ci185 (by decide +kernel))
theorem k185_106 : At 185 106 ls (.int x :: st) I J Q ↔ if x ≤ 0 then At 185 119 ls st I J Q else At 185 109 ls st I J Q := A_ifCond_le (o := 13) (ab_io ci185 (by decide +kernel)) (by decide)
theorem k185_109 : At 185 109 [a0, a1, a2, a3, a4, a5, some (.int x), a7, a8, a9, a10] st I J Q ↔ At 185 111 [a0, a1, a2, a3, a4, a5, some (.int x), a7, a8, a9, a10] (.int x :: st) I J Q := A_iload (q := 6) (ab_io ci185 (by decide +kernel)) rfl
theorem k185_111 : At 185 111 [a0, a1, a2, a3, a4, a5, a6, a7, a8, a9, a10] (.int x :: st) I J Q ↔ At 185 112 [ab_nv a0, some (.int x), a2, a3, a4, a5, a6, a7, a8, a9, a10] st I J Q := A_istore_n (q := 1) (ab_io ci185 (by decide +kernel)) (Nat.le_of_ble_eq_true rfl) rfl
theorem k185_112 : At 185 112 [a0, a1, a2, a3, a4, a5, a6, some (.long u), a8, a9, a10] st I J Q ↔ At 185 114 [a0, a1, a2, a3, a4, a5, a6, some (.long u), a8, a9, a10] (.long u :: st) I J Q := A_lload (q := 7) (ab_io ci185 (by decide +kernel)) rfl
theorem k185_114 : At 185 114 [a0, a1, a2, a3, a4, a5, a6, a7, a8, a9, a10] (.long u :: st) I J Q ↔ At 185 115 [a0, ab_nv a1, some (.long u), none, a4, a5, a6, a7, a8, a9, a10] st I J Q := A_lstore_n (q := 2) (ab_io ci185 (by decide +kernel)) (Nat.le_of_ble_eq_true rfl) rfl
theorem k185_115 : At 185 115 [a0, a1, a2, a3, a4, a5, a6, a7, a8, some (.long u), a10] st I J Q ↔ At 185 117 [a0, a1, a2, a3, a4, a5, a6, a7, a8, some (.long u), a10] (.long u :: st) I J Q := A_lload (q := 9) (ab_io ci185 (by decide +kernel)) rfl
theorem k185_117 : At 185 117 [a0, a1, a2, a3, a4, a5, a6, a7, a8, a9, a10] (.long u :: st) I J Q ↔ At 185 119 [a0, a1, a2, ab_nv a3, some (.long u), none, a6, a7, a8, a9, a10] st I J Q := A_lstore (q := 4) (ab_io ci185 (by decide +kernel)) (Nat.le_of_ble_eq_true rfl) rfl
theorem k185_119 : At 185 119 [a0, a1, a2, a3, a4, a5, some (.int x), a7, a8, a9, a10] st I J Q ↔ At 185 122 [a0, a1, a2, a3, a4, ab_nv a5, some (.int (x + (nI 1))), a7, a8, a9, a10] st I J Q := A_iinc (q := 6) (ab_io ci185 (by decide +kernel)) ic_1 (Nat.le_of_ble_eq_true rfl) rfl rfl
theorem k185_122 : At 185 122 ls st I J Q ↔ At 185 10 ls st I J Q := A_goto (o := (-112)) (ab_io ci185 (by decide +kernel)) (by decide)
theorem k185_125 : At 185 125 [a0, some (.int x), a2, a3, a4, a5, a6, a7, a8, a9, a10] st I J Q ↔ At 185 126 [a0, some (.int x), a2, a3, a4, a5, a6, a7, a8, a9, a10] (.int x :: st) I J Q := A_iload_n (q := 1) (ab_io ci185 (by decide +kernel)) rfl
theorem k185_126 : At 185 126 ls [.int x] I J Q ↔ Q (some (.int x)) I J := A_iret (ab_io ci185 (by decide +kernel)) rt185
theorem k186_0 : At 186 0 [some (.ref r)] st I J Q ↔ At 186 1 [some (.ref r)] (.ref r :: st) I J Q := A_aload_n (q := 0) (ab_io ci186 (by decide +kernel)) rfl
theorem k186_1 : At 186 1 ls [.ref 49] I J Q ↔ Cal 138 [.ref 49] I J (fun v I' J' => At 186 4 ls (v.toList ++ []) I' J' Q) := A_cal (kd := 0) (j := 133) (na := 1) (ea := 1) (rk := 49) (by decide +kernel) rfl rfl rfl (Or.inr rfl) (Nat.le_of_ble_eq_true rfl)
theorem k186_4 : At 186 4 [some (.ref r)] st I J Q ↔ At 186 5 [some (.ref r)] (.ref r :: st) I J Q := A_aload_n (q := 0) (ab_io ci186 (by decide +kernel)) rfl
theorem k186_5 : At 186 5 ls [.ref 49] I J Q ↔ Cal 185 [.ref 49] I J (fun v I' J' => At 186 8 ls (v.toList ++ []) I' J' Q) := A_cal (kd := 0) (j := 268) (na := 1) (ea := 1) (rk := 49) (by decide +kernel) rfl rfl rfl (Or.inr rfl) (Nat.le_of_ble_eq_true rfl)
theorem k186_8 : At 186 8 ls [.int x] I J Q ↔ Q (some (.int x)) I J := A_iret (ab_io ci186 (by decide +kernel)) rt186
theorem k187_0 : At 187 0 [a0, some (.int x), a2, a3, a4, a5, a6, a7, a8, a9, a10, a11, a12, a13, a14, a15, a16, a17, a18, a19] st I J Q ↔ At 187 1 [a0, some (.int x), a2, a3, a4, a5, a6, a7, a8, a9, a10, a11, a12, a13, a14, a15, a16, a17, a18, a19] (.int x :: st) I J Q := A_iload_n (q := 1) (ab_io ci187 (by decide +kernel)) rfl
theorem k187_1 : At 187 1 ls [.int p0] I J Q ↔ Cal 131 [.int p0] I J (fun v I' J' => At 187 4 ls (v.toList ++ []) I' J' Q) := A_cal (kd := 1) (j := 108) (na := 1) (ea := 1) (rk := 0) (by decide +kernel) rfl rfl rfl (Or.inl rfl) (Nat.le_of_ble_eq_true rfl)
theorem k187_4 : At 187 4 ls (.int x :: st) I J Q ↔ if x = 0 then At 187 23 ls st I J Q else At 187 7 ls st I J Q := A_ifCond_eq (o := 19) (ab_io ci187 (by decide +kernel)) (by decide)
theorem k187_7 : At 187 7 [a0, a1, some (.int x), a3, a4, a5, a6, a7, a8, a9, a10, a11, a12, a13, a14, a15, a16, a17, a18, a19] st I J Q ↔ At 187 8 [a0, a1, some (.int x), a3, a4, a5, a6, a7, a8, a9, a10, a11, a12, a13, a14, a15, a16, a17, a18, a19] (.int x :: st) I J Q := A_iload_n (q := 2) (ab_io ci187 (by decide +kernel)) rfl
theorem k187_8 : At 187 8 ls [.int p0] I J Q ↔ Cal 132 [.int p0] I J (fun v I' J' => At 187 11 ls (v.toList ++ []) I' J' Q) := A_cal (kd := 1) (j := 112) (na := 1) (ea := 1) (rk := 0) (by decide +kernel) rfl rfl rfl (Or.inl rfl) (Nat.le_of_ble_eq_true rfl)
theorem k187_11 : At 187 11 ls (.int x :: st) I J Q ↔ if x = 0 then At 187 23 ls st I J Q else At 187 14 ls st I J Q := A_ifCond_eq (o := 12) (ab_io ci187 (by decide +kernel)) (by decide)
theorem k187_14 : At 187 14 [a0, a1, a2, some (.int x), a4, a5, a6, a7, a8, a9, a10, a11, a12, a13, a14, a15, a16, a17, a18, a19] st I J Q ↔ At 187 15 [a0, a1, a2, some (.int x), a4, a5, a6, a7, a8, a9, a10, a11, a12, a13, a14, a15, a16, a17, a18, a19] (.int x :: st) I J Q := A_iload_n (q := 3) (ab_io ci187 (by decide +kernel)) rfl
theorem k187_15 : At 187 15 ls st I J Q ↔ At 187 16 ls (.int (nI 0) :: st) I J Q := A_iconst (ab_io ci187 (by decide +kernel)) ic_0
theorem k187_16 : At 187 16 ls st I J Q ↔ At 187 17 ls (.int (nI 1) :: st) I J Q := A_iconst (ab_io ci187 (by decide +kernel)) ic_1
theorem k187_17 : At 187 17 ls [.int p0, .int p1, .int p2] I J Q ↔ Cal 126 [.int p2, .int p1, .int p0] I J (fun v I' J' => At 187 20 ls (v.toList ++ []) I' J' Q) := A_cal (kd := 1) (j := 101) (na := 3) (ea := 3) (rk := 0) (by decide +kernel) rfl rfl rfl (Or.inl rfl) (Nat.le_of_ble_eq_true rfl)
theorem k187_20 : At 187 20 ls (.int x :: st) I J Q ↔ if ¬ x = 0 then At 187 29 ls st I J Q else At 187 23 ls st I J Q := A_ifCond_ne (o := 9) (ab_io ci187 (by decide +kernel)) (by decide)
theorem k187_23 : At 187 23 ls st I J Q ↔ At 187 25 ls (.int (-2) :: st) I J Q := A_bipush (ab_io ci187 (by decide +kernel)) bc_m2
theorem k187_25 : At 187 25 ls [.int p0] I J Q ↔ Cal 127 [.int p0] I J (fun v I' J' => At 187 28 ls (v.toList ++ []) I' J' Q) := A_cal (kd := 1) (j := 162) (na := 1) (ea := 1) (rk := 0) (by decide +kernel) rfl rfl rfl (Or.inl rfl) (Nat.le_of_ble_eq_true rfl)
theorem k187_28 : At 187 28 ls [.long u] I J Q ↔ Q (some (.long u)) I J := A_lret (ab_io ci187 (by decide +kernel)) rt187
theorem k187_29 : At 187 29 [some (.ref r), a1, a2, a3, a4, a5, a6, a7, a8, a9, a10, a11, a12, a13, a14, a15, a16, a17, a18, a19] st I J Q ↔ At 187 30 [some (.ref r), a1, a2, a3, a4, a5, a6, a7, a8, a9, a10, a11, a12, a13, a14, a15, a16, a17, a18, a19] (.ref r :: st) I J Q := A_aload_n (q := 0) (ab_io ci187 (by decide +kernel)) rfl
theorem k187_30 : At 187 30 ls [.ref 49] I J Q ↔ Cal 138 [.ref 49] I J (fun v I' J' => At 187 33 ls (v.toList ++ []) I' J' Q) := A_cal (kd := 0) (j := 133) (na := 1) (ea := 1) (rk := 49) (by decide +kernel) rfl rfl rfl (Or.inr rfl) (Nat.le_of_ble_eq_true rfl)
theorem k187_33 : At 187 33 [some (.ref r), a1, a2, a3, a4, a5, a6, a7, a8, a9, a10, a11, a12, a13, a14, a15, a16, a17, a18, a19] st I J Q ↔ At 187 34 [some (.ref r), a1, a2, a3, a4, a5, a6, a7, a8, a9, a10, a11, a12, a13, a14, a15, a16, a17, a18, a19] (.ref r :: st) I J Q := A_aload_n (q := 0) (ab_io ci187 (by decide +kernel)) rfl
theorem k187_34 : At 187 34 [a0, some (.int x), a2, a3, a4, a5, a6, a7, a8, a9, a10, a11, a12, a13, a14, a15, a16, a17, a18, a19] st I J Q ↔ At 187 35 [a0, some (.int x), a2, a3, a4, a5, a6, a7, a8, a9, a10, a11, a12, a13, a14, a15, a16, a17, a18, a19] (.int x :: st) I J Q := A_iload_n (q := 1) (ab_io ci187 (by decide +kernel)) rfl
theorem k187_35 : At 187 35 [a0, a1, some (.int x), a3, a4, a5, a6, a7, a8, a9, a10, a11, a12, a13, a14, a15, a16, a17, a18, a19] st I J Q ↔ At 187 36 [a0, a1, some (.int x), a3, a4, a5, a6, a7, a8, a9, a10, a11, a12, a13, a14, a15, a16, a17, a18, a19] (.int x :: st) I J Q := A_iload_n (q := 2) (ab_io ci187 (by decide +kernel)) rfl
theorem k187_36 : At 187 36 ls [.int p0, .int p1, .ref 49] I J Q ↔ Cal 140 [.ref 49, .int p1, .int p0] I J (fun v I' J' => At 187 39 ls (v.toList ++ []) I' J' Q) := A_cal (kd := 0) (j := 136) (na := 3) (ea := 3) (rk := 49) (by decide +kernel) rfl rfl rfl (Or.inr rfl) (Nat.le_of_ble_eq_true rfl)
theorem k187_39 : At 187 39 ls st I J Q ↔ At 187 40 ls (.int (-1) :: st) I J Q := A_iconst (ab_io ci187 (by decide +kernel)) ic_m1
theorem k187_40 : At 187 40 ls (.int x1 :: .int x :: st) I J Q ↔ if ¬ x = x1 then At 187 49 ls st I J Q else At 187 43 ls st I J Q := A_if_icmp_ne (o := 9) (ab_io ci187 (by decide +kernel)) (by decide)
theorem k187_43 : At 187 43 ls st I J Q ↔ At 187 45 ls (.int (-3) :: st) I J Q := A_bipush (ab_io ci187 (by decide +kernel)) bc_m3
theorem k187_45 : At 187 45 ls [.int p0] I J Q ↔ Cal 127 [.int p0] I J (fun v I' J' => At 187 48 ls (v.toList ++ []) I' J' Q) := A_cal (kd := 1) (j := 162) (na := 1) (ea := 1) (rk := 0) (by decide +kernel) rfl rfl rfl (Or.inl rfl) (Nat.le_of_ble_eq_true rfl)
theorem k187_48 : At 187 48 ls [.long u] I J Q ↔ Q (some (.long u)) I J := A_lret (ab_io ci187 (by decide +kernel)) rt187
theorem k187_49 : At 187 49 [some (.ref r), a1, a2, a3, a4, a5, a6, a7, a8, a9, a10, a11, a12, a13, a14, a15, a16, a17, a18, a19] st I J Q ↔ At 187 50 [some (.ref r), a1, a2, a3, a4, a5, a6, a7, a8, a9, a10, a11, a12, a13, a14, a15, a16, a17, a18, a19] (.ref r :: st) I J Q := A_aload_n (q := 0) (ab_io ci187 (by decide +kernel)) rfl
theorem k187_50 : At 187 50 ls (.ref 49 :: st) I J Q ↔ At 187 53 ls (.ref 57 :: st) I J Q := A_getR (ab_io ci187 (by decide +kernel)) ow187 fq8_35_49
theorem k187_53 : At 187 53 [a0, some (.int x), a2, a3, a4, a5, a6, a7, a8, a9, a10, a11, a12, a13, a14, a15, a16, a17, a18, a19] st I J Q ↔ At 187 54 [a0, some (.int x), a2, a3, a4, a5, a6, a7, a8, a9, a10, a11, a12, a13, a14, a15, a16, a17, a18, a19] (.int x :: st) I J Q := A_iload_n (q := 1) (ab_io ci187 (by decide +kernel)) rfl
theorem k187_54 : At 187 54 ls (.int x :: .ref r :: st) I J Q ↔ ((ab_ly r).1 = 1 ∧ r < 75 ∧ 0 ≤ x.toInt ∧ x.toInt < (ab_ly r).2) ∧ At 187 55 ls (.int (I r x.toNatClampNeg) :: st) I J Q := A_iaload (ab_io ci187 (by decide +kernel))
theorem k187_55 : At 187 55 [a0, a1, a2, a3, a4, a5, a6, a7, a8, a9, a10, a11, a12, a13, a14, a15, a16, a17, a18, a19] (.int x :: st) I J Q ↔ At 187 57 [a0, a1, a2, ab_nv a3, some (.int x), a5, a6, a7, a8, a9, a10, a11, a12, a13, a14, a15, a16, a17, a18, a19] st I J Q := A_istore (q := 4) (ab_io ci187 (by decide +kernel)) (Nat.le_of_ble_eq_true rfl) rfl
theorem k187_57 : At 187 57 ls st I J Q ↔ At 187 58 ls (.int (nI 0) :: st) I J Q := A_iconst (ab_io ci187 (by decide +kernel)) ic_0
theorem k187_58 : At 187 58 [a0, a1, a2, a3, a4, a5, a6, a7, a8, a9, a10, a11, a12, a13, a14, a15, a16, a17, a18, a19] (.int x :: st) I J Q ↔ At 187 60 [a0, a1, a2, a3, ab_nv a4, some (.int x), a6, a7, a8, a9, a10, a11, a12, a13, a14, a15, a16, a17, a18, a19] st I J Q := A_istore (q := 5) (ab_io ci187 (by decide +kernel)) (Nat.le_of_ble_eq_true rfl) rfl
theorem k187_60 : At 187 60 [a0, a1, a2, a3, a4, some (.int x), a6, a7, a8, a9, a10, a11, a12, a13, a14, a15, a16, a17, a18, a19] st I J Q ↔ At 187 62 [a0, a1, a2, a3, a4, some (.int x), a6, a7, a8, a9, a10, a11, a12, a13, a14, a15, a16, a17, a18, a19] (.int x :: st) I J Q := A_iload (q := 5) (ab_io ci187 (by decide +kernel)) rfl
theorem k187_62 : At 187 62 ls st I J Q ↔ At 187 64 ls (.int (nI 48) :: st) I J Q := A_bipush (ab_io ci187 (by decide +kernel)) bc_48
theorem k187_64 : At 187 64 ls (.int x1 :: .int x :: st) I J Q ↔ if x1 ≤ x then At 187 105 ls st I J Q else At 187 67 ls st I J Q := A_if_icmp_ge (o := 41) (ab_io ci187 (by decide +kernel)) (by decide)
theorem k187_67 : At 187 67 [some (.ref r), a1, a2, a3, a4, a5, a6, a7, a8, a9, a10, a11, a12, a13, a14, a15, a16, a17, a18, a19] st I J Q ↔ At 187 68 [some (.ref r), a1, a2, a3, a4, a5, a6, a7, a8, a9, a10, a11, a12, a13, a14, a15, a16, a17, a18, a19] (.ref r :: st) I J Q := A_aload_n (q := 0) (ab_io ci187 (by decide +kernel)) rfl
theorem k187_68 : At 187 68 ls (.ref 49 :: st) I J Q ↔ At 187 71 ls (.ref 55 :: st) I J Q := A_getR (ab_io ci187 (by decide +kernel)) ow187 fq8_29_49
theorem k187_71 : At 187 71 [a0, a1, a2, a3, a4, some (.int x), a6, a7, a8, a9, a10, a11, a12, a13, a14, a15, a16, a17, a18, a19] st I J Q ↔ At 187 73 [a0, a1, a2, a3, a4, some (.int x), a6, a7, a8, a9, a10, a11, a12, a13, a14, a15, a16, a17, a18, a19] (.int x :: st) I J Q := A_iload (q := 5) (ab_io ci187 (by decide +kernel)) rfl
theorem k187_73 : At 187 73 [some (.ref r), a1, a2, a3, a4, a5, a6, a7, a8, a9, a10, a11, a12, a13, a14, a15, a16, a17, a18, a19] st I J Q ↔ At 187 74 [some (.ref r), a1, a2, a3, a4, a5, a6, a7, a8, a9, a10, a11, a12, a13, a14, a15, a16, a17, a18, a19] (.ref r :: st) I J Q := A_aload_n (q := 0) (ab_io ci187 (by decide +kernel)) rfl
theorem k187_74 : At 187 74 ls (.ref 49 :: st) I J Q ↔ At 187 77 ls (.ref 57 :: st) I J Q := A_getR (ab_io ci187 (by decide +kernel)) ow187 fq8_35_49
theorem k187_77 : At 187 77 [a0, a1, a2, a3, a4, some (.int x), a6, a7, a8, a9, a10, a11, a12, a13, a14, a15, a16, a17, a18, a19] st I J Q ↔ At 187 79 [a0, a1, a2, a3, a4, some (.int x), a6, a7, a8, a9, a10, a11, a12, a13, a14, a15, a16, a17, a18, a19] (.int x :: st) I J Q := A_iload (q := 5) (ab_io ci187 (by decide +kernel)) rfl
theorem k187_79 : At 187 79 ls st I J Q ↔ At 187 80 ls (.int (nI 4) :: st) I J Q := A_iconst (ab_io ci187 (by decide +kernel)) ic_4
theorem k187_80 : At 187 80 ls (.int x1 :: .int x :: st) I J Q ↔ ¬ x1 = 0 ∧ At 187 81 ls (.int (x / x1) :: st) I J Q := A_idiv (ab_io ci187 (by decide +kernel))
theorem k187_81 : At 187 81 ls (.int x :: .ref r :: st) I J Q ↔ ((ab_ly r).1 = 1 ∧ r < 75 ∧ 0 ≤ x.toInt ∧ x.toInt < (ab_ly r).2) ∧ At 187 82 ls (.int (I r x.toNatClampNeg) :: st) I J Q := A_iaload (ab_io ci187 (by decide +kernel))
theorem k187_82 : At 187 82 [a0, a1, a2, a3, some (.int x), a5, a6, a7, a8, a9, a10, a11, a12, a13, a14, a15, a16, a17, a18, a19] st I J Q ↔ At 187 84 [a0, a1, a2, a3, some (.int x), a5, a6, a7, a8, a9, a10, a11, a12, a13, a14, a15, a16, a17, a18, a19] (.int x :: st) I J Q := A_iload (q := 4) (ab_io ci187 (by decide +kernel)) rfl
theorem k187_84 : At 187 84 ls (.int x1 :: .int x :: st) I J Q ↔ if ¬ x = x1 then At 187 97 ls st I J Q else At 187 87 ls st I J Q := A_if_icmp_ne (o := 13) (ab_io ci187 (by decide +kernel)) (by decide)
theorem k187_87 : At 187 87 [some (.ref r), a1, a2, a3, a4, a5, a6, a7, a8, a9, a10, a11, a12, a13, a14, a15, a16, a17, a18, a19] st I J Q ↔ At 187 88 [some (.ref r), a1, a2, a3, a4, a5, a6, a7, a8, a9, a10, a11, a12, a13, a14, a15, a16, a17, a18, a19] (.ref r :: st) I J Q := A_aload_n (q := 0) (ab_io ci187 (by decide +kernel)) rfl
theorem k187_88 : At 187 88 ls (.ref 49 :: st) I J Q ↔ At 187 91 ls (.ref 55 :: st) I J Q := A_getR (ab_io ci187 (by decide +kernel)) ow187 fq8_29_49
theorem k187_91 : At 187 91 [a0, a1, a2, a3, a4, some (.int x), a6, a7, a8, a9, a10, a11, a12, a13, a14, a15, a16, a17, a18, a19] st I J Q ↔ At 187 93 [a0, a1, a2, a3, a4, some (.int x), a6, a7, a8, a9, a10, a11, a12, a13, a14, a15, a16, a17, a18, a19] (.int x :: st) I J Q := A_iload (q := 5) (ab_io ci187 (by decide +kernel)) rfl
theorem k187_93 : At 187 93 ls (.int x :: .ref r :: st) I J Q ↔ ((ab_ly r).1 = 1 ∧ r < 75 ∧ 0 ≤ x.toInt ∧ x.toInt < (ab_ly r).2) ∧ At 187 94 ls (.int (I r x.toNatClampNeg) :: st) I J Q := A_iaload (ab_io ci187 (by decide +kernel))
theorem k187_94 : At 187 94 ls st I J Q ↔ At 187 98 ls st I J Q := A_goto (o := 4) (ab_io ci187 (by decide +kernel)) (by decide)
theorem k187_97 : At 187 97 ls st I J Q ↔ At 187 98 ls (.int (-1) :: st) I J Q := A_iconst (ab_io ci187 (by decide +kernel)) ic_m1
theorem k187_98 : At 187 98 ls (.int x1 :: .int x :: .ref r :: st) I J Q ↔ ((ab_ly r).1 = 1 ∧ r < 75 ∧ 0 ≤ x.toInt ∧ x.toInt < (ab_ly r).2) ∧ At 187 99 ls st (va_up I r (va_up (I r) x.toNatClampNeg x1)) J Q := A_iastore (ab_io ci187 (by decide +kernel))
theorem k187_99 : At 187 99 [a0, a1, a2, a3, a4, some (.int x), a6, a7, a8, a9, a10, a11, a12, a13, a14, a15, a16, a17, a18, a19] st I J Q ↔ At 187 102 [a0, a1, a2, a3, ab_nv a4, some (.int (x + (nI 1))), a6, a7, a8, a9, a10, a11, a12, a13, a14, a15, a16, a17, a18, a19] st I J Q := A_iinc (q := 5) (ab_io ci187 (by decide +kernel)) ic_1 (Nat.le_of_ble_eq_true rfl) rfl rfl
theorem k187_102 : At 187 102 ls st I J Q ↔ At 187 60 ls st I J Q := A_goto (o := (-42)) (ab_io ci187 (by decide +kernel)) (by decide)
theorem k187_105 : At 187 105 [some (.ref r), a1, a2, a3, a4, a5, a6, a7, a8, a9, a10, a11, a12, a13, a14, a15, a16, a17, a18, a19] st I J Q ↔ At 187 106 [some (.ref r), a1, a2, a3, a4, a5, a6, a7, a8, a9, a10, a11, a12, a13, a14, a15, a16, a17, a18, a19] (.ref r :: st) I J Q := A_aload_n (q := 0) (ab_io ci187 (by decide +kernel)) rfl
theorem k187_106 : At 187 106 ls (.ref 49 :: st) I J Q ↔ At 187 109 ls (.ref 55 :: st) I J Q := A_getR (ab_io ci187 (by decide +kernel)) ow187 fq8_29_49
theorem k187_109 : At 187 109 ls st I J Q ↔ At 187 110 ls (.int (nI 4) :: st) I J Q := A_iconst (ab_io ci187 (by decide +kernel)) ic_4
theorem k187_110 : At 187 110 [a0, some (.int x), a2, a3, a4, a5, a6, a7, a8, a9, a10, a11, a12, a13, a14, a15, a16, a17, a18, a19] st I J Q ↔ At 187 111 [a0, some (.int x), a2, a3, a4, a5, a6, a7, a8, a9, a10, a11, a12, a13, a14, a15, a16, a17, a18, a19] (.int x :: st) I J Q := A_iload_n (q := 1) (ab_io ci187 (by decide +kernel)) rfl
theorem k187_111 : At 187 111 ls (.int x1 :: .int x :: st) I J Q ↔ At 187 112 ls (.int (x * x1) :: st) I J Q := A_imul (ab_io ci187 (by decide +kernel))
theorem k187_112 : At 187 112 [a0, a1, some (.int x), a3, a4, a5, a6, a7, a8, a9, a10, a11, a12, a13, a14, a15, a16, a17, a18, a19] st I J Q ↔ At 187 113 [a0, a1, some (.int x), a3, a4, a5, a6, a7, a8, a9, a10, a11, a12, a13, a14, a15, a16, a17, a18, a19] (.int x :: st) I J Q := A_iload_n (q := 2) (ab_io ci187 (by decide +kernel)) rfl
theorem k187_113 : At 187 113 ls (.int x1 :: .int x :: st) I J Q ↔ At 187 114 ls (.int (x + x1) :: st) I J Q := A_iadd (ab_io ci187 (by decide +kernel))
theorem k187_114 : At 187 114 ls st I J Q ↔ At 187 115 ls (.int (-1) :: st) I J Q := A_iconst (ab_io ci187 (by decide +kernel)) ic_m1
theorem k187_115 : At 187 115 ls (.int x1 :: .int x :: .ref r :: st) I J Q ↔ ((ab_ly r).1 = 1 ∧ r < 75 ∧ 0 ≤ x.toInt ∧ x.toInt < (ab_ly r).2) ∧ At 187 116 ls st (va_up I r (va_up (I r) x.toNatClampNeg x1)) J Q := A_iastore (ab_io ci187 (by decide +kernel))
theorem k187_116 : At 187 116 [some (.ref r), a1, a2, a3, a4, a5, a6, a7, a8, a9, a10, a11, a12, a13, a14, a15, a16, a17, a18, a19] st I J Q ↔ At 187 117 [some (.ref r), a1, a2, a3, a4, a5, a6, a7, a8, a9, a10, a11, a12, a13, a14, a15, a16, a17, a18, a19] (.ref r :: st) I J Q := A_aload_n (q := 0) (ab_io ci187 (by decide +kernel)) rfl
theorem k187_117 : At 187 117 ls [.ref 49] I J Q ↔ Cal 139 [.ref 49] I J (fun v I' J' => At 187 120 ls (v.toList ++ []) I' J' Q) := A_cal (kd := 0) (j := 130) (na := 1) (ea := 1) (rk := 49) (by decide +kernel) rfl rfl rfl (Or.inr rfl) (Nat.le_of_ble_eq_true rfl)
theorem k187_120 : At 187 120 ls st I J Q ↔ At 187 121 ls (.long 0 :: st) I J Q := A_lconst (n := 0) (ab_io ci187 (by decide +kernel)) rfl
theorem k187_121 : At 187 121 [a0, a1, a2, a3, a4, a5, a6, a7, a8, a9, a10, a11, a12, a13, a14, a15, a16, a17, a18, a19] (.long u :: st) I J Q ↔ At 187 123 [a0, a1, a2, a3, ab_nv a4, some (.long u), none, a7, a8, a9, a10, a11, a12, a13, a14, a15, a16, a17, a18, a19] st I J Q := A_lstore (q := 5) (ab_io ci187 (by decide +kernel)) (Nat.le_of_ble_eq_true rfl) rfl
theorem k187_123 : At 187 123 ls st I J Q ↔ At 187 124 ls (.long 1 :: st) I J Q := A_lconst (n := 1) (ab_io ci187 (by decide +kernel)) rfl
theorem k187_124 : At 187 124 [a0, a1, a2, a3, a4, a5, a6, a7, a8, a9, a10, a11, a12, a13, a14, a15, a16, a17, a18, a19] (.long u :: st) I J Q ↔ At 187 126 [a0, a1, a2, a3, a4, a5, ab_nv a6, some (.long u), none, a9, a10, a11, a12, a13, a14, a15, a16, a17, a18, a19] st I J Q := A_lstore (q := 7) (ab_io ci187 (by decide +kernel)) (Nat.le_of_ble_eq_true rfl) rfl
theorem k187_126 : At 187 126 ls st I J Q ↔ At 187 127 ls (.int (nI 0) :: st) I J Q := A_iconst (ab_io ci187 (by decide +kernel)) ic_0
theorem k187_127 : At 187 127 [a0, a1, a2, a3, a4, a5, a6, a7, a8, a9, a10, a11, a12, a13, a14, a15, a16, a17, a18, a19] (.int x :: st) I J Q ↔ At 187 129 [a0, a1, a2, a3, a4, a5, a6, a7, ab_nv a8, some (.int x), a10, a11, a12, a13, a14, a15, a16, a17, a18, a19] st I J Q := A_istore (q := 9) (ab_io ci187 (by decide +kernel)) (Nat.le_of_ble_eq_true rfl) rfl
theorem k187_129 : At 187 129 [a0, a1, a2, a3, a4, a5, a6, a7, a8, some (.int x), a10, a11, a12, a13, a14, a15, a16, a17, a18, a19] st I J Q ↔ At 187 131 [a0, a1, a2, a3, a4, a5, a6, a7, a8, some (.int x), a10, a11, a12, a13, a14, a15, a16, a17, a18, a19] (.int x :: st) I J Q := A_iload (q := 9) (ab_io ci187 (by decide +kernel)) rfl
theorem k187_131 : At 187 131 ls st I J Q ↔ At 187 132 ls (.int (nI 4) :: st) I J Q := A_iconst (ab_io ci187 (by decide +kernel)) ic_4
theorem k187_132 : At 187 132 ls (.int x1 :: .int x :: st) I J Q ↔ if x1 ≤ x then At 187 222 ls st I J Q else At 187 135 ls st I J Q := A_if_icmp_ge (o := 90) (ab_io ci187 (by decide +kernel)) (by decide)
theorem k187_135 : At 187 135 [some (.ref r), a1, a2, a3, a4, a5, a6, a7, a8, a9, a10, a11, a12, a13, a14, a15, a16, a17, a18, a19] st I J Q ↔ At 187 136 [some (.ref r), a1, a2, a3, a4, a5, a6, a7, a8, a9, a10, a11, a12, a13, a14, a15, a16, a17, a18, a19] (.ref r :: st) I J Q := A_aload_n (q := 0) (ab_io ci187 (by decide +kernel)) rfl
theorem k187_136 : At 187 136 [a0, a1, a2, a3, a4, a5, a6, a7, a8, some (.int x), a10, a11, a12, a13, a14, a15, a16, a17, a18, a19] st I J Q ↔ At 187 138 [a0, a1, a2, a3, a4, a5, a6, a7, a8, some (.int x), a10, a11, a12, a13, a14, a15, a16, a17, a18, a19] (.int x :: st) I J Q := A_iload (q := 9) (ab_io ci187 (by decide +kernel)) rfl
theorem k187_138 : At 187 138 ls [.int p0, .ref 49] I J Q ↔ Cal 154 [.ref 49, .int p0] I J (fun v I' J' => At 187 141 ls (v.toList ++ []) I' J' Q) := A_cal (kd := 0) (j := 183) (na := 2) (ea := 2) (rk := 49) (by decide +kernel) rfl rfl rfl (Or.inr rfl) (Nat.le_of_ble_eq_true rfl)
theorem k187_141 : At 187 141 ls (.int x :: st) I J Q ↔ if x = 0 then At 187 216 ls st I J Q else At 187 144 ls st I J Q := A_ifCond_eq (o := 75) (ab_io ci187 (by decide +kernel)) (by decide)
theorem k187_144 : At 187 144 [some (.ref r), a1, a2, a3, a4, a5, a6, a7, a8, a9, a10, a11, a12, a13, a14, a15, a16, a17, a18, a19] st I J Q ↔ At 187 145 [some (.ref r), a1, a2, a3, a4, a5, a6, a7, a8, a9, a10, a11, a12, a13, a14, a15, a16, a17, a18, a19] (.ref r :: st) I J Q := A_aload_n (q := 0) (ab_io ci187 (by decide +kernel)) rfl
theorem k187_145 : At 187 145 [a0, a1, a2, a3, a4, a5, a6, a7, a8, some (.int x), a10, a11, a12, a13, a14, a15, a16, a17, a18, a19] st I J Q ↔ At 187 147 [a0, a1, a2, a3, a4, a5, a6, a7, a8, some (.int x), a10, a11, a12, a13, a14, a15, a16, a17, a18, a19] (.int x :: st) I J Q := A_iload (q := 9) (ab_io ci187 (by decide +kernel)) rfl
theorem k187_147 : At 187 147 ls [.int p0, .ref 49] I J Q ↔ Cal 155 [.ref 49, .int p0] I J (fun v I' J' => At 187 150 ls (v.toList ++ []) I' J' Q) := A_cal (kd := 0) (j := 186) (na := 2) (ea := 2) (rk := 49) (by decide +kernel) rfl rfl rfl (Or.inr rfl) (Nat.le_of_ble_eq_true rfl)
theorem k187_150 : At 187 150 [a0, a1, a2, a3, a4, a5, a6, a7, a8, a9, a10, a11, a12, a13, a14, a15, a16, a17, a18, a19] (.long u :: st) I J Q ↔ At 187 152 [a0, a1, a2, a3, a4, a5, a6, a7, a8, ab_nv a9, some (.long u), none, a12, a13, a14, a15, a16, a17, a18, a19] st I J Q := A_lstore (q := 10) (ab_io ci187 (by decide +kernel)) (Nat.le_of_ble_eq_true rfl) rfl
theorem k187_152 : At 187 152 [a0, a1, a2, a3, a4, a5, a6, a7, a8, a9, some (.long u), a11, a12, a13, a14, a15, a16, a17, a18, a19] st I J Q ↔ At 187 154 [a0, a1, a2, a3, a4, a5, a6, a7, a8, a9, some (.long u), a11, a12, a13, a14, a15, a16, a17, a18, a19] (.long u :: st) I J Q := A_lload (q := 10) (ab_io ci187 (by decide +kernel)) rfl
theorem k187_154 : At 187 154 [some (.ref r), a1, a2, a3, a4, a5, a6, a7, a8, a9, a10, a11, a12, a13, a14, a15, a16, a17, a18, a19] st I J Q ↔ At 187 155 [some (.ref r), a1, a2, a3, a4, a5, a6, a7, a8, a9, a10, a11, a12, a13, a14, a15, a16, a17, a18, a19] (.ref r :: st) I J Q := A_aload_n (q := 0) (ab_io ci187 (by decide +kernel)) rfl
theorem k187_155 : At 187 155 ls (.ref 49 :: st) I J Q ↔ At 187 158 ls (.long (J 49 17) :: st) I J Q := A_getJ (ab_io ci187 (by decide +kernel)) ow187 fq8_159_49
theorem k187_158 : At 187 158 ls st I J Q ↔ At 187 159 ls (.int (nI 0) :: st) I J Q := A_iconst (ab_io ci187 (by decide +kernel)) ic_0
theorem k187_159 : At 187 159 ls [.int p0, .long pu1, .long pu2] I J Q ↔ Cal 130 [.long pu2, .long pu1, .int p0] I J (fun v I' J' => At 187 162 ls (v.toList ++ []) I' J' Q) := A_cal (kd := 1) (j := 169) (na := 3) (ea := 5) (rk := 0) (by decide +kernel) rfl rfl rfl (Or.inl rfl) (Nat.le_of_ble_eq_true rfl)
theorem k187_162 : At 187 162 [a0, a1, a2, a3, a4, a5, a6, a7, a8, a9, a10, a11, a12, a13, a14, a15, a16, a17, a18, a19] (.long u :: st) I J Q ↔ At 187 164 [a0, a1, a2, a3, a4, a5, a6, a7, a8, a9, a10, ab_nv a11, some (.long u), none, a14, a15, a16, a17, a18, a19] st I J Q := A_lstore (q := 12) (ab_io ci187 (by decide +kernel)) (Nat.le_of_ble_eq_true rfl) rfl
theorem k187_164 : At 187 164 [a0, a1, a2, a3, a4, a5, a6, a7, a8, a9, some (.long u), a11, a12, a13, a14, a15, a16, a17, a18, a19] st I J Q ↔ At 187 166 [a0, a1, a2, a3, a4, a5, a6, a7, a8, a9, some (.long u), a11, a12, a13, a14, a15, a16, a17, a18, a19] (.long u :: st) I J Q := A_lload (q := 10) (ab_io ci187 (by decide +kernel)) rfl
theorem k187_166 : At 187 166 [some (.ref r), a1, a2, a3, a4, a5, a6, a7, a8, a9, a10, a11, a12, a13, a14, a15, a16, a17, a18, a19] st I J Q ↔ At 187 167 [some (.ref r), a1, a2, a3, a4, a5, a6, a7, a8, a9, a10, a11, a12, a13, a14, a15, a16, a17, a18, a19] (.ref r :: st) I J Q := A_aload_n (q := 0) (ab_io ci187 (by decide +kernel)) rfl
theorem k187_167 : At 187 167 ls (.ref 49 :: st) I J Q ↔ At 187 170 ls (.long (J 49 17) :: st) I J Q := A_getJ (ab_io ci187 (by decide +kernel)) ow187 fq8_159_49
theorem k187_170 : At 187 170 ls st I J Q ↔ At 187 171 ls (.int (nI 1) :: st) I J Q := A_iconst (ab_io ci187 (by decide +kernel)) ic_1
theorem k187_171 : At 187 171 ls [.int p0, .long pu1, .long pu2] I J Q ↔ Cal 130 [.long pu2, .long pu1, .int p0] I J (fun v I' J' => At 187 174 ls (v.toList ++ []) I' J' Q) := A_cal (kd := 1) (j := 169) (na := 3) (ea := 5) (rk := 0) (by decide +kernel) rfl rfl rfl (Or.inl rfl) (Nat.le_of_ble_eq_true rfl)
theorem k187_174 : At 187 174 [a0, a1, a2, a3, a4, a5, a6, a7, a8, a9, a10, a11, a12, a13, a14, a15, a16, a17, a18, a19] (.long u :: st) I J Q ↔ At 187 176 [a0, a1, a2, a3, a4, a5, a6, a7, a8, a9, a10, a11, a12, ab_nv a13, some (.long u), none, a16, a17, a18, a19] st I J Q := A_lstore (q := 14) (ab_io ci187 (by decide +kernel)) (Nat.le_of_ble_eq_true rfl) rfl
theorem k187_176 : At 187 176 [a0, a1, a2, a3, a4, some (.long u), a6, a7, a8, a9, a10, a11, a12, a13, a14, a15, a16, a17, a18, a19] st I J Q ↔ At 187 178 [a0, a1, a2, a3, a4, some (.long u), a6, a7, a8, a9, a10, a11, a12, a13, a14, a15, a16, a17, a18, a19] (.long u :: st) I J Q := A_lload (q := 5) (ab_io ci187 (by decide +kernel)) rfl
theorem k187_178 : At 187 178 [a0, a1, a2, a3, a4, a5, a6, a7, a8, a9, a10, a11, a12, a13, some (.long u), a15, a16, a17, a18, a19] st I J Q ↔ At 187 180 [a0, a1, a2, a3, a4, a5, a6, a7, a8, a9, a10, a11, a12, a13, some (.long u), a15, a16, a17, a18, a19] (.long u :: st) I J Q := A_lload (q := 14) (ab_io ci187 (by decide +kernel)) rfl
theorem k187_180 : At 187 180 ls (.long u1 :: .long u :: st) I J Q ↔ At 187 181 ls (.long (u * u1) :: st) I J Q := A_lmul (ab_io ci187 (by decide +kernel))
theorem k187_181 : At 187 181 [a0, a1, a2, a3, a4, a5, a6, a7, a8, a9, a10, a11, some (.long u), a13, a14, a15, a16, a17, a18, a19] st I J Q ↔ At 187 183 [a0, a1, a2, a3, a4, a5, a6, a7, a8, a9, a10, a11, some (.long u), a13, a14, a15, a16, a17, a18, a19] (.long u :: st) I J Q := A_lload (q := 12) (ab_io ci187 (by decide +kernel)) rfl
theorem k187_183 : At 187 183 [a0, a1, a2, a3, a4, a5, a6, some (.long u), a8, a9, a10, a11, a12, a13, a14, a15, a16, a17, a18, a19] st I J Q ↔ At 187 185 [a0, a1, a2, a3, a4, a5, a6, some (.long u), a8, a9, a10, a11, a12, a13, a14, a15, a16, a17, a18, a19] (.long u :: st) I J Q := A_lload (q := 7) (ab_io ci187 (by decide +kernel)) rfl
theorem k187_185 : At 187 185 ls (.long u1 :: .long u :: st) I J Q ↔ At 187 186 ls (.long (u * u1) :: st) I J Q := A_lmul (ab_io ci187 (by decide +kernel))
theorem k187_186 : At 187 186 ls (.long u1 :: .long u :: st) I J Q ↔ At 187 187 ls (.long (u + u1) :: st) I J Q := A_ladd (ab_io ci187 (by decide +kernel))
theorem k187_187 : At 187 187 [a0, a1, a2, a3, a4, a5, a6, a7, a8, a9, a10, a11, a12, a13, a14, a15, a16, a17, a18, a19] (.long u :: st) I J Q ↔ At 187 189 [a0, a1, a2, a3, a4, a5, a6, a7, a8, a9, a10, a11, a12, a13, a14, ab_nv a15, some (.long u), none, a18, a19] st I J Q := A_lstore (q := 16) (ab_io ci187 (by decide +kernel)) (Nat.le_of_ble_eq_true rfl) rfl
theorem k187_189 : At 187 189 [a0, a1, a2, a3, a4, a5, a6, some (.long u), a8, a9, a10, a11, a12, a13, a14, a15, a16, a17, a18, a19] st I J Q ↔ At 187 191 [a0, a1, a2, a3, a4, a5, a6, some (.long u), a8, a9, a10, a11, a12, a13, a14, a15, a16, a17, a18, a19] (.long u :: st) I J Q := A_lload (q := 7) (ab_io ci187 (by decide +kernel)) rfl
theorem k187_191 : At 187 191 [a0, a1, a2, a3, a4, a5, a6, a7, a8, a9, a10, a11, a12, a13, some (.long u), a15, a16, a17, a18, a19] st I J Q ↔ At 187 193 [a0, a1, a2, a3, a4, a5, a6, a7, a8, a9, a10, a11, a12, a13, some (.long u), a15, a16, a17, a18, a19] (.long u :: st) I J Q := A_lload (q := 14) (ab_io ci187 (by decide +kernel)) rfl
theorem k187_193 : At 187 193 ls (.long u1 :: .long u :: st) I J Q ↔ At 187 194 ls (.long (u * u1) :: st) I J Q := A_lmul (ab_io ci187 (by decide +kernel))
theorem k187_194 : At 187 194 [a0, a1, a2, a3, a4, a5, a6, a7, a8, a9, a10, a11, a12, a13, a14, a15, a16, a17, a18, a19] (.long u :: st) I J Q ↔ At 187 196 [a0, a1, a2, a3, a4, a5, a6, a7, a8, a9, a10, a11, a12, a13, a14, a15, a16, ab_nv a17, some (.long u), none] st I J Q := A_lstore (q := 18) (ab_io ci187 (by decide +kernel)) (Nat.le_of_ble_eq_true rfl) rfl
theorem k187_196 : At 187 196 [a0, a1, a2, a3, a4, a5, a6, a7, a8, a9, a10, a11, a12, a13, a14, a15, some (.long u), a17, a18, a19] st I J Q ↔ At 187 198 [a0, a1, a2, a3, a4, a5, a6, a7, a8, a9, a10, a11, a12, a13, a14, a15, some (.long u), a17, a18, a19] (.long u :: st) I J Q := A_lload (q := 16) (ab_io ci187 (by decide +kernel)) rfl
theorem k187_198 : At 187 198 [a0, a1, a2, a3, a4, a5, a6, a7, a8, a9, a10, a11, a12, a13, a14, a15, a16, a17, some (.long u), a19] st I J Q ↔ At 187 200 [a0, a1, a2, a3, a4, a5, a6, a7, a8, a9, a10, a11, a12, a13, a14, a15, a16, a17, some (.long u), a19] (.long u :: st) I J Q := A_lload (q := 18) (ab_io ci187 (by decide +kernel)) rfl
theorem k187_200 : At 187 200 ls st I J Q ↔ At 187 201 ls (.int (nI 0) :: st) I J Q := A_iconst (ab_io ci187 (by decide +kernel)) ic_0
theorem k187_201 : At 187 201 ls [.int p0, .long pu1, .long pu2] I J Q ↔ Cal 130 [.long pu2, .long pu1, .int p0] I J (fun v I' J' => At 187 204 ls (v.toList ++ []) I' J' Q) := A_cal (kd := 1) (j := 169) (na := 3) (ea := 5) (rk := 0) (by decide +kernel) rfl rfl rfl (Or.inl rfl) (Nat.le_of_ble_eq_true rfl)
theorem k187_204 : At 187 204 [a0, a1, a2, a3, a4, a5, a6, a7, a8, a9, a10, a11, a12, a13, a14, a15, a16, a17, a18, a19] (.long u :: st) I J Q ↔ At 187 206 [a0, a1, a2, a3, ab_nv a4, some (.long u), none, a7, a8, a9, a10, a11, a12, a13, a14, a15, a16, a17, a18, a19] st I J Q := A_lstore (q := 5) (ab_io ci187 (by decide +kernel)) (Nat.le_of_ble_eq_true rfl) rfl
theorem k187_206 : At 187 206 [a0, a1, a2, a3, a4, a5, a6, a7, a8, a9, a10, a11, a12, a13, a14, a15, some (.long u), a17, a18, a19] st I J Q ↔ At 187 208 [a0, a1, a2, a3, a4, a5, a6, a7, a8, a9, a10, a11, a12, a13, a14, a15, some (.long u), a17, a18, a19] (.long u :: st) I J Q := A_lload (q := 16) (ab_io ci187 (by decide +kernel)) rfl
theorem k187_208 : At 187 208 [a0, a1, a2, a3, a4, a5, a6, a7, a8, a9, a10, a11, a12, a13, a14, a15, a16, a17, some (.long u), a19] st I J Q ↔ At 187 210 [a0, a1, a2, a3, a4, a5, a6, a7, a8, a9, a10, a11, a12, a13, a14, a15, a16, a17, some (.long u), a19] (.long u :: st) I J Q := A_lload (q := 18) (ab_io ci187 (by decide +kernel)) rfl
theorem k187_210 : At 187 210 ls st I J Q ↔ At 187 211 ls (.int (nI 1) :: st) I J Q := A_iconst (ab_io ci187 (by decide +kernel)) ic_1
theorem k187_211 : At 187 211 ls [.int p0, .long pu1, .long pu2] I J Q ↔ Cal 130 [.long pu2, .long pu1, .int p0] I J (fun v I' J' => At 187 214 ls (v.toList ++ []) I' J' Q) := A_cal (kd := 1) (j := 169) (na := 3) (ea := 5) (rk := 0) (by decide +kernel) rfl rfl rfl (Or.inl rfl) (Nat.le_of_ble_eq_true rfl)
theorem k187_214 : At 187 214 [a0, a1, a2, a3, a4, a5, a6, a7, a8, a9, a10, a11, a12, a13, a14, a15, a16, a17, a18, a19] (.long u :: st) I J Q ↔ At 187 216 [a0, a1, a2, a3, a4, a5, ab_nv a6, some (.long u), none, a9, a10, a11, a12, a13, a14, a15, a16, a17, a18, a19] st I J Q := A_lstore (q := 7) (ab_io ci187 (by decide +kernel)) (Nat.le_of_ble_eq_true rfl) rfl
theorem k187_216 : At 187 216 [a0, a1, a2, a3, a4, a5, a6, a7, a8, some (.int x), a10, a11, a12, a13, a14, a15, a16, a17, a18, a19] st I J Q ↔ At 187 219 [a0, a1, a2, a3, a4, a5, a6, a7, ab_nv a8, some (.int (x + (nI 1))), a10, a11, a12, a13, a14, a15, a16, a17, a18, a19] st I J Q := A_iinc (q := 9) (ab_io ci187 (by decide +kernel)) ic_1 (Nat.le_of_ble_eq_true rfl) rfl rfl
theorem k187_219 : At 187 219 ls st I J Q ↔ At 187 129 ls st I J Q := A_goto (o := (-90)) (ab_io ci187 (by decide +kernel)) (by decide)
theorem k187_222 : At 187 222 [a0, a1, a2, some (.int x), a4, a5, a6, a7, a8, a9, a10, a11, a12, a13, a14, a15, a16, a17, a18, a19] st I J Q ↔ At 187 223 [a0, a1, a2, some (.int x), a4, a5, a6, a7, a8, a9, a10, a11, a12, a13, a14, a15, a16, a17, a18, a19] (.int x :: st) I J Q := A_iload_n (q := 3) (ab_io ci187 (by decide +kernel)) rfl
theorem k187_223 : At 187 223 ls (.int x :: st) I J Q ↔ if ¬ x = 0 then At 187 231 ls st I J Q else At 187 226 ls st I J Q := A_ifCond_ne (o := 8) (ab_io ci187 (by decide +kernel)) (by decide)
theorem k187_226 : At 187 226 [a0, a1, a2, a3, a4, some (.long u), a6, a7, a8, a9, a10, a11, a12, a13, a14, a15, a16, a17, a18, a19] st I J Q ↔ At 187 228 [a0, a1, a2, a3, a4, some (.long u), a6, a7, a8, a9, a10, a11, a12, a13, a14, a15, a16, a17, a18, a19] (.long u :: st) I J Q := A_lload (q := 5) (ab_io ci187 (by decide +kernel)) rfl
theorem k187_228 : At 187 228 ls st I J Q ↔ At 187 233 ls st I J Q := A_goto (o := 5) (ab_io ci187 (by decide +kernel)) (by decide)
theorem k187_231 : At 187 231 [a0, a1, a2, a3, a4, a5, a6, some (.long u), a8, a9, a10, a11, a12, a13, a14, a15, a16, a17, a18, a19] st I J Q ↔ At 187 233 [a0, a1, a2, a3, a4, a5, a6, some (.long u), a8, a9, a10, a11, a12, a13, a14, a15, a16, a17, a18, a19] (.long u :: st) I J Q := A_lload (q := 7) (ab_io ci187 (by decide +kernel)) rfl
theorem k187_233 : At 187 233 ls [.long u] I J Q ↔ Q (some (.long u)) I J := A_lret (ab_io ci187 (by decide +kernel)) rt187
theorem k188_0 : At 188 0 [some (.ref r), a1] st I J Q ↔ At 188 1 [some (.ref r), a1] (.ref r :: st) I J Q := A_aload_n (q := 0) (ab_io ci188 (by decide +kernel)) rfl
theorem k188_1 : At 188 1 [a0, some (.int x)] st I J Q ↔ At 188 2 [a0, some (.int x)] (.int x :: st) I J Q := A_iload_n (q := 1) (ab_io ci188 (by decide +kernel)) rfl
theorem k188_2 : At 188 2 ls (.int x :: .ref 49 :: st) I J Q ↔ At 188 5 ls st (va_up I 49 (va_up (I 49) 40 x)) J Q := A_putI (ab_io ci188 (by decide +kernel)) ow188 fq8_271_49
theorem k188_5 : At 188 5 ls st I J Q ↔ At 188 7 ls (.int (-10) :: st) I J Q := A_bipush (ab_io ci188 (by decide +kernel)) bc_m10
theorem k188_7 : At 188 7 [a0, some (.int x)] st I J Q ↔ At 188 8 [a0, some (.int x)] (.int x :: st) I J Q := A_iload_n (q := 1) (ab_io ci188 (by decide +kernel)) rfl
theorem k188_8 : At 188 8 ls (.int x1 :: .int x :: st) I J Q ↔ At 188 9 ls (.int (x - x1) :: st) I J Q := A_isub (ab_io ci188 (by decide +kernel))
theorem k188_9 : At 188 9 ls [.int x] I J Q ↔ Q (some (.int x)) I J := A_iret (ab_io ci188 (by decide +kernel)) rt188
theorem k189_0 : At 189 0 [some (.int x)] st I J Q ↔ At 189 1 [some (.int x)] (.int x :: st) I J Q := A_iload_n (q := 0) (ab_io ci189 (by decide +kernel)) rfl
theorem k189_1 : At 189 1 ls st I J Q ↔ At 189 2 ls (.int (nI 0) :: st) I J Q := A_iconst (ab_io ci189 (by decide +kernel)) ic_0
theorem k189_2 : At 189 2 ls st I J Q ↔ At 189 3 ls (.int (nI 3) :: st) I J Q := A_iconst (ab_io ci189 (by decide +kernel)) ic_3
theorem k189_3 : At 189 3 ls [.int p0, .int p1, .int p2] I J Q ↔ Cal 126 [.int p2, .int p1, .int p0] I J (fun v I' J' => At 189 6 ls (v.toList ++ []) I' J' Q) := A_cal (kd := 1) (j := 101) (na := 3) (ea := 3) (rk := 0) (by decide +kernel) rfl rfl rfl (Or.inl rfl) (Nat.le_of_ble_eq_true rfl)
theorem k189_6 : At 189 6 ls [.int x] I J Q ↔ (x = 0 ∨ x = 1) ∧ Q (some (.int x)) I J := A_zret (ab_io ci189 (by decide +kernel)) rt189
theorem k190_0 : At 190 0 [a0, some (.int x), a2, a3, a4] st I J Q ↔ At 190 1 [a0, some (.int x), a2, a3, a4] (.int x :: st) I J Q := A_iload_n (q := 1) (ab_io ci190 (by decide +kernel)) rfl
theorem k190_1 : At 190 1 ls [.int p0] I J Q ↔ Cal 189 [.int p0] I J (fun v I' J' => At 190 4 ls (v.toList ++ []) I' J' Q) := A_cal (kd := 1) (j := 123) (na := 1) (ea := 1) (rk := 0) (by decide +kernel) rfl rfl rfl (Or.inl rfl) (Nat.le_of_ble_eq_true rfl)
theorem k190_4 : At 190 4 ls (.int x :: st) I J Q ↔ if x = 0 then At 190 22 ls st I J Q else At 190 7 ls st I J Q := A_ifCond_eq (o := 18) (ab_io ci190 (by decide +kernel)) (by decide)
theorem k190_7 : At 190 7 [a0, a1, some (.int x), a3, a4] st I J Q ↔ At 190 8 [a0, a1, some (.int x), a3, a4] (.int x :: st) I J Q := A_iload_n (q := 2) (ab_io ci190 (by decide +kernel)) rfl
theorem k190_8 : At 190 8 ls st I J Q ↔ At 190 9 ls (.int (nI 0) :: st) I J Q := A_iconst (ab_io ci190 (by decide +kernel)) ic_0
theorem k190_9 : At 190 9 ls st I J Q ↔ At 190 10 ls (.int (nI 2) :: st) I J Q := A_iconst (ab_io ci190 (by decide +kernel)) ic_2
theorem k190_10 : At 190 10 ls [.int p0, .int p1, .int p2] I J Q ↔ Cal 126 [.int p2, .int p1, .int p0] I J (fun v I' J' => At 190 13 ls (v.toList ++ []) I' J' Q) := A_cal (kd := 1) (j := 101) (na := 3) (ea := 3) (rk := 0) (by decide +kernel) rfl rfl rfl (Or.inl rfl) (Nat.le_of_ble_eq_true rfl)
theorem k190_13 : At 190 13 ls (.int x :: st) I J Q ↔ if x = 0 then At 190 22 ls st I J Q else At 190 16 ls st I J Q := A_ifCond_eq (o := 9) (ab_io ci190 (by decide +kernel)) (by decide)
theorem k190_16 : At 190 16 [a0, a1, a2, some (.int x), a4] st I J Q ↔ At 190 17 [a0, a1, a2, some (.int x), a4] (.int x :: st) I J Q := A_iload_n (q := 3) (ab_io ci190 (by decide +kernel)) rfl
theorem k190_17 : At 190 17 ls st I J Q ↔ At 190 19 ls (.int (nI 48) :: st) I J Q := A_bipush (ab_io ci190 (by decide +kernel)) bc_48
theorem k190_19 : At 190 19 ls (.int x1 :: .int x :: st) I J Q ↔ if x ≤ x1 then At 190 25 ls st I J Q else At 190 22 ls st I J Q := A_if_icmp_le (o := 6) (ab_io ci190 (by decide +kernel)) (by decide)
theorem k190_22 : At 190 22 ls st I J Q ↔ At 190 24 ls (.int (-2) :: st) I J Q := A_bipush (ab_io ci190 (by decide +kernel)) bc_m2
theorem k190_24 : At 190 24 ls [.int x] I J Q ↔ Q (some (.int x)) I J := A_iret (ab_io ci190 (by decide +kernel)) rt190
theorem k190_25 : At 190 25 [a0, a1, a2, some (.int x), a4] st I J Q ↔ At 190 26 [a0, a1, a2, some (.int x), a4] (.int x :: st) I J Q := A_iload_n (q := 3) (ab_io ci190 (by decide +kernel)) rfl
theorem k190_26 : At 190 26 ls (.int x :: st) I J Q ↔ if 0 ≤ x then At 190 35 ls st I J Q else At 190 29 ls st I J Q := A_ifCond_ge (o := 9) (ab_io ci190 (by decide +kernel)) (by decide)
theorem k190_29 : At 190 29 [some (.ref r), a1, a2, a3, a4] st I J Q ↔ At 190 30 [some (.ref r), a1, a2, a3, a4] (.ref r :: st) I J Q := A_aload_n (q := 0) (ab_io ci190 (by decide +kernel)) rfl
theorem k190_30 : At 190 30 ls st I J Q ↔ At 190 31 ls (.int (nI 5) :: st) I J Q := A_iconst (ab_io ci190 (by decide +kernel)) ic_5
theorem k190_31 : At 190 31 ls [.int p0, .ref 49] I J Q ↔ Cal 188 [.ref 49, .int p0] I J (fun v I' J' => At 190 34 ls (v.toList ++ []) I' J' Q) := A_cal (kd := 0) (j := 126) (na := 2) (ea := 2) (rk := 49) (by decide +kernel) rfl rfl rfl (Or.inr rfl) (Nat.le_of_ble_eq_true rfl)
theorem k190_34 : At 190 34 ls [.int x] I J Q ↔ Q (some (.int x)) I J := A_iret (ab_io ci190 (by decide +kernel)) rt190
theorem k190_35 : At 190 35 [some (.ref r), a1, a2, a3, a4] st I J Q ↔ At 190 36 [some (.ref r), a1, a2, a3, a4] (.ref r :: st) I J Q := A_aload_n (q := 0) (ab_io ci190 (by decide +kernel)) rfl
theorem k190_36 : At 190 36 ls (.ref 49 :: st) I J Q ↔ At 190 39 ls (.ref 70 :: st) I J Q := A_getR (ab_io ci190 (by decide +kernel)) ow190 fq8_75_49
theorem k190_39 : At 190 39 [a0, some (.int x), a2, a3, a4] st I J Q ↔ At 190 40 [a0, some (.int x), a2, a3, a4] (.int x :: st) I J Q := A_iload_n (q := 1) (ab_io ci190 (by decide +kernel)) rfl
theorem k190_40 : At 190 40 ls st I J Q ↔ At 190 41 ls (.int (nI 1) :: st) I J Q := A_iconst (ab_io ci190 (by decide +kernel)) ic_1
theorem k190_41 : At 190 41 ls (.int x1 :: .int x :: .ref r :: st) I J Q ↔ ((x1 = 0 ∨ x1 = 1) ∧ (ab_ly r).1 = 3 ∧ r < 75 ∧ 0 ≤ x.toInt ∧ x.toInt < (ab_ly r).2) ∧ At 190 42 ls st (va_up I r (va_up (I r) x.toNatClampNeg x1)) J Q := A_bastore (ab_io ci190 (by decide +kernel))
theorem k190_42 : At 190 42 [some (.ref r), a1, a2, a3, a4] st I J Q ↔ At 190 43 [some (.ref r), a1, a2, a3, a4] (.ref r :: st) I J Q := A_aload_n (q := 0) (ab_io ci190 (by decide +kernel)) rfl
theorem k190_43 : At 190 43 ls (.ref 49 :: st) I J Q ↔ At 190 46 ls (.ref 71 :: st) I J Q := A_getR (ab_io ci190 (by decide +kernel)) ow190 fq8_79_49
theorem k190_46 : At 190 46 [a0, some (.int x), a2, a3, a4] st I J Q ↔ At 190 47 [a0, some (.int x), a2, a3, a4] (.int x :: st) I J Q := A_iload_n (q := 1) (ab_io ci190 (by decide +kernel)) rfl
theorem k190_47 : At 190 47 [a0, a1, some (.int x), a3, a4] st I J Q ↔ At 190 48 [a0, a1, some (.int x), a3, a4] (.int x :: st) I J Q := A_iload_n (q := 2) (ab_io ci190 (by decide +kernel)) rfl
theorem k190_48 : At 190 48 ls (.int x1 :: .int x :: .ref r :: st) I J Q ↔ ((ab_ly r).1 = 1 ∧ r < 75 ∧ 0 ≤ x.toInt ∧ x.toInt < (ab_ly r).2) ∧ At 190 49 ls st (va_up I r (va_up (I r) x.toNatClampNeg x1)) J Q := A_iastore (ab_io ci190 (by decide +kernel))
theorem k190_49 : At 190 49 [some (.ref r), a1, a2, a3, a4] st I J Q ↔ At 190 50 [some (.ref r), a1, a2, a3, a4] (.ref r :: st) I J Q := A_aload_n (q := 0) (ab_io ci190 (by decide +kernel)) rfl
theorem k190_50 : At 190 50 ls (.ref 49 :: st) I J Q ↔ At 190 53 ls (.ref 72 :: st) I J Q := A_getR (ab_io ci190 (by decide +kernel)) ow190 fq8_82_49
theorem k190_53 : At 190 53 [a0, some (.int x), a2, a3, a4] st I J Q ↔ At 190 54 [a0, some (.int x), a2, a3, a4] (.int x :: st) I J Q := A_iload_n (q := 1) (ab_io ci190 (by decide +kernel)) rfl
theorem k190_54 : At 190 54 [a0, a1, a2, some (.int x), a4] st I J Q ↔ At 190 55 [a0, a1, a2, some (.int x), a4] (.int x :: st) I J Q := A_iload_n (q := 3) (ab_io ci190 (by decide +kernel)) rfl
theorem k190_55 : At 190 55 ls (.int x1 :: .int x :: .ref r :: st) I J Q ↔ ((ab_ly r).1 = 1 ∧ r < 75 ∧ 0 ≤ x.toInt ∧ x.toInt < (ab_ly r).2) ∧ At 190 56 ls st (va_up I r (va_up (I r) x.toNatClampNeg x1)) J Q := A_iastore (ab_io ci190 (by decide +kernel))
theorem k190_56 : At 190 56 ls st I J Q ↔ At 190 57 ls (.int (nI 0) :: st) I J Q := A_iconst (ab_io ci190 (by decide +kernel)) ic_0
theorem k190_57 : At 190 57 [a0, a1, a2, a3, a4] (.int x :: st) I J Q ↔ At 190 59 [a0, a1, a2, ab_nv a3, some (.int x)] st I J Q := A_istore (q := 4) (ab_io ci190 (by decide +kernel)) (Nat.le_of_ble_eq_true rfl) rfl
theorem k190_59 : At 190 59 [a0, a1, a2, a3, some (.int x)] st I J Q ↔ At 190 61 [a0, a1, a2, a3, some (.int x)] (.int x :: st) I J Q := A_iload (q := 4) (ab_io ci190 (by decide +kernel)) rfl
theorem k190_61 : At 190 61 ls st I J Q ↔ At 190 63 ls (.int (nI 48) :: st) I J Q := A_bipush (ab_io ci190 (by decide +kernel)) bc_48
theorem k190_63 : At 190 63 ls (.int x1 :: .int x :: st) I J Q ↔ if x1 ≤ x then At 190 85 ls st I J Q else At 190 66 ls st I J Q := A_if_icmp_ge (o := 22) (ab_io ci190 (by decide +kernel)) (by decide)
theorem k190_66 : At 190 66 [some (.ref r), a1, a2, a3, a4] st I J Q ↔ At 190 67 [some (.ref r), a1, a2, a3, a4] (.ref r :: st) I J Q := A_aload_n (q := 0) (ab_io ci190 (by decide +kernel)) rfl
theorem k190_67 : At 190 67 ls (.ref 49 :: st) I J Q ↔ At 190 70 ls (.ref 73 :: st) I J Q := A_getR (ab_io ci190 (by decide +kernel)) ow190 fq8_85_49
theorem k190_70 : At 190 70 ls st I J Q ↔ At 190 72 ls (.int (nI 48) :: st) I J Q := A_bipush (ab_io ci190 (by decide +kernel)) bc_48
theorem k190_72 : At 190 72 [a0, some (.int x), a2, a3, a4] st I J Q ↔ At 190 73 [a0, some (.int x), a2, a3, a4] (.int x :: st) I J Q := A_iload_n (q := 1) (ab_io ci190 (by decide +kernel)) rfl
theorem k190_73 : At 190 73 ls (.int x1 :: .int x :: st) I J Q ↔ At 190 74 ls (.int (x * x1) :: st) I J Q := A_imul (ab_io ci190 (by decide +kernel))
theorem k190_74 : At 190 74 [a0, a1, a2, a3, some (.int x)] st I J Q ↔ At 190 76 [a0, a1, a2, a3, some (.int x)] (.int x :: st) I J Q := A_iload (q := 4) (ab_io ci190 (by decide +kernel)) rfl
theorem k190_76 : At 190 76 ls (.int x1 :: .int x :: st) I J Q ↔ At 190 77 ls (.int (x + x1) :: st) I J Q := A_iadd (ab_io ci190 (by decide +kernel))
theorem k190_77 : At 190 77 ls st I J Q ↔ At 190 78 ls (.int (nI 0) :: st) I J Q := A_iconst (ab_io ci190 (by decide +kernel)) ic_0
theorem k190_78 : At 190 78 ls (.int x1 :: .int x :: .ref r :: st) I J Q ↔ ((ab_ly r).1 = 1 ∧ r < 75 ∧ 0 ≤ x.toInt ∧ x.toInt < (ab_ly r).2) ∧ At 190 79 ls st (va_up I r (va_up (I r) x.toNatClampNeg x1)) J Q := A_iastore (ab_io ci190 (by decide +kernel))
theorem k190_79 : At 190 79 [a0, a1, a2, a3, some (.int x)] st I J Q ↔ At 190 82 [a0, a1, a2, ab_nv a3, some (.int (x + (nI 1)))] st I J Q := A_iinc (q := 4) (ab_io ci190 (by decide +kernel)) ic_1 (Nat.le_of_ble_eq_true rfl) rfl rfl
theorem k190_82 : At 190 82 ls st I J Q ↔ At 190 59 ls st I J Q := A_goto (o := (-23)) (ab_io ci190 (by decide +kernel)) (by decide)
theorem k190_85 : At 190 85 [a0, a1, a2, some (.int x), a4] st I J Q ↔ At 190 86 [a0, a1, a2, some (.int x), a4] (.int x :: st) I J Q := A_iload_n (q := 3) (ab_io ci190 (by decide +kernel)) rfl
theorem k190_86 : At 190 86 ls [.int x] I J Q ↔ Q (some (.int x)) I J := A_iret (ab_io ci190 (by decide +kernel)) rt190
theorem k191_0 : At 191 0 [a0, some (.int x)] st I J Q ↔ At 191 1 [a0, some (.int x)] (.int x :: st) I J Q := A_iload_n (q := 1) (ab_io ci191 (by decide +kernel)) rfl
theorem k191_1 : At 191 1 ls [.int p0] I J Q ↔ Cal 189 [.int p0] I J (fun v I' J' => At 191 4 ls (v.toList ++ []) I' J' Q) := A_cal (kd := 1) (j := 123) (na := 1) (ea := 1) (rk := 0) (by decide +kernel) rfl rfl rfl (Or.inl rfl) (Nat.le_of_ble_eq_true rfl)
theorem k191_4 : At 191 4 ls (.int x :: st) I J Q ↔ if ¬ x = 0 then At 191 10 ls st I J Q else At 191 7 ls st I J Q := A_ifCond_ne (o := 6) (ab_io ci191 (by decide +kernel)) (by decide)
theorem k191_7 : At 191 7 ls st I J Q ↔ At 191 9 ls (.int (-2) :: st) I J Q := A_bipush (ab_io ci191 (by decide +kernel)) bc_m2
theorem k191_9 : At 191 9 ls [.int x] I J Q ↔ Q (some (.int x)) I J := A_iret (ab_io ci191 (by decide +kernel)) rt191
theorem k191_10 : At 191 10 [some (.ref r), a1] st I J Q ↔ At 191 11 [some (.ref r), a1] (.ref r :: st) I J Q := A_aload_n (q := 0) (ab_io ci191 (by decide +kernel)) rfl
theorem k191_11 : At 191 11 ls (.ref 49 :: st) I J Q ↔ At 191 14 ls (.ref 70 :: st) I J Q := A_getR (ab_io ci191 (by decide +kernel)) ow191 fq8_75_49
theorem k191_14 : At 191 14 [a0, some (.int x)] st I J Q ↔ At 191 15 [a0, some (.int x)] (.int x :: st) I J Q := A_iload_n (q := 1) (ab_io ci191 (by decide +kernel)) rfl
theorem k191_15 : At 191 15 ls (.int x :: .ref r :: st) I J Q ↔ ((ab_ly r).1 = 3 ∧ r < 75 ∧ 0 ≤ x.toInt ∧ x.toInt < (ab_ly r).2) ∧ At 191 16 ls (.int (I r x.toNatClampNeg) :: st) I J Q := A_baload (ab_io ci191 (by decide +kernel))
theorem k191_16 : At 191 16 ls (.int x :: st) I J Q ↔ if ¬ x = 0 then At 191 25 ls st I J Q else At 191 19 ls st I J Q := A_ifCond_ne (o := 9) (ab_io ci191 (by decide +kernel)) (by decide)
theorem k191_19 : At 191 19 [some (.ref r), a1] st I J Q ↔ At 191 20 [some (.ref r), a1] (.ref r :: st) I J Q := A_aload_n (q := 0) (ab_io ci191 (by decide +kernel)) rfl
theorem k191_20 : At 191 20 ls st I J Q ↔ At 191 21 ls (.int (nI 1) :: st) I J Q := A_iconst (ab_io ci191 (by decide +kernel)) ic_1
theorem k191_21 : At 191 21 ls [.int p0, .ref 49] I J Q ↔ Cal 188 [.ref 49, .int p0] I J (fun v I' J' => At 191 24 ls (v.toList ++ []) I' J' Q) := A_cal (kd := 0) (j := 126) (na := 2) (ea := 2) (rk := 49) (by decide +kernel) rfl rfl rfl (Or.inr rfl) (Nat.le_of_ble_eq_true rfl)
theorem k191_24 : At 191 24 ls [.int x] I J Q ↔ Q (some (.int x)) I J := A_iret (ab_io ci191 (by decide +kernel)) rt191
theorem k191_25 : At 191 25 [some (.ref r), a1] st I J Q ↔ At 191 26 [some (.ref r), a1] (.ref r :: st) I J Q := A_aload_n (q := 0) (ab_io ci191 (by decide +kernel)) rfl
theorem k191_26 : At 191 26 ls (.ref 49 :: st) I J Q ↔ At 191 29 ls (.ref 70 :: st) I J Q := A_getR (ab_io ci191 (by decide +kernel)) ow191 fq8_75_49
theorem k191_29 : At 191 29 [a0, some (.int x)] st I J Q ↔ At 191 30 [a0, some (.int x)] (.int x :: st) I J Q := A_iload_n (q := 1) (ab_io ci191 (by decide +kernel)) rfl
theorem k191_30 : At 191 30 ls st I J Q ↔ At 191 31 ls (.int (nI 0) :: st) I J Q := A_iconst (ab_io ci191 (by decide +kernel)) ic_0
theorem k191_31 : At 191 31 ls (.int x1 :: .int x :: .ref r :: st) I J Q ↔ ((x1 = 0 ∨ x1 = 1) ∧ (ab_ly r).1 = 3 ∧ r < 75 ∧ 0 ≤ x.toInt ∧ x.toInt < (ab_ly r).2) ∧ At 191 32 ls st (va_up I r (va_up (I r) x.toNatClampNeg x1)) J Q := A_bastore (ab_io ci191 (by decide +kernel))
theorem k191_32 : At 191 32 [some (.ref r), a1] st I J Q ↔ At 191 33 [some (.ref r), a1] (.ref r :: st) I J Q := A_aload_n (q := 0) (ab_io ci191 (by decide +kernel)) rfl
theorem k191_33 : At 191 33 ls (.ref 49 :: st) I J Q ↔ At 191 36 ls (.ref 72 :: st) I J Q := A_getR (ab_io ci191 (by decide +kernel)) ow191 fq8_82_49
theorem k191_36 : At 191 36 [a0, some (.int x)] st I J Q ↔ At 191 37 [a0, some (.int x)] (.int x :: st) I J Q := A_iload_n (q := 1) (ab_io ci191 (by decide +kernel)) rfl
theorem k191_37 : At 191 37 ls (.int x :: .ref r :: st) I J Q ↔ ((ab_ly r).1 = 1 ∧ r < 75 ∧ 0 ≤ x.toInt ∧ x.toInt < (ab_ly r).2) ∧ At 191 38 ls (.int (I r x.toNatClampNeg) :: st) I J Q := A_iaload (ab_io ci191 (by decide +kernel))
theorem k191_38 : At 191 38 ls [.int x] I J Q ↔ Q (some (.int x)) I J := A_iret (ab_io ci191 (by decide +kernel)) rt191
theorem k192_0 : At 192 0 [some (.ref r), a1, a2, a3] st I J Q ↔ At 192 1 [some (.ref r), a1, a2, a3] (.ref r :: st) I J Q := A_aload_n (q := 0) (ab_io ci192 (by decide +kernel)) rfl
theorem k192_1 : At 192 1 ls (.ref 49 :: st) I J Q ↔ At 192 4 ls (.ref 70 :: st) I J Q := A_getR (ab_io ci192 (by decide +kernel)) ow192 fq8_75_49
theorem k192_4 : At 192 4 [a0, some (.int x), a2, a3] st I J Q ↔ At 192 5 [a0, some (.int x), a2, a3] (.int x :: st) I J Q := A_iload_n (q := 1) (ab_io ci192 (by decide +kernel)) rfl
theorem k192_5 : At 192 5 ls (.int x :: .ref r :: st) I J Q ↔ ((ab_ly r).1 = 3 ∧ r < 75 ∧ 0 ≤ x.toInt ∧ x.toInt < (ab_ly r).2) ∧ At 192 6 ls (.int (I r x.toNatClampNeg) :: st) I J Q := A_baload (ab_io ci192 (by decide +kernel))
theorem k192_6 : At 192 6 ls (.int x :: st) I J Q ↔ if ¬ x = 0 then At 192 13 ls st I J Q else At 192 9 ls st I J Q := A_ifCond_ne (o := 7) (ab_io ci192 (by decide +kernel)) (by decide)
theorem k192_9 : At 192 9 ls st I J Q ↔ At 192 10 ls (.int (nI 1) :: st) I J Q := A_iconst (ab_io ci192 (by decide +kernel)) ic_1
theorem k192_10 : At 192 10 ls st I J Q ↔ At 192 48 ls st I J Q := A_goto (o := 38) (ab_io ci192 (by decide +kernel)) (by decide)
theorem k192_13 : At 192 13 [some (.ref r), a1, a2, a3] st I J Q ↔ At 192 14 [some (.ref r), a1, a2, a3] (.ref r :: st) I J Q := A_aload_n (q := 0) (ab_io ci192 (by decide +kernel)) rfl
theorem k192_14 : At 192 14 ls (.ref 49 :: st) I J Q ↔ At 192 17 ls (.ref 71 :: st) I J Q := A_getR (ab_io ci192 (by decide +kernel)) ow192 fq8_79_49
theorem k192_17 : At 192 17 [a0, some (.int x), a2, a3] st I J Q ↔ At 192 18 [a0, some (.int x), a2, a3] (.int x :: st) I J Q := A_iload_n (q := 1) (ab_io ci192 (by decide +kernel)) rfl
theorem k192_18 : At 192 18 ls (.int x :: .ref r :: st) I J Q ↔ ((ab_ly r).1 = 1 ∧ r < 75 ∧ 0 ≤ x.toInt ∧ x.toInt < (ab_ly r).2) ∧ At 192 19 ls (.int (I r x.toNatClampNeg) :: st) I J Q := A_iaload (ab_io ci192 (by decide +kernel))
theorem k192_19 : At 192 19 [a0, a1, some (.int x), a3] st I J Q ↔ At 192 20 [a0, a1, some (.int x), a3] (.int x :: st) I J Q := A_iload_n (q := 2) (ab_io ci192 (by decide +kernel)) rfl
theorem k192_20 : At 192 20 ls (.int x1 :: .int x :: st) I J Q ↔ if x = x1 then At 192 27 ls st I J Q else At 192 23 ls st I J Q := A_if_icmp_eq (o := 7) (ab_io ci192 (by decide +kernel)) (by decide)
theorem k192_23 : At 192 23 ls st I J Q ↔ At 192 24 ls (.int (nI 3) :: st) I J Q := A_iconst (ab_io ci192 (by decide +kernel)) ic_3
theorem k192_24 : At 192 24 ls st I J Q ↔ At 192 48 ls st I J Q := A_goto (o := 24) (ab_io ci192 (by decide +kernel)) (by decide)
theorem k192_27 : At 192 27 [a0, a1, a2, some (.int x)] st I J Q ↔ At 192 28 [a0, a1, a2, some (.int x)] (.int x :: st) I J Q := A_iload_n (q := 3) (ab_io ci192 (by decide +kernel)) rfl
theorem k192_28 : At 192 28 ls st I J Q ↔ At 192 29 ls (.int (nI 0) :: st) I J Q := A_iconst (ab_io ci192 (by decide +kernel)) ic_0
theorem k192_29 : At 192 29 [some (.ref r), a1, a2, a3] st I J Q ↔ At 192 30 [some (.ref r), a1, a2, a3] (.ref r :: st) I J Q := A_aload_n (q := 0) (ab_io ci192 (by decide +kernel)) rfl
theorem k192_30 : At 192 30 ls (.ref 49 :: st) I J Q ↔ At 192 33 ls (.ref 72 :: st) I J Q := A_getR (ab_io ci192 (by decide +kernel)) ow192 fq8_82_49
theorem k192_33 : At 192 33 [a0, some (.int x), a2, a3] st I J Q ↔ At 192 34 [a0, some (.int x), a2, a3] (.int x :: st) I J Q := A_iload_n (q := 1) (ab_io ci192 (by decide +kernel)) rfl
theorem k192_34 : At 192 34 ls (.int x :: .ref r :: st) I J Q ↔ ((ab_ly r).1 = 1 ∧ r < 75 ∧ 0 ≤ x.toInt ∧ x.toInt < (ab_ly r).2) ∧ At 192 35 ls (.int (I r x.toNatClampNeg) :: st) I J Q := A_iaload (ab_io ci192 (by decide +kernel))
theorem k192_35 : At 192 35 ls st I J Q ↔ At 192 36 ls (.int (nI 1) :: st) I J Q := A_iconst (ab_io ci192 (by decide +kernel)) ic_1
theorem k192_36 : At 192 36 ls (.int x1 :: .int x :: st) I J Q ↔ At 192 37 ls (.int (x - x1) :: st) I J Q := A_isub (ab_io ci192 (by decide +kernel))
theorem k192_37 : At 192 37 ls [.int p0, .int p1, .int p2] I J Q ↔ Cal 126 [.int p2, .int p1, .int p0] I J (fun v I' J' => At 192 40 ls (v.toList ++ []) I' J' Q) := A_cal (kd := 1) (j := 101) (na := 3) (ea := 3) (rk := 0) (by decide +kernel) rfl rfl rfl (Or.inl rfl) (Nat.le_of_ble_eq_true rfl)
theorem k192_40 : At 192 40 ls (.int x :: st) I J Q ↔ if x = 0 then At 192 47 ls st I J Q else At 192 43 ls st I J Q := A_ifCond_eq (o := 7) (ab_io ci192 (by decide +kernel)) (by decide)
theorem k192_43 : At 192 43 ls st I J Q ↔ At 192 44 ls (.int (nI 0) :: st) I J Q := A_iconst (ab_io ci192 (by decide +kernel)) ic_0
theorem k192_44 : At 192 44 ls st I J Q ↔ At 192 48 ls st I J Q := A_goto (o := 4) (ab_io ci192 (by decide +kernel)) (by decide)
theorem k192_47 : At 192 47 ls st I J Q ↔ At 192 48 ls (.int (nI 2) :: st) I J Q := A_iconst (ab_io ci192 (by decide +kernel)) ic_2
theorem k192_48 : At 192 48 ls [.int x] I J Q ↔ Q (some (.int x)) I J := A_iret (ab_io ci192 (by decide +kernel)) rt192
theorem k193_0 : At 193 0 [some (.ref r), a1, a2, a3] st I J Q ↔ At 193 1 [some (.ref r), a1, a2, a3] (.ref r :: st) I J Q := A_aload_n (q := 0) (ab_io ci193 (by decide +kernel)) rfl
theorem k193_1 : At 193 1 ls (.ref 49 :: st) I J Q ↔ At 193 4 ls (.ref 73 :: st) I J Q := A_getR (ab_io ci193 (by decide +kernel)) ow193 fq8_85_49
theorem k193_4 : At 193 4 ls st I J Q ↔ At 193 6 ls (.int (nI 48) :: st) I J Q := A_bipush (ab_io ci193 (by decide +kernel)) bc_48
theorem k193_6 : At 193 6 [a0, some (.int x), a2, a3] st I J Q ↔ At 193 7 [a0, some (.int x), a2, a3] (.int x :: st) I J Q := A_iload_n (q := 1) (ab_io ci193 (by decide +kernel)) rfl
theorem k193_7 : At 193 7 ls (.int x1 :: .int x :: st) I J Q ↔ At 193 8 ls (.int (x * x1) :: st) I J Q := A_imul (ab_io ci193 (by decide +kernel))
theorem k193_8 : At 193 8 [a0, a1, some (.int x), a3] st I J Q ↔ At 193 9 [a0, a1, some (.int x), a3] (.int x :: st) I J Q := A_iload_n (q := 2) (ab_io ci193 (by decide +kernel)) rfl
theorem k193_9 : At 193 9 ls (.int x1 :: .int x :: st) I J Q ↔ At 193 10 ls (.int (x + x1) :: st) I J Q := A_iadd (ab_io ci193 (by decide +kernel))
theorem k193_10 : At 193 10 [some (.ref r), a1, a2, a3] st I J Q ↔ At 193 11 [some (.ref r), a1, a2, a3] (.ref r :: st) I J Q := A_aload_n (q := 0) (ab_io ci193 (by decide +kernel)) rfl
theorem k193_11 : At 193 11 ls (.ref 49 :: st) I J Q ↔ At 193 14 ls (.ref 71 :: st) I J Q := A_getR (ab_io ci193 (by decide +kernel)) ow193 fq8_79_49
theorem k193_14 : At 193 14 [a0, some (.int x), a2, a3] st I J Q ↔ At 193 15 [a0, some (.int x), a2, a3] (.int x :: st) I J Q := A_iload_n (q := 1) (ab_io ci193 (by decide +kernel)) rfl
theorem k193_15 : At 193 15 ls (.int x :: .ref r :: st) I J Q ↔ ((ab_ly r).1 = 1 ∧ r < 75 ∧ 0 ≤ x.toInt ∧ x.toInt < (ab_ly r).2) ∧ At 193 16 ls (.int (I r x.toNatClampNeg) :: st) I J Q := A_iaload (ab_io ci193 (by decide +kernel))
theorem k193_16 : At 193 16 ls (.int x :: st) I J Q ↔ if ¬ x = 0 then At 193 24 ls st I J Q else At 193 19 ls st I J Q := A_ifCond_ne (o := 8) (ab_io ci193 (by decide +kernel)) (by decide)
theorem k193_19 : At 193 19 [a0, a1, a2, some (.int x)] st I J Q ↔ At 193 20 [a0, a1, a2, some (.int x)] (.int x :: st) I J Q := A_iload_n (q := 3) (ab_io ci193 (by decide +kernel)) rfl
theorem k193_20 : At 193 20 ls (.int x :: st) I J Q ↔ At 193 21 ls (.int x.toInt8.toInt32 :: st) I J Q := A_i2b (ab_io ci193 (by decide +kernel))
theorem k193_21 : At 193 21 ls st I J Q ↔ At 193 40 ls st I J Q := A_goto (o := 19) (ab_io ci193 (by decide +kernel)) (by decide)
theorem k193_24 : At 193 24 [some (.ref r), a1, a2, a3] st I J Q ↔ At 193 25 [some (.ref r), a1, a2, a3] (.ref r :: st) I J Q := A_aload_n (q := 0) (ab_io ci193 (by decide +kernel)) rfl
theorem k193_25 : At 193 25 ls (.ref 49 :: st) I J Q ↔ At 193 28 ls (.ref 71 :: st) I J Q := A_getR (ab_io ci193 (by decide +kernel)) ow193 fq8_79_49
theorem k193_28 : At 193 28 [a0, some (.int x), a2, a3] st I J Q ↔ At 193 29 [a0, some (.int x), a2, a3] (.int x :: st) I J Q := A_iload_n (q := 1) (ab_io ci193 (by decide +kernel)) rfl
theorem k193_29 : At 193 29 ls (.int x :: .ref r :: st) I J Q ↔ ((ab_ly r).1 = 1 ∧ r < 75 ∧ 0 ≤ x.toInt ∧ x.toInt < (ab_ly r).2) ∧ At 193 30 ls (.int (I r x.toNatClampNeg) :: st) I J Q := A_iaload (ab_io ci193 (by decide +kernel))
theorem k193_30 : At 193 30 ls st I J Q ↔ At 193 31 ls (.int (nI 1) :: st) I J Q := A_iconst (ab_io ci193 (by decide +kernel)) ic_1
theorem k193_31 : At 193 31 ls (.int x1 :: .int x :: st) I J Q ↔ if ¬ x = x1 then At 193 39 ls st I J Q else At 193 34 ls st I J Q := A_if_icmp_ne (o := 8) (ab_io ci193 (by decide +kernel)) (by decide)
theorem k193_34 : At 193 34 [a0, a1, a2, some (.int x)] st I J Q ↔ At 193 35 [a0, a1, a2, some (.int x)] (.int x :: st) I J Q := A_iload_n (q := 3) (ab_io ci193 (by decide +kernel)) rfl
theorem k193_35 : At 193 35 ls (.int x :: st) I J Q ↔ At 193 36 ls (.int x.toInt16.toInt32 :: st) I J Q := A_i2s (ab_io ci193 (by decide +kernel))
theorem k193_36 : At 193 36 ls st I J Q ↔ At 193 40 ls st I J Q := A_goto (o := 4) (ab_io ci193 (by decide +kernel)) (by decide)
theorem k193_39 : At 193 39 [a0, a1, a2, some (.int x)] st I J Q ↔ At 193 40 [a0, a1, a2, some (.int x)] (.int x :: st) I J Q := A_iload_n (q := 3) (ab_io ci193 (by decide +kernel)) rfl
theorem k193_40 : At 193 40 ls (.int x1 :: .int x :: .ref r :: st) I J Q ↔ ((ab_ly r).1 = 1 ∧ r < 75 ∧ 0 ≤ x.toInt ∧ x.toInt < (ab_ly r).2) ∧ At 193 41 ls st (va_up I r (va_up (I r) x.toNatClampNeg x1)) J Q := A_iastore (ab_io ci193 (by decide +kernel))
theorem k193_41 : At 193 41 ls [] I J Q ↔ Q none I J := A_vret (ab_io ci193 (by decide +kernel)) rt193
theorem k194_0 : At 194 0 [a0, some (.int x), a2, a3, a4, a5] st I J Q ↔ At 194 1 [a0, some (.int x), a2, a3, a4, a5] (.int x :: st) I J Q := A_iload_n (q := 1) (ab_io ci194 (by decide +kernel)) rfl
theorem k194_1 : At 194 1 ls [.int p0] I J Q ↔ Cal 189 [.int p0] I J (fun v I' J' => At 194 4 ls (v.toList ++ []) I' J' Q) := A_cal (kd := 1) (j := 123) (na := 1) (ea := 1) (rk := 0) (by decide +kernel) rfl rfl rfl (Or.inl rfl) (Nat.le_of_ble_eq_true rfl)
theorem k194_4 : At 194 4 ls (.int x :: st) I J Q ↔ if x = 0 then At 194 16 ls st I J Q else At 194 7 ls st I J Q := A_ifCond_eq (o := 12) (ab_io ci194 (by decide +kernel)) (by decide)
theorem k194_7 : At 194 7 [a0, a1, some (.int x), a3, a4, a5] st I J Q ↔ At 194 8 [a0, a1, some (.int x), a3, a4, a5] (.int x :: st) I J Q := A_iload_n (q := 2) (ab_io ci194 (by decide +kernel)) rfl
theorem k194_8 : At 194 8 ls st I J Q ↔ At 194 9 ls (.int (nI 0) :: st) I J Q := A_iconst (ab_io ci194 (by decide +kernel)) ic_0
theorem k194_9 : At 194 9 ls st I J Q ↔ At 194 10 ls (.int (nI 2) :: st) I J Q := A_iconst (ab_io ci194 (by decide +kernel)) ic_2
theorem k194_10 : At 194 10 ls [.int p0, .int p1, .int p2] I J Q ↔ Cal 126 [.int p2, .int p1, .int p0] I J (fun v I' J' => At 194 13 ls (v.toList ++ []) I' J' Q) := A_cal (kd := 1) (j := 101) (na := 3) (ea := 3) (rk := 0) (by decide +kernel) rfl rfl rfl (Or.inl rfl) (Nat.le_of_ble_eq_true rfl)
theorem k194_13 : At 194 13 ls (.int x :: st) I J Q ↔ if ¬ x = 0 then At 194 19 ls st I J Q else At 194 16 ls st I J Q := A_ifCond_ne (o := 6) (ab_io ci194 (by decide +kernel)) (by decide)
theorem k194_16 : At 194 16 ls st I J Q ↔ At 194 18 ls (.int (-2) :: st) I J Q := A_bipush (ab_io ci194 (by decide +kernel)) bc_m2
theorem k194_18 : At 194 18 ls [.int x] I J Q ↔ Q (some (.int x)) I J := A_iret (ab_io ci194 (by decide +kernel)) rt194
theorem k194_19 : At 194 19 [some (.ref r), a1, a2, a3, a4, a5] st I J Q ↔ At 194 20 [some (.ref r), a1, a2, a3, a4, a5] (.ref r :: st) I J Q := A_aload_n (q := 0) (ab_io ci194 (by decide +kernel)) rfl
theorem k194_20 : At 194 20 [a0, some (.int x), a2, a3, a4, a5] st I J Q ↔ At 194 21 [a0, some (.int x), a2, a3, a4, a5] (.int x :: st) I J Q := A_iload_n (q := 1) (ab_io ci194 (by decide +kernel)) rfl
theorem k194_21 : At 194 21 [a0, a1, some (.int x), a3, a4, a5] st I J Q ↔ At 194 22 [a0, a1, some (.int x), a3, a4, a5] (.int x :: st) I J Q := A_iload_n (q := 2) (ab_io ci194 (by decide +kernel)) rfl
theorem k194_22 : At 194 22 [a0, a1, a2, some (.int x), a4, a5] st I J Q ↔ At 194 23 [a0, a1, a2, some (.int x), a4, a5] (.int x :: st) I J Q := A_iload_n (q := 3) (ab_io ci194 (by decide +kernel)) rfl
theorem k194_23 : At 194 23 ls [.int p0, .int p1, .int p2, .ref 49] I J Q ↔ Cal 192 [.ref 49, .int p2, .int p1, .int p0] I J (fun v I' J' => At 194 26 ls (v.toList ++ []) I' J' Q) := A_cal (kd := 0) (j := 274) (na := 4) (ea := 4) (rk := 49) (by decide +kernel) rfl rfl rfl (Or.inr rfl) (Nat.le_of_ble_eq_true rfl)
theorem k194_26 : At 194 26 [a0, a1, a2, a3, a4, a5] (.int x :: st) I J Q ↔ At 194 28 [a0, a1, a2, a3, ab_nv a4, some (.int x)] st I J Q := A_istore (q := 5) (ab_io ci194 (by decide +kernel)) (Nat.le_of_ble_eq_true rfl) rfl
theorem k194_28 : At 194 28 [a0, a1, a2, a3, a4, some (.int x)] st I J Q ↔ At 194 30 [a0, a1, a2, a3, a4, some (.int x)] (.int x :: st) I J Q := A_iload (q := 5) (ab_io ci194 (by decide +kernel)) rfl
theorem k194_30 : At 194 30 ls (.int x :: st) I J Q ↔ if x ≤ 0 then At 194 40 ls st I J Q else At 194 33 ls st I J Q := A_ifCond_le (o := 10) (ab_io ci194 (by decide +kernel)) (by decide)
theorem k194_33 : At 194 33 [some (.ref r), a1, a2, a3, a4, a5] st I J Q ↔ At 194 34 [some (.ref r), a1, a2, a3, a4, a5] (.ref r :: st) I J Q := A_aload_n (q := 0) (ab_io ci194 (by decide +kernel)) rfl
theorem k194_34 : At 194 34 [a0, a1, a2, a3, a4, some (.int x)] st I J Q ↔ At 194 36 [a0, a1, a2, a3, a4, some (.int x)] (.int x :: st) I J Q := A_iload (q := 5) (ab_io ci194 (by decide +kernel)) rfl
theorem k194_36 : At 194 36 ls [.int p0, .ref 49] I J Q ↔ Cal 188 [.ref 49, .int p0] I J (fun v I' J' => At 194 39 ls (v.toList ++ []) I' J' Q) := A_cal (kd := 0) (j := 126) (na := 2) (ea := 2) (rk := 49) (by decide +kernel) rfl rfl rfl (Or.inr rfl) (Nat.le_of_ble_eq_true rfl)
theorem k194_39 : At 194 39 ls [.int x] I J Q ↔ Q (some (.int x)) I J := A_iret (ab_io ci194 (by decide +kernel)) rt194
theorem k194_40 : At 194 40 [some (.ref r), a1, a2, a3, a4, a5] st I J Q ↔ At 194 41 [some (.ref r), a1, a2, a3, a4, a5] (.ref r :: st) I J Q := A_aload_n (q := 0) (ab_io ci194 (by decide +kernel)) rfl
theorem k194_41 : At 194 41 [a0, some (.int x), a2, a3, a4, a5] st I J Q ↔ At 194 42 [a0, some (.int x), a2, a3, a4, a5] (.int x :: st) I J Q := A_iload_n (q := 1) (ab_io ci194 (by decide +kernel)) rfl
theorem k194_42 : At 194 42 [a0, a1, a2, some (.int x), a4, a5] st I J Q ↔ At 194 43 [a0, a1, a2, some (.int x), a4, a5] (.int x :: st) I J Q := A_iload_n (q := 3) (ab_io ci194 (by decide +kernel)) rfl
theorem k194_43 : At 194 43 [a0, a1, a2, a3, some (.int x), a5] st I J Q ↔ At 194 45 [a0, a1, a2, a3, some (.int x), a5] (.int x :: st) I J Q := A_iload (q := 4) (ab_io ci194 (by decide +kernel)) rfl
theorem k194_45 : At 194 45 ls [.int p0, .int p1, .int p2, .ref 49] I J Q ↔ Cal 193 [.ref 49, .int p2, .int p1, .int p0] I J (fun v I' J' => At 194 48 ls (v.toList ++ []) I' J' Q) := A_cal (kd := 0) (j := 278) (na := 4) (ea := 4) (rk := 49) (by decide +kernel) rfl rfl rfl (Or.inr rfl) (Nat.le_of_ble_eq_true rfl)
theorem k194_48 : At 194 48 ls st I J Q ↔ At 194 49 ls (.int (nI 1) :: st) I J Q := A_iconst (ab_io ci194 (by decide +kernel)) ic_1
theorem k194_49 : At 194 49 ls [.int x] I J Q ↔ Q (some (.int x)) I J := A_iret (ab_io ci194 (by decide +kernel)) rt194
theorem k195_0 : At 195 0 [a0, some (.int x), a2, a3, a4] st I J Q ↔ At 195 1 [a0, some (.int x), a2, a3, a4] (.int x :: st) I J Q := A_iload_n (q := 1) (ab_io ci195 (by decide +kernel)) rfl
theorem k195_1 : At 195 1 ls [.int p0] I J Q ↔ Cal 189 [.int p0] I J (fun v I' J' => At 195 4 ls (v.toList ++ []) I' J' Q) := A_cal (kd := 1) (j := 123) (na := 1) (ea := 1) (rk := 0) (by decide +kernel) rfl rfl rfl (Or.inl rfl) (Nat.le_of_ble_eq_true rfl)
theorem k195_4 : At 195 4 ls (.int x :: st) I J Q ↔ if x = 0 then At 195 16 ls st I J Q else At 195 7 ls st I J Q := A_ifCond_eq (o := 12) (ab_io ci195 (by decide +kernel)) (by decide)
theorem k195_7 : At 195 7 [a0, a1, some (.int x), a3, a4] st I J Q ↔ At 195 8 [a0, a1, some (.int x), a3, a4] (.int x :: st) I J Q := A_iload_n (q := 2) (ab_io ci195 (by decide +kernel)) rfl
theorem k195_8 : At 195 8 ls st I J Q ↔ At 195 9 ls (.int (nI 0) :: st) I J Q := A_iconst (ab_io ci195 (by decide +kernel)) ic_0
theorem k195_9 : At 195 9 ls st I J Q ↔ At 195 10 ls (.int (nI 2) :: st) I J Q := A_iconst (ab_io ci195 (by decide +kernel)) ic_2
theorem k195_10 : At 195 10 ls [.int p0, .int p1, .int p2] I J Q ↔ Cal 126 [.int p2, .int p1, .int p0] I J (fun v I' J' => At 195 13 ls (v.toList ++ []) I' J' Q) := A_cal (kd := 1) (j := 101) (na := 3) (ea := 3) (rk := 0) (by decide +kernel) rfl rfl rfl (Or.inl rfl) (Nat.le_of_ble_eq_true rfl)
theorem k195_13 : At 195 13 ls (.int x :: st) I J Q ↔ if ¬ x = 0 then At 195 20 ls st I J Q else At 195 16 ls st I J Q := A_ifCond_ne (o := 7) (ab_io ci195 (by decide +kernel)) (by decide)
theorem k195_16 : At 195 16 ls st I J Q ↔ At 195 19 ls (.int (-2147483648) :: st) I J Q := A_ldc_w (j := 282) (q := 1232) (ab_io ci195 (by decide +kernel)) ow195 (by decide +kernel)
theorem k195_19 : At 195 19 ls [.int x] I J Q ↔ Q (some (.int x)) I J := A_iret (ab_io ci195 (by decide +kernel)) rt195
theorem k195_20 : At 195 20 [some (.ref r), a1, a2, a3, a4] st I J Q ↔ At 195 21 [some (.ref r), a1, a2, a3, a4] (.ref r :: st) I J Q := A_aload_n (q := 0) (ab_io ci195 (by decide +kernel)) rfl
theorem k195_21 : At 195 21 [a0, some (.int x), a2, a3, a4] st I J Q ↔ At 195 22 [a0, some (.int x), a2, a3, a4] (.int x :: st) I J Q := A_iload_n (q := 1) (ab_io ci195 (by decide +kernel)) rfl
theorem k195_22 : At 195 22 [a0, a1, some (.int x), a3, a4] st I J Q ↔ At 195 23 [a0, a1, some (.int x), a3, a4] (.int x :: st) I J Q := A_iload_n (q := 2) (ab_io ci195 (by decide +kernel)) rfl
theorem k195_23 : At 195 23 [a0, a1, a2, some (.int x), a4] st I J Q ↔ At 195 24 [a0, a1, a2, some (.int x), a4] (.int x :: st) I J Q := A_iload_n (q := 3) (ab_io ci195 (by decide +kernel)) rfl
theorem k195_24 : At 195 24 ls [.int p0, .int p1, .int p2, .ref 49] I J Q ↔ Cal 192 [.ref 49, .int p2, .int p1, .int p0] I J (fun v I' J' => At 195 27 ls (v.toList ++ []) I' J' Q) := A_cal (kd := 0) (j := 274) (na := 4) (ea := 4) (rk := 49) (by decide +kernel) rfl rfl rfl (Or.inr rfl) (Nat.le_of_ble_eq_true rfl)
theorem k195_27 : At 195 27 [a0, a1, a2, a3, a4] (.int x :: st) I J Q ↔ At 195 29 [a0, a1, a2, ab_nv a3, some (.int x)] st I J Q := A_istore (q := 4) (ab_io ci195 (by decide +kernel)) (Nat.le_of_ble_eq_true rfl) rfl
theorem k195_29 : At 195 29 [a0, a1, a2, a3, some (.int x)] st I J Q ↔ At 195 31 [a0, a1, a2, a3, some (.int x)] (.int x :: st) I J Q := A_iload (q := 4) (ab_io ci195 (by decide +kernel)) rfl
theorem k195_31 : At 195 31 ls (.int x :: st) I J Q ↔ if x ≤ 0 then At 195 44 ls st I J Q else At 195 34 ls st I J Q := A_ifCond_le (o := 13) (ab_io ci195 (by decide +kernel)) (by decide)
theorem k195_34 : At 195 34 [some (.ref r), a1, a2, a3, a4] st I J Q ↔ At 195 35 [some (.ref r), a1, a2, a3, a4] (.ref r :: st) I J Q := A_aload_n (q := 0) (ab_io ci195 (by decide +kernel)) rfl
theorem k195_35 : At 195 35 [a0, a1, a2, a3, some (.int x)] st I J Q ↔ At 195 37 [a0, a1, a2, a3, some (.int x)] (.int x :: st) I J Q := A_iload (q := 4) (ab_io ci195 (by decide +kernel)) rfl
theorem k195_37 : At 195 37 ls (.int x :: .ref 49 :: st) I J Q ↔ At 195 40 ls st (va_up I 49 (va_up (I 49) 40 x)) J Q := A_putI (ab_io ci195 (by decide +kernel)) ow195 fq8_271_49
theorem k195_40 : At 195 40 ls st I J Q ↔ At 195 43 ls (.int (-2147483648) :: st) I J Q := A_ldc_w (j := 282) (q := 1232) (ab_io ci195 (by decide +kernel)) ow195 (by decide +kernel)
theorem k195_43 : At 195 43 ls [.int x] I J Q ↔ Q (some (.int x)) I J := A_iret (ab_io ci195 (by decide +kernel)) rt195
theorem k195_44 : At 195 44 [some (.ref r), a1, a2, a3, a4] st I J Q ↔ At 195 45 [some (.ref r), a1, a2, a3, a4] (.ref r :: st) I J Q := A_aload_n (q := 0) (ab_io ci195 (by decide +kernel)) rfl
theorem k195_45 : At 195 45 ls (.ref 49 :: st) I J Q ↔ At 195 48 ls (.ref 73 :: st) I J Q := A_getR (ab_io ci195 (by decide +kernel)) ow195 fq8_85_49
theorem k195_48 : At 195 48 ls st I J Q ↔ At 195 50 ls (.int (nI 48) :: st) I J Q := A_bipush (ab_io ci195 (by decide +kernel)) bc_48
theorem k195_50 : At 195 50 [a0, some (.int x), a2, a3, a4] st I J Q ↔ At 195 51 [a0, some (.int x), a2, a3, a4] (.int x :: st) I J Q := A_iload_n (q := 1) (ab_io ci195 (by decide +kernel)) rfl
theorem k195_51 : At 195 51 ls (.int x1 :: .int x :: st) I J Q ↔ At 195 52 ls (.int (x * x1) :: st) I J Q := A_imul (ab_io ci195 (by decide +kernel))
theorem k195_52 : At 195 52 [a0, a1, a2, some (.int x), a4] st I J Q ↔ At 195 53 [a0, a1, a2, some (.int x), a4] (.int x :: st) I J Q := A_iload_n (q := 3) (ab_io ci195 (by decide +kernel)) rfl
theorem k195_53 : At 195 53 ls (.int x1 :: .int x :: st) I J Q ↔ At 195 54 ls (.int (x + x1) :: st) I J Q := A_iadd (ab_io ci195 (by decide +kernel))
theorem k195_54 : At 195 54 ls (.int x :: .ref r :: st) I J Q ↔ ((ab_ly r).1 = 1 ∧ r < 75 ∧ 0 ≤ x.toInt ∧ x.toInt < (ab_ly r).2) ∧ At 195 55 ls (.int (I r x.toNatClampNeg) :: st) I J Q := A_iaload (ab_io ci195 (by decide +kernel))
theorem k195_55 : At 195 55 ls [.int x] I J Q ↔ Q (some (.int x)) I J := A_iret (ab_io ci195 (by decide +kernel)) rt195
theorem k196_0 : At 196 0 [a0, some (.int x), a2, a3, a4, a5, a6] st I J Q ↔ At 196 1 [a0, some (.int x), a2, a3, a4, a5, a6] (.int x :: st) I J Q := A_iload_n (q := 1) (ab_io ci196 (by decide +kernel)) rfl
theorem k196_1 : At 196 1 ls [.int p0] I J Q ↔ Cal 189 [.int p0] I J (fun v I' J' => At 196 4 ls (v.toList ++ []) I' J' Q) := A_cal (kd := 1) (j := 123) (na := 1) (ea := 1) (rk := 0) (by decide +kernel) rfl rfl rfl (Or.inl rfl) (Nat.le_of_ble_eq_true rfl)
theorem k196_4 : At 196 4 ls (.int x :: st) I J Q ↔ if x = 0 then At 196 14 ls st I J Q else At 196 7 ls st I J Q := A_ifCond_eq (o := 10) (ab_io ci196 (by decide +kernel)) (by decide)
theorem k196_7 : At 196 7 [a0, a1, a2, some (.int x), a4, a5, a6] st I J Q ↔ At 196 8 [a0, a1, a2, some (.int x), a4, a5, a6] (.int x :: st) I J Q := A_iload_n (q := 3) (ab_io ci196 (by decide +kernel)) rfl
theorem k196_8 : At 196 8 ls [.int p0] I J Q ↔ Cal 189 [.int p0] I J (fun v I' J' => At 196 11 ls (v.toList ++ []) I' J' Q) := A_cal (kd := 1) (j := 123) (na := 1) (ea := 1) (rk := 0) (by decide +kernel) rfl rfl rfl (Or.inl rfl) (Nat.le_of_ble_eq_true rfl)
theorem k196_11 : At 196 11 ls (.int x :: st) I J Q ↔ if ¬ x = 0 then At 196 17 ls st I J Q else At 196 14 ls st I J Q := A_ifCond_ne (o := 6) (ab_io ci196 (by decide +kernel)) (by decide)
theorem k196_14 : At 196 14 ls st I J Q ↔ At 196 16 ls (.int (-2) :: st) I J Q := A_bipush (ab_io ci196 (by decide +kernel)) bc_m2
theorem k196_16 : At 196 16 ls [.int x] I J Q ↔ Q (some (.int x)) I J := A_iret (ab_io ci196 (by decide +kernel)) rt196
theorem k196_17 : At 196 17 [some (.ref r), a1, a2, a3, a4, a5, a6] st I J Q ↔ At 196 18 [some (.ref r), a1, a2, a3, a4, a5, a6] (.ref r :: st) I J Q := A_aload_n (q := 0) (ab_io ci196 (by decide +kernel)) rfl
theorem k196_18 : At 196 18 ls (.ref 49 :: st) I J Q ↔ At 196 21 ls (.ref 70 :: st) I J Q := A_getR (ab_io ci196 (by decide +kernel)) ow196 fq8_75_49
theorem k196_21 : At 196 21 [a0, some (.int x), a2, a3, a4, a5, a6] st I J Q ↔ At 196 22 [a0, some (.int x), a2, a3, a4, a5, a6] (.int x :: st) I J Q := A_iload_n (q := 1) (ab_io ci196 (by decide +kernel)) rfl
theorem k196_22 : At 196 22 ls (.int x :: .ref r :: st) I J Q ↔ ((ab_ly r).1 = 3 ∧ r < 75 ∧ 0 ≤ x.toInt ∧ x.toInt < (ab_ly r).2) ∧ At 196 23 ls (.int (I r x.toNatClampNeg) :: st) I J Q := A_baload (ab_io ci196 (by decide +kernel))
theorem k196_23 : At 196 23 ls (.int x :: st) I J Q ↔ if x = 0 then At 196 35 ls st I J Q else At 196 26 ls st I J Q := A_ifCond_eq (o := 12) (ab_io ci196 (by decide +kernel)) (by decide)
theorem k196_26 : At 196 26 [some (.ref r), a1, a2, a3, a4, a5, a6] st I J Q ↔ At 196 27 [some (.ref r), a1, a2, a3, a4, a5, a6] (.ref r :: st) I J Q := A_aload_n (q := 0) (ab_io ci196 (by decide +kernel)) rfl
theorem k196_27 : At 196 27 ls (.ref 49 :: st) I J Q ↔ At 196 30 ls (.ref 70 :: st) I J Q := A_getR (ab_io ci196 (by decide +kernel)) ow196 fq8_75_49
theorem k196_30 : At 196 30 [a0, a1, a2, some (.int x), a4, a5, a6] st I J Q ↔ At 196 31 [a0, a1, a2, some (.int x), a4, a5, a6] (.int x :: st) I J Q := A_iload_n (q := 3) (ab_io ci196 (by decide +kernel)) rfl
theorem k196_31 : At 196 31 ls (.int x :: .ref r :: st) I J Q ↔ ((ab_ly r).1 = 3 ∧ r < 75 ∧ 0 ≤ x.toInt ∧ x.toInt < (ab_ly r).2) ∧ At 196 32 ls (.int (I r x.toNatClampNeg) :: st) I J Q := A_baload (ab_io ci196 (by decide +kernel))
theorem k196_32 : At 196 32 ls (.int x :: st) I J Q ↔ if ¬ x = 0 then At 196 41 ls st I J Q else At 196 35 ls st I J Q := A_ifCond_ne (o := 9) (ab_io ci196 (by decide +kernel)) (by decide)
theorem k196_35 : At 196 35 [some (.ref r), a1, a2, a3, a4, a5, a6] st I J Q ↔ At 196 36 [some (.ref r), a1, a2, a3, a4, a5, a6] (.ref r :: st) I J Q := A_aload_n (q := 0) (ab_io ci196 (by decide +kernel)) rfl
theorem k196_36 : At 196 36 ls st I J Q ↔ At 196 37 ls (.int (nI 1) :: st) I J Q := A_iconst (ab_io ci196 (by decide +kernel)) ic_1
theorem k196_37 : At 196 37 ls [.int p0, .ref 49] I J Q ↔ Cal 188 [.ref 49, .int p0] I J (fun v I' J' => At 196 40 ls (v.toList ++ []) I' J' Q) := A_cal (kd := 0) (j := 126) (na := 2) (ea := 2) (rk := 49) (by decide +kernel) rfl rfl rfl (Or.inr rfl) (Nat.le_of_ble_eq_true rfl)
theorem k196_40 : At 196 40 ls [.int x] I J Q ↔ Q (some (.int x)) I J := A_iret (ab_io ci196 (by decide +kernel)) rt196
theorem k196_41 : At 196 41 [some (.ref r), a1, a2, a3, a4, a5, a6] st I J Q ↔ At 196 42 [some (.ref r), a1, a2, a3, a4, a5, a6] (.ref r :: st) I J Q := A_aload_n (q := 0) (ab_io ci196 (by decide +kernel)) rfl
theorem k196_42 : At 196 42 ls (.ref 49 :: st) I J Q ↔ At 196 45 ls (.ref 71 :: st) I J Q := A_getR (ab_io ci196 (by decide +kernel)) ow196 fq8_79_49
theorem k196_45 : At 196 45 [a0, some (.int x), a2, a3, a4, a5, a6] st I J Q ↔ At 196 46 [a0, some (.int x), a2, a3, a4, a5, a6] (.int x :: st) I J Q := A_iload_n (q := 1) (ab_io ci196 (by decide +kernel)) rfl
theorem k196_46 : At 196 46 ls (.int x :: .ref r :: st) I J Q ↔ ((ab_ly r).1 = 1 ∧ r < 75 ∧ 0 ≤ x.toInt ∧ x.toInt < (ab_ly r).2) ∧ At 196 47 ls (.int (I r x.toNatClampNeg) :: st) I J Q := A_iaload (ab_io ci196 (by decide +kernel))
theorem k196_47 : At 196 47 [some (.ref r), a1, a2, a3, a4, a5, a6] st I J Q ↔ At 196 48 [some (.ref r), a1, a2, a3, a4, a5, a6] (.ref r :: st) I J Q := A_aload_n (q := 0) (ab_io ci196 (by decide +kernel)) rfl
theorem k196_48 : At 196 48 ls (.ref 49 :: st) I J Q ↔ At 196 51 ls (.ref 71 :: st) I J Q := A_getR (ab_io ci196 (by decide +kernel)) ow196 fq8_79_49
theorem k196_51 : At 196 51 [a0, a1, a2, some (.int x), a4, a5, a6] st I J Q ↔ At 196 52 [a0, a1, a2, some (.int x), a4, a5, a6] (.int x :: st) I J Q := A_iload_n (q := 3) (ab_io ci196 (by decide +kernel)) rfl
theorem k196_52 : At 196 52 ls (.int x :: .ref r :: st) I J Q ↔ ((ab_ly r).1 = 1 ∧ r < 75 ∧ 0 ≤ x.toInt ∧ x.toInt < (ab_ly r).2) ∧ At 196 53 ls (.int (I r x.toNatClampNeg) :: st) I J Q := A_iaload (ab_io ci196 (by decide +kernel))
theorem k196_53 : At 196 53 ls (.int x1 :: .int x :: st) I J Q ↔ if x = x1 then At 196 62 ls st I J Q else At 196 56 ls st I J Q := A_if_icmp_eq (o := 9) (ab_io ci196 (by decide +kernel)) (by decide)
theorem k196_56 : At 196 56 [some (.ref r), a1, a2, a3, a4, a5, a6] st I J Q ↔ At 196 57 [some (.ref r), a1, a2, a3, a4, a5, a6] (.ref r :: st) I J Q := A_aload_n (q := 0) (ab_io ci196 (by decide +kernel)) rfl
theorem k196_57 : At 196 57 ls st I J Q ↔ At 196 58 ls (.int (nI 4) :: st) I J Q := A_iconst (ab_io ci196 (by decide +kernel)) ic_4
theorem k196_58 : At 196 58 ls [.int p0, .ref 49] I J Q ↔ Cal 188 [.ref 49, .int p0] I J (fun v I' J' => At 196 61 ls (v.toList ++ []) I' J' Q) := A_cal (kd := 0) (j := 126) (na := 2) (ea := 2) (rk := 49) (by decide +kernel) rfl rfl rfl (Or.inr rfl) (Nat.le_of_ble_eq_true rfl)
theorem k196_61 : At 196 61 ls [.int x] I J Q ↔ Q (some (.int x)) I J := A_iret (ab_io ci196 (by decide +kernel)) rt196
theorem k196_62 : At 196 62 [a0, a1, some (.int x), a3, a4, a5, a6] st I J Q ↔ At 196 63 [a0, a1, some (.int x), a3, a4, a5, a6] (.int x :: st) I J Q := A_iload_n (q := 2) (ab_io ci196 (by decide +kernel)) rfl
theorem k196_63 : At 196 63 ls (.int x :: st) I J Q ↔ if x < 0 then At 196 111 ls st I J Q else At 196 66 ls st I J Q := A_ifCond_lt (o := 48) (ab_io ci196 (by decide +kernel)) (by decide)
theorem k196_66 : At 196 66 [a0, a1, a2, a3, some (.int x), a5, a6] st I J Q ↔ At 196 68 [a0, a1, a2, a3, some (.int x), a5, a6] (.int x :: st) I J Q := A_iload (q := 4) (ab_io ci196 (by decide +kernel)) rfl
theorem k196_68 : At 196 68 ls (.int x :: st) I J Q ↔ if x < 0 then At 196 111 ls st I J Q else At 196 71 ls st I J Q := A_ifCond_lt (o := 43) (ab_io ci196 (by decide +kernel)) (by decide)
theorem k196_71 : At 196 71 [a0, a1, a2, a3, a4, some (.int x), a6] st I J Q ↔ At 196 73 [a0, a1, a2, a3, a4, some (.int x), a6] (.int x :: st) I J Q := A_iload (q := 5) (ab_io ci196 (by decide +kernel)) rfl
theorem k196_73 : At 196 73 ls (.int x :: st) I J Q ↔ if x < 0 then At 196 111 ls st I J Q else At 196 76 ls st I J Q := A_ifCond_lt (o := 38) (ab_io ci196 (by decide +kernel)) (by decide)
theorem k196_76 : At 196 76 [a0, a1, some (.int x), a3, a4, a5, a6] st I J Q ↔ At 196 77 [a0, a1, some (.int x), a3, a4, a5, a6] (.int x :: st) I J Q := A_iload_n (q := 2) (ab_io ci196 (by decide +kernel)) rfl
theorem k196_77 : At 196 77 ls (.int x :: st) I J Q ↔ At 196 78 ls (.long x.toInt64 :: st) I J Q := A_i2l (ab_io ci196 (by decide +kernel))
theorem k196_78 : At 196 78 [a0, a1, a2, a3, a4, some (.int x), a6] st I J Q ↔ At 196 80 [a0, a1, a2, a3, a4, some (.int x), a6] (.int x :: st) I J Q := A_iload (q := 5) (ab_io ci196 (by decide +kernel)) rfl
theorem k196_80 : At 196 80 ls (.int x :: st) I J Q ↔ At 196 81 ls (.long x.toInt64 :: st) I J Q := A_i2l (ab_io ci196 (by decide +kernel))
theorem k196_81 : At 196 81 ls (.long u1 :: .long u :: st) I J Q ↔ At 196 82 ls (.long (u + u1) :: st) I J Q := A_ladd (ab_io ci196 (by decide +kernel))
theorem k196_82 : At 196 82 [some (.ref r), a1, a2, a3, a4, a5, a6] st I J Q ↔ At 196 83 [some (.ref r), a1, a2, a3, a4, a5, a6] (.ref r :: st) I J Q := A_aload_n (q := 0) (ab_io ci196 (by decide +kernel)) rfl
theorem k196_83 : At 196 83 ls (.ref 49 :: st) I J Q ↔ At 196 86 ls (.ref 72 :: st) I J Q := A_getR (ab_io ci196 (by decide +kernel)) ow196 fq8_82_49
theorem k196_86 : At 196 86 [a0, some (.int x), a2, a3, a4, a5, a6] st I J Q ↔ At 196 87 [a0, some (.int x), a2, a3, a4, a5, a6] (.int x :: st) I J Q := A_iload_n (q := 1) (ab_io ci196 (by decide +kernel)) rfl
theorem k196_87 : At 196 87 ls (.int x :: .ref r :: st) I J Q ↔ ((ab_ly r).1 = 1 ∧ r < 75 ∧ 0 ≤ x.toInt ∧ x.toInt < (ab_ly r).2) ∧ At 196 88 ls (.int (I r x.toNatClampNeg) :: st) I J Q := A_iaload (ab_io ci196 (by decide +kernel))
theorem k196_88 : At 196 88 ls (.int x :: st) I J Q ↔ At 196 89 ls (.long x.toInt64 :: st) I J Q := A_i2l (ab_io ci196 (by decide +kernel))
theorem k196_89 : At 196 89 ls (.long u1 :: .long u :: st) I J Q ↔ At 196 90 ls (.int (lg_cmp u u1) :: st) I J Q := A_lcmp (ab_io ci196 (by decide +kernel))
theorem k196_90 : At 196 90 ls (.int x :: st) I J Q ↔ if 0 < x then At 196 111 ls st I J Q else At 196 93 ls st I J Q := A_ifCond_gt (o := 21) (ab_io ci196 (by decide +kernel)) (by decide)
theorem k196_93 : At 196 93 [a0, a1, a2, a3, some (.int x), a5, a6] st I J Q ↔ At 196 95 [a0, a1, a2, a3, some (.int x), a5, a6] (.int x :: st) I J Q := A_iload (q := 4) (ab_io ci196 (by decide +kernel)) rfl
theorem k196_95 : At 196 95 ls (.int x :: st) I J Q ↔ At 196 96 ls (.long x.toInt64 :: st) I J Q := A_i2l (ab_io ci196 (by decide +kernel))
theorem k196_96 : At 196 96 [a0, a1, a2, a3, a4, some (.int x), a6] st I J Q ↔ At 196 98 [a0, a1, a2, a3, a4, some (.int x), a6] (.int x :: st) I J Q := A_iload (q := 5) (ab_io ci196 (by decide +kernel)) rfl
theorem k196_98 : At 196 98 ls (.int x :: st) I J Q ↔ At 196 99 ls (.long x.toInt64 :: st) I J Q := A_i2l (ab_io ci196 (by decide +kernel))
theorem k196_99 : At 196 99 ls (.long u1 :: .long u :: st) I J Q ↔ At 196 100 ls (.long (u + u1) :: st) I J Q := A_ladd (ab_io ci196 (by decide +kernel))
theorem k196_100 : At 196 100 [some (.ref r), a1, a2, a3, a4, a5, a6] st I J Q ↔ At 196 101 [some (.ref r), a1, a2, a3, a4, a5, a6] (.ref r :: st) I J Q := A_aload_n (q := 0) (ab_io ci196 (by decide +kernel)) rfl
theorem k196_101 : At 196 101 ls (.ref 49 :: st) I J Q ↔ At 196 104 ls (.ref 72 :: st) I J Q := A_getR (ab_io ci196 (by decide +kernel)) ow196 fq8_82_49
theorem k196_104 : At 196 104 [a0, a1, a2, some (.int x), a4, a5, a6] st I J Q ↔ At 196 105 [a0, a1, a2, some (.int x), a4, a5, a6] (.int x :: st) I J Q := A_iload_n (q := 3) (ab_io ci196 (by decide +kernel)) rfl
theorem k196_105 : At 196 105 ls (.int x :: .ref r :: st) I J Q ↔ ((ab_ly r).1 = 1 ∧ r < 75 ∧ 0 ≤ x.toInt ∧ x.toInt < (ab_ly r).2) ∧ At 196 106 ls (.int (I r x.toNatClampNeg) :: st) I J Q := A_iaload (ab_io ci196 (by decide +kernel))
theorem k196_106 : At 196 106 ls (.int x :: st) I J Q ↔ At 196 107 ls (.long x.toInt64 :: st) I J Q := A_i2l (ab_io ci196 (by decide +kernel))
theorem k196_107 : At 196 107 ls (.long u1 :: .long u :: st) I J Q ↔ At 196 108 ls (.int (lg_cmp u u1) :: st) I J Q := A_lcmp (ab_io ci196 (by decide +kernel))
theorem k196_108 : At 196 108 ls (.int x :: st) I J Q ↔ if x ≤ 0 then At 196 117 ls st I J Q else At 196 111 ls st I J Q := A_ifCond_le (o := 9) (ab_io ci196 (by decide +kernel)) (by decide)
theorem k196_111 : At 196 111 [some (.ref r), a1, a2, a3, a4, a5, a6] st I J Q ↔ At 196 112 [some (.ref r), a1, a2, a3, a4, a5, a6] (.ref r :: st) I J Q := A_aload_n (q := 0) (ab_io ci196 (by decide +kernel)) rfl
theorem k196_112 : At 196 112 ls st I J Q ↔ At 196 113 ls (.int (nI 2) :: st) I J Q := A_iconst (ab_io ci196 (by decide +kernel)) ic_2
theorem k196_113 : At 196 113 ls [.int p0, .ref 49] I J Q ↔ Cal 188 [.ref 49, .int p0] I J (fun v I' J' => At 196 116 ls (v.toList ++ []) I' J' Q) := A_cal (kd := 0) (j := 126) (na := 2) (ea := 2) (rk := 49) (by decide +kernel) rfl rfl rfl (Or.inr rfl) (Nat.le_of_ble_eq_true rfl)
theorem k196_116 : At 196 116 ls [.int x] I J Q ↔ Q (some (.int x)) I J := A_iret (ab_io ci196 (by decide +kernel)) rt196
theorem k196_117 : At 196 117 ls st I J Q ↔ At 196 118 ls (.int (nI 0) :: st) I J Q := A_iconst (ab_io ci196 (by decide +kernel)) ic_0
theorem k196_118 : At 196 118 [a0, a1, a2, a3, a4, a5, a6] (.int x :: st) I J Q ↔ At 196 120 [a0, a1, a2, a3, a4, ab_nv a5, some (.int x)] st I J Q := A_istore (q := 6) (ab_io ci196 (by decide +kernel)) (Nat.le_of_ble_eq_true rfl) rfl
theorem k196_120 : At 196 120 [a0, a1, a2, a3, a4, a5, some (.int x)] st I J Q ↔ At 196 122 [a0, a1, a2, a3, a4, a5, some (.int x)] (.int x :: st) I J Q := A_iload (q := 6) (ab_io ci196 (by decide +kernel)) rfl
theorem k196_122 : At 196 122 [a0, a1, a2, a3, a4, some (.int x), a6] st I J Q ↔ At 196 124 [a0, a1, a2, a3, a4, some (.int x), a6] (.int x :: st) I J Q := A_iload (q := 5) (ab_io ci196 (by decide +kernel)) rfl
theorem k196_124 : At 196 124 ls (.int x1 :: .int x :: st) I J Q ↔ if x1 ≤ x then At 196 154 ls st I J Q else At 196 127 ls st I J Q := A_if_icmp_ge (o := 30) (ab_io ci196 (by decide +kernel)) (by decide)
theorem k196_127 : At 196 127 [some (.ref r), a1, a2, a3, a4, a5, a6] st I J Q ↔ At 196 128 [some (.ref r), a1, a2, a3, a4, a5, a6] (.ref r :: st) I J Q := A_aload_n (q := 0) (ab_io ci196 (by decide +kernel)) rfl
theorem k196_128 : At 196 128 ls (.ref 49 :: st) I J Q ↔ At 196 131 ls (.ref 74 :: st) I J Q := A_getR (ab_io ci196 (by decide +kernel)) ow196 fq8_88_49
theorem k196_131 : At 196 131 [a0, a1, a2, a3, a4, a5, some (.int x)] st I J Q ↔ At 196 133 [a0, a1, a2, a3, a4, a5, some (.int x)] (.int x :: st) I J Q := A_iload (q := 6) (ab_io ci196 (by decide +kernel)) rfl
theorem k196_133 : At 196 133 [some (.ref r), a1, a2, a3, a4, a5, a6] st I J Q ↔ At 196 134 [some (.ref r), a1, a2, a3, a4, a5, a6] (.ref r :: st) I J Q := A_aload_n (q := 0) (ab_io ci196 (by decide +kernel)) rfl
theorem k196_134 : At 196 134 ls (.ref 49 :: st) I J Q ↔ At 196 137 ls (.ref 73 :: st) I J Q := A_getR (ab_io ci196 (by decide +kernel)) ow196 fq8_85_49
theorem k196_137 : At 196 137 ls st I J Q ↔ At 196 139 ls (.int (nI 48) :: st) I J Q := A_bipush (ab_io ci196 (by decide +kernel)) bc_48
theorem k196_139 : At 196 139 [a0, some (.int x), a2, a3, a4, a5, a6] st I J Q ↔ At 196 140 [a0, some (.int x), a2, a3, a4, a5, a6] (.int x :: st) I J Q := A_iload_n (q := 1) (ab_io ci196 (by decide +kernel)) rfl
theorem k196_140 : At 196 140 ls (.int x1 :: .int x :: st) I J Q ↔ At 196 141 ls (.int (x * x1) :: st) I J Q := A_imul (ab_io ci196 (by decide +kernel))
theorem k196_141 : At 196 141 [a0, a1, some (.int x), a3, a4, a5, a6] st I J Q ↔ At 196 142 [a0, a1, some (.int x), a3, a4, a5, a6] (.int x :: st) I J Q := A_iload_n (q := 2) (ab_io ci196 (by decide +kernel)) rfl
theorem k196_142 : At 196 142 ls (.int x1 :: .int x :: st) I J Q ↔ At 196 143 ls (.int (x + x1) :: st) I J Q := A_iadd (ab_io ci196 (by decide +kernel))
theorem k196_143 : At 196 143 [a0, a1, a2, a3, a4, a5, some (.int x)] st I J Q ↔ At 196 145 [a0, a1, a2, a3, a4, a5, some (.int x)] (.int x :: st) I J Q := A_iload (q := 6) (ab_io ci196 (by decide +kernel)) rfl
theorem k196_145 : At 196 145 ls (.int x1 :: .int x :: st) I J Q ↔ At 196 146 ls (.int (x + x1) :: st) I J Q := A_iadd (ab_io ci196 (by decide +kernel))
theorem k196_146 : At 196 146 ls (.int x :: .ref r :: st) I J Q ↔ ((ab_ly r).1 = 1 ∧ r < 75 ∧ 0 ≤ x.toInt ∧ x.toInt < (ab_ly r).2) ∧ At 196 147 ls (.int (I r x.toNatClampNeg) :: st) I J Q := A_iaload (ab_io ci196 (by decide +kernel))
theorem k196_147 : At 196 147 ls (.int x1 :: .int x :: .ref r :: st) I J Q ↔ ((ab_ly r).1 = 1 ∧ r < 75 ∧ 0 ≤ x.toInt ∧ x.toInt < (ab_ly r).2) ∧ At 196 148 ls st (va_up I r (va_up (I r) x.toNatClampNeg x1)) J Q := A_iastore (ab_io ci196 (by decide +kernel))
theorem k196_148 : At 196 148 [a0, a1, a2, a3, a4, a5, some (.int x)] st I J Q ↔ At 196 151 [a0, a1, a2, a3, a4, ab_nv a5, some (.int (x + (nI 1)))] st I J Q := A_iinc (q := 6) (ab_io ci196 (by decide +kernel)) ic_1 (Nat.le_of_ble_eq_true rfl) rfl rfl
theorem k196_151 : At 196 151 ls st I J Q ↔ At 196 120 ls st I J Q := A_goto (o := (-31)) (ab_io ci196 (by decide +kernel)) (by decide)
theorem k196_154 : At 196 154 ls st I J Q ↔ At 196 155 ls (.int (nI 0) :: st) I J Q := A_iconst (ab_io ci196 (by decide +kernel)) ic_0
theorem k196_155 : At 196 155 [a0, a1, a2, a3, a4, a5, a6] (.int x :: st) I J Q ↔ At 196 157 [a0, a1, a2, a3, a4, ab_nv a5, some (.int x)] st I J Q := A_istore (q := 6) (ab_io ci196 (by decide +kernel)) (Nat.le_of_ble_eq_true rfl) rfl
theorem k196_157 : At 196 157 [a0, a1, a2, a3, a4, a5, some (.int x)] st I J Q ↔ At 196 159 [a0, a1, a2, a3, a4, a5, some (.int x)] (.int x :: st) I J Q := A_iload (q := 6) (ab_io ci196 (by decide +kernel)) rfl
theorem k196_159 : At 196 159 [a0, a1, a2, a3, a4, some (.int x), a6] st I J Q ↔ At 196 161 [a0, a1, a2, a3, a4, some (.int x), a6] (.int x :: st) I J Q := A_iload (q := 5) (ab_io ci196 (by decide +kernel)) rfl
theorem k196_161 : At 196 161 ls (.int x1 :: .int x :: st) I J Q ↔ if x1 ≤ x then At 196 192 ls st I J Q else At 196 164 ls st I J Q := A_if_icmp_ge (o := 31) (ab_io ci196 (by decide +kernel)) (by decide)
theorem k196_164 : At 196 164 [some (.ref r), a1, a2, a3, a4, a5, a6] st I J Q ↔ At 196 165 [some (.ref r), a1, a2, a3, a4, a5, a6] (.ref r :: st) I J Q := A_aload_n (q := 0) (ab_io ci196 (by decide +kernel)) rfl
theorem k196_165 : At 196 165 ls (.ref 49 :: st) I J Q ↔ At 196 168 ls (.ref 73 :: st) I J Q := A_getR (ab_io ci196 (by decide +kernel)) ow196 fq8_85_49
theorem k196_168 : At 196 168 ls st I J Q ↔ At 196 170 ls (.int (nI 48) :: st) I J Q := A_bipush (ab_io ci196 (by decide +kernel)) bc_48
theorem k196_170 : At 196 170 [a0, a1, a2, some (.int x), a4, a5, a6] st I J Q ↔ At 196 171 [a0, a1, a2, some (.int x), a4, a5, a6] (.int x :: st) I J Q := A_iload_n (q := 3) (ab_io ci196 (by decide +kernel)) rfl
theorem k196_171 : At 196 171 ls (.int x1 :: .int x :: st) I J Q ↔ At 196 172 ls (.int (x * x1) :: st) I J Q := A_imul (ab_io ci196 (by decide +kernel))
theorem k196_172 : At 196 172 [a0, a1, a2, a3, some (.int x), a5, a6] st I J Q ↔ At 196 174 [a0, a1, a2, a3, some (.int x), a5, a6] (.int x :: st) I J Q := A_iload (q := 4) (ab_io ci196 (by decide +kernel)) rfl
theorem k196_174 : At 196 174 ls (.int x1 :: .int x :: st) I J Q ↔ At 196 175 ls (.int (x + x1) :: st) I J Q := A_iadd (ab_io ci196 (by decide +kernel))
theorem k196_175 : At 196 175 [a0, a1, a2, a3, a4, a5, some (.int x)] st I J Q ↔ At 196 177 [a0, a1, a2, a3, a4, a5, some (.int x)] (.int x :: st) I J Q := A_iload (q := 6) (ab_io ci196 (by decide +kernel)) rfl
theorem k196_177 : At 196 177 ls (.int x1 :: .int x :: st) I J Q ↔ At 196 178 ls (.int (x + x1) :: st) I J Q := A_iadd (ab_io ci196 (by decide +kernel))
theorem k196_178 : At 196 178 [some (.ref r), a1, a2, a3, a4, a5, a6] st I J Q ↔ At 196 179 [some (.ref r), a1, a2, a3, a4, a5, a6] (.ref r :: st) I J Q := A_aload_n (q := 0) (ab_io ci196 (by decide +kernel)) rfl
theorem k196_179 : At 196 179 ls (.ref 49 :: st) I J Q ↔ At 196 182 ls (.ref 74 :: st) I J Q := A_getR (ab_io ci196 (by decide +kernel)) ow196 fq8_88_49
theorem k196_182 : At 196 182 [a0, a1, a2, a3, a4, a5, some (.int x)] st I J Q ↔ At 196 184 [a0, a1, a2, a3, a4, a5, some (.int x)] (.int x :: st) I J Q := A_iload (q := 6) (ab_io ci196 (by decide +kernel)) rfl
theorem k196_184 : At 196 184 ls (.int x :: .ref r :: st) I J Q ↔ ((ab_ly r).1 = 1 ∧ r < 75 ∧ 0 ≤ x.toInt ∧ x.toInt < (ab_ly r).2) ∧ At 196 185 ls (.int (I r x.toNatClampNeg) :: st) I J Q := A_iaload (ab_io ci196 (by decide +kernel))
theorem k196_185 : At 196 185 ls (.int x1 :: .int x :: .ref r :: st) I J Q ↔ ((ab_ly r).1 = 1 ∧ r < 75 ∧ 0 ≤ x.toInt ∧ x.toInt < (ab_ly r).2) ∧ At 196 186 ls st (va_up I r (va_up (I r) x.toNatClampNeg x1)) J Q := A_iastore (ab_io ci196 (by decide +kernel))
theorem k196_186 : At 196 186 [a0, a1, a2, a3, a4, a5, some (.int x)] st I J Q ↔ At 196 189 [a0, a1, a2, a3, a4, ab_nv a5, some (.int (x + (nI 1)))] st I J Q := A_iinc (q := 6) (ab_io ci196 (by decide +kernel)) ic_1 (Nat.le_of_ble_eq_true rfl) rfl rfl
theorem k196_189 : At 196 189 ls st I J Q ↔ At 196 157 ls st I J Q := A_goto (o := (-32)) (ab_io ci196 (by decide +kernel)) (by decide)
theorem k196_192 : At 196 192 ls st I J Q ↔ At 196 193 ls (.int (nI 1) :: st) I J Q := A_iconst (ab_io ci196 (by decide +kernel)) ic_1
theorem k196_193 : At 196 193 ls [.int x] I J Q ↔ Q (some (.int x)) I J := A_iret (ab_io ci196 (by decide +kernel)) rt196
theorem k197_0 : At 197 0 [a0, some (.int x), a2, a3] st I J Q ↔ At 197 1 [a0, some (.int x), a2, a3] (.int x :: st) I J Q := A_iload_n (q := 1) (ab_io ci197 (by decide +kernel)) rfl
theorem k197_1 : At 197 1 ls [.int p0] I J Q ↔ Cal 132 [.int p0] I J (fun v I' J' => At 197 4 ls (v.toList ++ []) I' J' Q) := A_cal (kd := 1) (j := 112) (na := 1) (ea := 1) (rk := 0) (by decide +kernel) rfl rfl rfl (Or.inl rfl) (Nat.le_of_ble_eq_true rfl)
theorem k197_4 : At 197 4 ls (.int x :: st) I J Q ↔ if x = 0 then At 197 14 ls st I J Q else At 197 7 ls st I J Q := A_ifCond_eq (o := 10) (ab_io ci197 (by decide +kernel)) (by decide)
theorem k197_7 : At 197 7 [a0, a1, some (.int x), a3] st I J Q ↔ At 197 8 [a0, a1, some (.int x), a3] (.int x :: st) I J Q := A_iload_n (q := 2) (ab_io ci197 (by decide +kernel)) rfl
theorem k197_8 : At 197 8 ls [.int p0] I J Q ↔ Cal 189 [.int p0] I J (fun v I' J' => At 197 11 ls (v.toList ++ []) I' J' Q) := A_cal (kd := 1) (j := 123) (na := 1) (ea := 1) (rk := 0) (by decide +kernel) rfl rfl rfl (Or.inl rfl) (Nat.le_of_ble_eq_true rfl)
theorem k197_11 : At 197 11 ls (.int x :: st) I J Q ↔ if ¬ x = 0 then At 197 17 ls st I J Q else At 197 14 ls st I J Q := A_ifCond_ne (o := 6) (ab_io ci197 (by decide +kernel)) (by decide)
theorem k197_14 : At 197 14 ls st I J Q ↔ At 197 16 ls (.int (-2) :: st) I J Q := A_bipush (ab_io ci197 (by decide +kernel)) bc_m2
theorem k197_16 : At 197 16 ls [.int x] I J Q ↔ Q (some (.int x)) I J := A_iret (ab_io ci197 (by decide +kernel)) rt197
theorem k197_17 : At 197 17 [some (.ref r), a1, a2, a3] st I J Q ↔ At 197 18 [some (.ref r), a1, a2, a3] (.ref r :: st) I J Q := A_aload_n (q := 0) (ab_io ci197 (by decide +kernel)) rfl
theorem k197_18 : At 197 18 ls (.ref 49 :: st) I J Q ↔ At 197 21 ls (.ref 70 :: st) I J Q := A_getR (ab_io ci197 (by decide +kernel)) ow197 fq8_75_49
theorem k197_21 : At 197 21 [a0, a1, some (.int x), a3] st I J Q ↔ At 197 22 [a0, a1, some (.int x), a3] (.int x :: st) I J Q := A_iload_n (q := 2) (ab_io ci197 (by decide +kernel)) rfl
theorem k197_22 : At 197 22 ls (.int x :: .ref r :: st) I J Q ↔ ((ab_ly r).1 = 3 ∧ r < 75 ∧ 0 ≤ x.toInt ∧ x.toInt < (ab_ly r).2) ∧ At 197 23 ls (.int (I r x.toNatClampNeg) :: st) I J Q := A_baload (ab_io ci197 (by decide +kernel))
theorem k197_23 : At 197 23 ls (.int x :: st) I J Q ↔ if ¬ x = 0 then At 197 32 ls st I J Q else At 197 26 ls st I J Q := A_ifCond_ne (o := 9) (ab_io ci197 (by decide +kernel)) (by decide)
theorem k197_26 : At 197 26 [some (.ref r), a1, a2, a3] st I J Q ↔ At 197 27 [some (.ref r), a1, a2, a3] (.ref r :: st) I J Q := A_aload_n (q := 0) (ab_io ci197 (by decide +kernel)) rfl
theorem k197_27 : At 197 27 ls st I J Q ↔ At 197 28 ls (.int (nI 1) :: st) I J Q := A_iconst (ab_io ci197 (by decide +kernel)) ic_1
theorem k197_28 : At 197 28 ls [.int p0, .ref 49] I J Q ↔ Cal 188 [.ref 49, .int p0] I J (fun v I' J' => At 197 31 ls (v.toList ++ []) I' J' Q) := A_cal (kd := 0) (j := 126) (na := 2) (ea := 2) (rk := 49) (by decide +kernel) rfl rfl rfl (Or.inr rfl) (Nat.le_of_ble_eq_true rfl)
theorem k197_31 : At 197 31 ls [.int x] I J Q ↔ Q (some (.int x)) I J := A_iret (ab_io ci197 (by decide +kernel)) rt197
theorem k197_32 : At 197 32 [some (.ref r), a1, a2, a3] st I J Q ↔ At 197 33 [some (.ref r), a1, a2, a3] (.ref r :: st) I J Q := A_aload_n (q := 0) (ab_io ci197 (by decide +kernel)) rfl
theorem k197_33 : At 197 33 ls [.ref 49] I J Q ↔ Cal 138 [.ref 49] I J (fun v I' J' => At 197 36 ls (v.toList ++ []) I' J' Q) := A_cal (kd := 0) (j := 133) (na := 1) (ea := 1) (rk := 49) (by decide +kernel) rfl rfl rfl (Or.inr rfl) (Nat.le_of_ble_eq_true rfl)
theorem k197_36 : At 197 36 ls st I J Q ↔ At 197 37 ls (.int (nI 0) :: st) I J Q := A_iconst (ab_io ci197 (by decide +kernel)) ic_0
theorem k197_37 : At 197 37 [a0, a1, a2, a3] (.int x :: st) I J Q ↔ At 197 38 [a0, a1, ab_nv a2, some (.int x)] st I J Q := A_istore_n (q := 3) (ab_io ci197 (by decide +kernel)) (Nat.le_of_ble_eq_true rfl) rfl
theorem k197_38 : At 197 38 [a0, a1, a2, some (.int x)] st I J Q ↔ At 197 39 [a0, a1, a2, some (.int x)] (.int x :: st) I J Q := A_iload_n (q := 3) (ab_io ci197 (by decide +kernel)) rfl
theorem k197_39 : At 197 39 ls st I J Q ↔ At 197 41 ls (.int (nI 12) :: st) I J Q := A_bipush (ab_io ci197 (by decide +kernel)) bc_12
theorem k197_41 : At 197 41 ls (.int x1 :: .int x :: st) I J Q ↔ if x1 ≤ x then At 197 72 ls st I J Q else At 197 44 ls st I J Q := A_if_icmp_ge (o := 31) (ab_io ci197 (by decide +kernel)) (by decide)
theorem k197_44 : At 197 44 [a0, a1, a2, some (.int x)] st I J Q ↔ At 197 45 [a0, a1, a2, some (.int x)] (.int x :: st) I J Q := A_iload_n (q := 3) (ab_io ci197 (by decide +kernel)) rfl
theorem k197_45 : At 197 45 [some (.ref r), a1, a2, a3] st I J Q ↔ At 197 46 [some (.ref r), a1, a2, a3] (.ref r :: st) I J Q := A_aload_n (q := 0) (ab_io ci197 (by decide +kernel)) rfl
theorem k197_46 : At 197 46 ls (.ref 49 :: st) I J Q ↔ At 197 49 ls (.ref 72 :: st) I J Q := A_getR (ab_io ci197 (by decide +kernel)) ow197 fq8_82_49
theorem k197_49 : At 197 49 [a0, a1, some (.int x), a3] st I J Q ↔ At 197 50 [a0, a1, some (.int x), a3] (.int x :: st) I J Q := A_iload_n (q := 2) (ab_io ci197 (by decide +kernel)) rfl
theorem k197_50 : At 197 50 ls (.int x :: .ref r :: st) I J Q ↔ ((ab_ly r).1 = 1 ∧ r < 75 ∧ 0 ≤ x.toInt ∧ x.toInt < (ab_ly r).2) ∧ At 197 51 ls (.int (I r x.toNatClampNeg) :: st) I J Q := A_iaload (ab_io ci197 (by decide +kernel))
theorem k197_51 : At 197 51 ls (.int x1 :: .int x :: st) I J Q ↔ if x1 ≤ x then At 197 72 ls st I J Q else At 197 54 ls st I J Q := A_if_icmp_ge (o := 21) (ab_io ci197 (by decide +kernel)) (by decide)
theorem k197_54 : At 197 54 [some (.ref r), a1, a2, a3] st I J Q ↔ At 197 55 [some (.ref r), a1, a2, a3] (.ref r :: st) I J Q := A_aload_n (q := 0) (ab_io ci197 (by decide +kernel)) rfl
theorem k197_55 : At 197 55 [a0, a1, some (.int x), a3] st I J Q ↔ At 197 56 [a0, a1, some (.int x), a3] (.int x :: st) I J Q := A_iload_n (q := 2) (ab_io ci197 (by decide +kernel)) rfl
theorem k197_56 : At 197 56 [a0, a1, a2, some (.int x)] st I J Q ↔ At 197 57 [a0, a1, a2, some (.int x)] (.int x :: st) I J Q := A_iload_n (q := 3) (ab_io ci197 (by decide +kernel)) rfl
theorem k197_57 : At 197 57 [some (.ref r), a1, a2, a3] st I J Q ↔ At 197 58 [some (.ref r), a1, a2, a3] (.ref r :: st) I J Q := A_aload_n (q := 0) (ab_io ci197 (by decide +kernel)) rfl
theorem k197_58 : At 197 58 [a0, a1, a2, some (.int x)] st I J Q ↔ At 197 59 [a0, a1, a2, some (.int x)] (.int x :: st) I J Q := A_iload_n (q := 3) (ab_io ci197 (by decide +kernel)) rfl
theorem k197_59 : At 197 59 [a0, some (.int x), a2, a3] st I J Q ↔ At 197 60 [a0, some (.int x), a2, a3] (.int x :: st) I J Q := A_iload_n (q := 1) (ab_io ci197 (by decide +kernel)) rfl
theorem k197_60 : At 197 60 ls [.int p0, .int p1, .ref 49, .int q0, .int q1, .ref qr2] I J Q ↔ Cal 140 [.ref 49, .int p1, .int p0] I J (fun v I' J' => At 197 63 ls (v.toList ++ [.int q0, .int q1, .ref qr2]) I' J' Q) := A_cal (kd := 0) (j := 136) (na := 3) (ea := 3) (rk := 49) (by decide +kernel) rfl rfl rfl (Or.inr rfl) (Nat.le_of_ble_eq_true rfl)
theorem k197_63 : At 197 63 ls [.int p0, .int p1, .int p2, .ref 49] I J Q ↔ Cal 193 [.ref 49, .int p2, .int p1, .int p0] I J (fun v I' J' => At 197 66 ls (v.toList ++ []) I' J' Q) := A_cal (kd := 0) (j := 278) (na := 4) (ea := 4) (rk := 49) (by decide +kernel) rfl rfl rfl (Or.inr rfl) (Nat.le_of_ble_eq_true rfl)
theorem k197_66 : At 197 66 [a0, a1, a2, some (.int x)] st I J Q ↔ At 197 69 [a0, a1, ab_nv a2, some (.int (x + (nI 1)))] st I J Q := A_iinc (q := 3) (ab_io ci197 (by decide +kernel)) ic_1 (Nat.le_of_ble_eq_true rfl) rfl rfl
theorem k197_69 : At 197 69 ls st I J Q ↔ At 197 38 ls st I J Q := A_goto (o := (-31)) (ab_io ci197 (by decide +kernel)) (by decide)
theorem k197_72 : At 197 72 [a0, a1, a2, some (.int x)] st I J Q ↔ At 197 73 [a0, a1, a2, some (.int x)] (.int x :: st) I J Q := A_iload_n (q := 3) (ab_io ci197 (by decide +kernel)) rfl
theorem k197_73 : At 197 73 ls [.int x] I J Q ↔ Q (some (.int x)) I J := A_iret (ab_io ci197 (by decide +kernel)) rt197
theorem k198_0 : At 198 0 ls st I J Q ↔ At 198 1 ls (.int (nI 0) :: st) I J Q := A_iconst (ab_io ci198 (by decide +kernel)) ic_0
theorem k198_1 : At 198 1 [a0, a1, a2, a3, a4] (.int x :: st) I J Q ↔ At 198 2 [a0, ab_nv a1, some (.int x), a3, a4] st I J Q := A_istore_n (q := 2) (ab_io ci198 (by decide +kernel)) (Nat.le_of_ble_eq_true rfl) rfl
theorem k198_2 : At 198 2 ls st I J Q ↔ At 198 3 ls (.int (nI 0) :: st) I J Q := A_iconst (ab_io ci198 (by decide +kernel)) ic_0
theorem k198_3 : At 198 3 [a0, a1, a2, a3, a4] (.int x :: st) I J Q ↔ At 198 4 [a0, a1, ab_nv a2, some (.int x), a4] st I J Q := A_istore_n (q := 3) (ab_io ci198 (by decide +kernel)) (Nat.le_of_ble_eq_true rfl) rfl
theorem k198_4 : At 198 4 [a0, a1, a2, some (.int x), a4] st I J Q ↔ At 198 5 [a0, a1, a2, some (.int x), a4] (.int x :: st) I J Q := A_iload_n (q := 3) (ab_io ci198 (by decide +kernel)) rfl
theorem k198_5 : At 198 5 ls st I J Q ↔ At 198 7 ls (.int (nI 48) :: st) I J Q := A_bipush (ab_io ci198 (by decide +kernel)) bc_48
theorem k198_7 : At 198 7 ls (.int x1 :: .int x :: st) I J Q ↔ if x1 ≤ x then At 198 98 ls st I J Q else At 198 10 ls st I J Q := A_if_icmp_ge (o := 91) (ab_io ci198 (by decide +kernel)) (by decide)
theorem k198_10 : At 198 10 [some (.ref r), a1, a2, a3, a4] st I J Q ↔ At 198 11 [some (.ref r), a1, a2, a3, a4] (.ref r :: st) I J Q := A_aload_n (q := 0) (ab_io ci198 (by decide +kernel)) rfl
theorem k198_11 : At 198 11 ls (.ref 49 :: st) I J Q ↔ At 198 14 ls (.ref 55 :: st) I J Q := A_getR (ab_io ci198 (by decide +kernel)) ow198 fq8_29_49
theorem k198_14 : At 198 14 [a0, a1, a2, some (.int x), a4] st I J Q ↔ At 198 15 [a0, a1, a2, some (.int x), a4] (.int x :: st) I J Q := A_iload_n (q := 3) (ab_io ci198 (by decide +kernel)) rfl
theorem k198_15 : At 198 15 ls (.int x :: .ref r :: st) I J Q ↔ ((ab_ly r).1 = 1 ∧ r < 75 ∧ 0 ≤ x.toInt ∧ x.toInt < (ab_ly r).2) ∧ At 198 16 ls (.int (I r x.toNatClampNeg) :: st) I J Q := A_iaload (ab_io ci198 (by decide +kernel))
theorem k198_16 : At 198 16 ls st I J Q ↔ At 198 17 ls (.int (-1) :: st) I J Q := A_iconst (ab_io ci198 (by decide +kernel)) ic_m1
theorem k198_17 : At 198 17 ls (.int x1 :: .int x :: st) I J Q ↔ if x = x1 then At 198 24 ls st I J Q else At 198 20 ls st I J Q := A_if_icmp_eq (o := 7) (ab_io ci198 (by decide +kernel)) (by decide)
theorem k198_20 : At 198 20 ls st I J Q ↔ At 198 21 ls (.int (nI 1) :: st) I J Q := A_iconst (ab_io ci198 (by decide +kernel)) ic_1
theorem k198_21 : At 198 21 ls st I J Q ↔ At 198 25 ls st I J Q := A_goto (o := 4) (ab_io ci198 (by decide +kernel)) (by decide)
theorem k198_24 : At 198 24 ls st I J Q ↔ At 198 25 ls (.int (nI 0) :: st) I J Q := A_iconst (ab_io ci198 (by decide +kernel)) ic_0
theorem k198_25 : At 198 25 [a0, a1, a2, a3, a4] (.int x :: st) I J Q ↔ At 198 27 [a0, a1, a2, ab_nv a3, some (.int x)] st I J Q := A_istore (q := 4) (ab_io ci198 (by decide +kernel)) (Nat.le_of_ble_eq_true rfl) rfl
theorem k198_27 : At 198 27 [a0, some (.int x), a2, a3, a4] st I J Q ↔ At 198 28 [a0, some (.int x), a2, a3, a4] (.int x :: st) I J Q := A_iload_n (q := 1) (ab_io ci198 (by decide +kernel)) rfl
theorem k198_28 : At 198 28 ls (.int x :: st) I J Q ↔ if ¬ x = 0 then At 198 46 ls st I J Q else At 198 31 ls st I J Q := A_ifCond_ne (o := 18) (ab_io ci198 (by decide +kernel)) (by decide)
theorem k198_31 : At 198 31 [a0, a1, some (.int x), a3, a4] st I J Q ↔ At 198 32 [a0, a1, some (.int x), a3, a4] (.int x :: st) I J Q := A_iload_n (q := 2) (ab_io ci198 (by decide +kernel)) rfl
theorem k198_32 : At 198 32 [a0, a1, a2, a3, some (.int x)] st I J Q ↔ At 198 34 [a0, a1, a2, a3, some (.int x)] (.int x :: st) I J Q := A_iload (q := 4) (ab_io ci198 (by decide +kernel)) rfl
theorem k198_34 : At 198 34 ls (.int x :: st) I J Q ↔ if x = 0 then At 198 41 ls st I J Q else At 198 37 ls st I J Q := A_ifCond_eq (o := 7) (ab_io ci198 (by decide +kernel)) (by decide)
theorem k198_37 : At 198 37 ls st I J Q ↔ At 198 38 ls (.int (nI 1) :: st) I J Q := A_iconst (ab_io ci198 (by decide +kernel)) ic_1
theorem k198_38 : At 198 38 ls st I J Q ↔ At 198 42 ls st I J Q := A_goto (o := 4) (ab_io ci198 (by decide +kernel)) (by decide)
theorem k198_41 : At 198 41 ls st I J Q ↔ At 198 42 ls (.int (nI 0) :: st) I J Q := A_iconst (ab_io ci198 (by decide +kernel)) ic_0
theorem k198_42 : At 198 42 ls (.int x1 :: .int x :: st) I J Q ↔ At 198 43 ls (.int (x + x1) :: st) I J Q := A_iadd (ab_io ci198 (by decide +kernel))
theorem k198_43 : At 198 43 ls st I J Q ↔ At 198 91 ls st I J Q := A_goto (o := 48) (ab_io ci198 (by decide +kernel)) (by decide)
theorem k198_46 : At 198 46 [a0, some (.int x), a2, a3, a4] st I J Q ↔ At 198 47 [a0, some (.int x), a2, a3, a4] (.int x :: st) I J Q := A_iload_n (q := 1) (ab_io ci198 (by decide +kernel)) rfl
theorem k198_47 : At 198 47 ls st I J Q ↔ At 198 49 ls (.int (nI 6) :: st) I J Q := A_bipush (ab_io ci198 (by decide +kernel)) bc_6
theorem k198_49 : At 198 49 ls (.int x1 :: .int x :: st) I J Q ↔ if ¬ x = x1 then At 198 75 ls st I J Q else At 198 52 ls st I J Q := A_if_icmp_ne (o := 26) (ab_io ci198 (by decide +kernel)) (by decide)
theorem k198_52 : At 198 52 [a0, a1, some (.int x), a3, a4] st I J Q ↔ At 198 53 [a0, a1, some (.int x), a3, a4] (.int x :: st) I J Q := A_iload_n (q := 2) (ab_io ci198 (by decide +kernel)) rfl
theorem k198_53 : At 198 53 [a0, a1, a2, a3, some (.int x)] st I J Q ↔ At 198 55 [a0, a1, a2, a3, some (.int x)] (.int x :: st) I J Q := A_iload (q := 4) (ab_io ci198 (by decide +kernel)) rfl
theorem k198_55 : At 198 55 ls (.int x :: st) I J Q ↔ if x = 0 then At 198 70 ls st I J Q else At 198 58 ls st I J Q := A_ifCond_eq (o := 15) (ab_io ci198 (by decide +kernel)) (by decide)
theorem k198_58 : At 198 58 [some (.ref r), a1, a2, a3, a4] st I J Q ↔ At 198 59 [some (.ref r), a1, a2, a3, a4] (.ref r :: st) I J Q := A_aload_n (q := 0) (ab_io ci198 (by decide +kernel)) rfl
theorem k198_59 : At 198 59 [a0, a1, a2, some (.int x), a4] st I J Q ↔ At 198 60 [a0, a1, a2, some (.int x), a4] (.int x :: st) I J Q := A_iload_n (q := 3) (ab_io ci198 (by decide +kernel)) rfl
theorem k198_60 : At 198 60 ls [.int p0, .ref 49, .int q0] I J Q ↔ Cal 176 [.ref 49, .int p0] I J (fun v I' J' => At 198 63 ls (v.toList ++ [.int q0]) I' J' Q) := A_cal (kd := 0) (j := 251) (na := 2) (ea := 2) (rk := 49) (by decide +kernel) rfl rfl rfl (Or.inr rfl) (Nat.le_of_ble_eq_true rfl)
theorem k198_63 : At 198 63 ls (.int x :: st) I J Q ↔ if x = 0 then At 198 70 ls st I J Q else At 198 66 ls st I J Q := A_ifCond_eq (o := 7) (ab_io ci198 (by decide +kernel)) (by decide)
theorem k198_66 : At 198 66 ls st I J Q ↔ At 198 67 ls (.int (nI 1) :: st) I J Q := A_iconst (ab_io ci198 (by decide +kernel)) ic_1
theorem k198_67 : At 198 67 ls st I J Q ↔ At 198 71 ls st I J Q := A_goto (o := 4) (ab_io ci198 (by decide +kernel)) (by decide)
theorem k198_70 : At 198 70 ls st I J Q ↔ At 198 71 ls (.int (nI 0) :: st) I J Q := A_iconst (ab_io ci198 (by decide +kernel)) ic_0
theorem k198_71 : At 198 71 ls (.int x1 :: .int x :: st) I J Q ↔ At 198 72 ls (.int (x + x1) :: st) I J Q := A_iadd (ab_io ci198 (by decide +kernel))
theorem k198_72 : At 198 72 ls st I J Q ↔ At 198 91 ls st I J Q := A_goto (o := 19) (ab_io ci198 (by decide +kernel)) (by decide)
theorem k198_75 : At 198 75 [a0, a1, a2, a3, some (.int x)] st I J Q ↔ At 198 77 [a0, a1, a2, a3, some (.int x)] (.int x :: st) I J Q := A_iload (q := 4) (ab_io ci198 (by decide +kernel)) rfl
theorem k198_77 : At 198 77 ls (.int x :: st) I J Q ↔ if x = 0 then At 198 90 ls st I J Q else At 198 80 ls st I J Q := A_ifCond_eq (o := 13) (ab_io ci198 (by decide +kernel)) (by decide)
theorem k198_80 : At 198 80 [a0, a1, some (.int x), a3, a4] st I J Q ↔ At 198 81 [a0, a1, some (.int x), a3, a4] (.int x :: st) I J Q := A_iload_n (q := 2) (ab_io ci198 (by decide +kernel)) rfl
theorem k198_81 : At 198 81 ls st I J Q ↔ At 198 82 ls (.int (nI 1) :: st) I J Q := A_iconst (ab_io ci198 (by decide +kernel)) ic_1
theorem k198_82 : At 198 82 [a0, a1, a2, some (.int x), a4] st I J Q ↔ At 198 83 [a0, a1, a2, some (.int x), a4] (.int x :: st) I J Q := A_iload_n (q := 3) (ab_io ci198 (by decide +kernel)) rfl
theorem k198_83 : At 198 83 ls st I J Q ↔ At 198 84 ls (.int (nI 4) :: st) I J Q := A_iconst (ab_io ci198 (by decide +kernel)) ic_4
theorem k198_84 : At 198 84 ls (.int x1 :: .int x :: st) I J Q ↔ ¬ x1 = 0 ∧ At 198 85 ls (.int (x / x1) :: st) I J Q := A_idiv (ab_io ci198 (by decide +kernel))
theorem k198_85 : At 198 85 ls (.int x1 :: .int x :: st) I J Q ↔ At 198 86 ls (.int (x <<< (x1 &&& 31)) :: st) I J Q := A_ishl (ab_io ci198 (by decide +kernel))
theorem k198_86 : At 198 86 ls (.int x1 :: .int x :: st) I J Q ↔ At 198 87 ls (.int (x ||| x1) :: st) I J Q := A_ior (ab_io ci198 (by decide +kernel))
theorem k198_87 : At 198 87 ls st I J Q ↔ At 198 91 ls st I J Q := A_goto (o := 4) (ab_io ci198 (by decide +kernel)) (by decide)
theorem k198_90 : At 198 90 [a0, a1, some (.int x), a3, a4] st I J Q ↔ At 198 91 [a0, a1, some (.int x), a3, a4] (.int x :: st) I J Q := A_iload_n (q := 2) (ab_io ci198 (by decide +kernel)) rfl
theorem k198_91 : At 198 91 [a0, a1, a2, a3, a4] (.int x :: st) I J Q ↔ At 198 92 [a0, ab_nv a1, some (.int x), a3, a4] st I J Q := A_istore_n (q := 2) (ab_io ci198 (by decide +kernel)) (Nat.le_of_ble_eq_true rfl) rfl
theorem k198_92 : At 198 92 [a0, a1, a2, some (.int x), a4] st I J Q ↔ At 198 95 [a0, a1, ab_nv a2, some (.int (x + (nI 1))), a4] st I J Q := A_iinc (q := 3) (ab_io ci198 (by decide +kernel)) ic_1 (Nat.le_of_ble_eq_true rfl) rfl rfl
theorem k198_95 : At 198 95 ls st I J Q ↔ At 198 4 ls st I J Q := A_goto (o := (-91)) (ab_io ci198 (by decide +kernel)) (by decide)
theorem k198_98 : At 198 98 [a0, a1, some (.int x), a3, a4] st I J Q ↔ At 198 99 [a0, a1, some (.int x), a3, a4] (.int x :: st) I J Q := A_iload_n (q := 2) (ab_io ci198 (by decide +kernel)) rfl
theorem k198_99 : At 198 99 ls [.int x] I J Q ↔ Q (some (.int x)) I J := A_iret (ab_io ci198 (by decide +kernel)) rt198
theorem k199_0 : At 199 0 ls st I J Q ↔ At 199 1 ls (.int (nI 0) :: st) I J Q := A_iconst (ab_io ci199 (by decide +kernel)) ic_0
theorem k199_1 : At 199 1 [a0, a1, a2] (.int x :: st) I J Q ↔ At 199 2 [ab_nv a0, some (.int x), a2] st I J Q := A_istore_n (q := 1) (ab_io ci199 (by decide +kernel)) (Nat.le_of_ble_eq_true rfl) rfl
theorem k199_2 : At 199 2 ls st I J Q ↔ At 199 3 ls (.int (nI 0) :: st) I J Q := A_iconst (ab_io ci199 (by decide +kernel)) ic_0
theorem k199_3 : At 199 3 [a0, a1, a2] (.int x :: st) I J Q ↔ At 199 4 [a0, ab_nv a1, some (.int x)] st I J Q := A_istore_n (q := 2) (ab_io ci199 (by decide +kernel)) (Nat.le_of_ble_eq_true rfl) rfl
theorem k199_4 : At 199 4 [a0, a1, some (.int x)] st I J Q ↔ At 199 5 [a0, a1, some (.int x)] (.int x :: st) I J Q := A_iload_n (q := 2) (ab_io ci199 (by decide +kernel)) rfl
theorem k199_5 : At 199 5 ls st I J Q ↔ At 199 6 ls (.int (nI 4) :: st) I J Q := A_iconst (ab_io ci199 (by decide +kernel)) ic_4
theorem k199_6 : At 199 6 ls (.int x1 :: .int x :: st) I J Q ↔ if x1 ≤ x then At 199 31 ls st I J Q else At 199 9 ls st I J Q := A_if_icmp_ge (o := 25) (ab_io ci199 (by decide +kernel)) (by decide)
theorem k199_9 : At 199 9 [a0, some (.int x), a2] st I J Q ↔ At 199 10 [a0, some (.int x), a2] (.int x :: st) I J Q := A_iload_n (q := 1) (ab_io ci199 (by decide +kernel)) rfl
theorem k199_10 : At 199 10 [some (.ref r), a1, a2] st I J Q ↔ At 199 11 [some (.ref r), a1, a2] (.ref r :: st) I J Q := A_aload_n (q := 0) (ab_io ci199 (by decide +kernel)) rfl
theorem k199_11 : At 199 11 [a0, a1, some (.int x)] st I J Q ↔ At 199 12 [a0, a1, some (.int x)] (.int x :: st) I J Q := A_iload_n (q := 2) (ab_io ci199 (by decide +kernel)) rfl
theorem k199_12 : At 199 12 ls [.int p0, .ref 49, .int q0] I J Q ↔ Cal 154 [.ref 49, .int p0] I J (fun v I' J' => At 199 15 ls (v.toList ++ [.int q0]) I' J' Q) := A_cal (kd := 0) (j := 183) (na := 2) (ea := 2) (rk := 49) (by decide +kernel) rfl rfl rfl (Or.inr rfl) (Nat.le_of_ble_eq_true rfl)
theorem k199_15 : At 199 15 ls (.int x :: st) I J Q ↔ if x = 0 then At 199 22 ls st I J Q else At 199 18 ls st I J Q := A_ifCond_eq (o := 7) (ab_io ci199 (by decide +kernel)) (by decide)
theorem k199_18 : At 199 18 ls st I J Q ↔ At 199 19 ls (.int (nI 1) :: st) I J Q := A_iconst (ab_io ci199 (by decide +kernel)) ic_1
theorem k199_19 : At 199 19 ls st I J Q ↔ At 199 23 ls st I J Q := A_goto (o := 4) (ab_io ci199 (by decide +kernel)) (by decide)
theorem k199_22 : At 199 22 ls st I J Q ↔ At 199 23 ls (.int (nI 0) :: st) I J Q := A_iconst (ab_io ci199 (by decide +kernel)) ic_0
theorem k199_23 : At 199 23 ls (.int x1 :: .int x :: st) I J Q ↔ At 199 24 ls (.int (x + x1) :: st) I J Q := A_iadd (ab_io ci199 (by decide +kernel))
theorem k199_24 : At 199 24 [a0, a1, a2] (.int x :: st) I J Q ↔ At 199 25 [ab_nv a0, some (.int x), a2] st I J Q := A_istore_n (q := 1) (ab_io ci199 (by decide +kernel)) (Nat.le_of_ble_eq_true rfl) rfl
theorem k199_25 : At 199 25 [a0, a1, some (.int x)] st I J Q ↔ At 199 28 [a0, ab_nv a1, some (.int (x + (nI 1)))] st I J Q := A_iinc (q := 2) (ab_io ci199 (by decide +kernel)) ic_1 (Nat.le_of_ble_eq_true rfl) rfl rfl
theorem k199_28 : At 199 28 ls st I J Q ↔ At 199 4 ls st I J Q := A_goto (o := (-24)) (ab_io ci199 (by decide +kernel)) (by decide)
theorem k199_31 : At 199 31 [a0, some (.int x), a2] st I J Q ↔ At 199 32 [a0, some (.int x), a2] (.int x :: st) I J Q := A_iload_n (q := 1) (ab_io ci199 (by decide +kernel)) rfl
theorem k199_32 : At 199 32 ls [.int x] I J Q ↔ Q (some (.int x)) I J := A_iret (ab_io ci199 (by decide +kernel)) rt199
theorem k200_0 : At 200 0 [some (.ref r), a1] st I J Q ↔ At 200 1 [some (.ref r), a1] (.ref r :: st) I J Q := A_aload_n (q := 0) (ab_io ci200 (by decide +kernel)) rfl
theorem k200_1 : At 200 1 ls [.ref 49] I J Q ↔ Cal 138 [.ref 49] I J (fun v I' J' => At 200 4 ls (v.toList ++ []) I' J' Q) := A_cal (kd := 0) (j := 133) (na := 1) (ea := 1) (rk := 49) (by decide +kernel) rfl rfl rfl (Or.inr rfl) (Nat.le_of_ble_eq_true rfl)
theorem k200_4 : At 200 4 [a0, some (.int x)] st I J Q ↔ At 200 5 [a0, some (.int x)] (.int x :: st) I J Q := A_iload_n (q := 1) (ab_io ci200 (by decide +kernel)) rfl
theorem k200_56 : At 200 56 [some (.ref r), a1] st I J Q ↔ At 200 57 [some (.ref r), a1] (.ref r :: st) I J Q := A_aload_n (q := 0) (ab_io ci200 (by decide +kernel)) rfl
theorem k200_57 : At 200 57 [a0, some (.int x)] st I J Q ↔ At 200 58 [a0, some (.int x)] (.int x :: st) I J Q := A_iload_n (q := 1) (ab_io ci200 (by decide +kernel)) rfl
theorem k200_58 : At 200 58 ls [.int p0, .ref 49] I J Q ↔ Cal 198 [.ref 49, .int p0] I J (fun v I' J' => At 200 61 ls (v.toList ++ []) I' J' Q) := A_cal (kd := 0) (j := 283) (na := 2) (ea := 2) (rk := 49) (by decide +kernel) rfl rfl rfl (Or.inr rfl) (Nat.le_of_ble_eq_true rfl)
theorem k200_61 : At 200 61 ls [.int x] I J Q ↔ Q (some (.int x)) I J := A_iret (ab_io ci200 (by decide +kernel)) rt200
theorem k200_62 : At 200 62 [some (.ref r), a1] st I J Q ↔ At 200 63 [some (.ref r), a1] (.ref r :: st) I J Q := A_aload_n (q := 0) (ab_io ci200 (by decide +kernel)) rfl
theorem k200_63 : At 200 63 ls (.ref 49 :: st) I J Q ↔ At 200 66 ls (.int (I 49 0) :: st) I J Q := A_getI (ab_io ci200 (by decide +kernel)) ow200 fq8_105_49
theorem k200_66 : At 200 66 ls [.int x] I J Q ↔ Q (some (.int x)) I J := A_iret (ab_io ci200 (by decide +kernel)) rt200
theorem k200_67 : At 200 67 [some (.ref r), a1] st I J Q ↔ At 200 68 [some (.ref r), a1] (.ref r :: st) I J Q := A_aload_n (q := 0) (ab_io ci200 (by decide +kernel)) rfl
theorem k200_68 : At 200 68 ls (.ref 49 :: st) I J Q ↔ At 200 71 ls (.int (I 49 5) :: st) I J Q := A_getI (ab_io ci200 (by decide +kernel)) ow200 fq8_22_49
theorem k200_71 : At 200 71 ls [.int x] I J Q ↔ Q (some (.int x)) I J := A_iret (ab_io ci200 (by decide +kernel)) rt200
theorem k200_72 : At 200 72 [some (.ref r), a1] st I J Q ↔ At 200 73 [some (.ref r), a1] (.ref r :: st) I J Q := A_aload_n (q := 0) (ab_io ci200 (by decide +kernel)) rfl
theorem k200_73 : At 200 73 ls [.ref 49] I J Q ↔ Cal 133 [.ref 49] I J (fun v I' J' => At 200 76 ls (v.toList ++ []) I' J' Q) := A_cal (kd := 0) (j := 115) (na := 1) (ea := 1) (rk := 49) (by decide +kernel) rfl rfl rfl (Or.inr rfl) (Nat.le_of_ble_eq_true rfl)
theorem k200_76 : At 200 76 ls [.int x] I J Q ↔ Q (some (.int x)) I J := A_iret (ab_io ci200 (by decide +kernel)) rt200
theorem k200_77 : At 200 77 [some (.ref r), a1] st I J Q ↔ At 200 78 [some (.ref r), a1] (.ref r :: st) I J Q := A_aload_n (q := 0) (ab_io ci200 (by decide +kernel)) rfl
theorem k200_78 : At 200 78 ls [.ref 49] I J Q ↔ Cal 199 [.ref 49] I J (fun v I' J' => At 200 81 ls (v.toList ++ []) I' J' Q) := A_cal (kd := 0) (j := 286) (na := 1) (ea := 1) (rk := 49) (by decide +kernel) rfl rfl rfl (Or.inr rfl) (Nat.le_of_ble_eq_true rfl)
theorem k200_81 : At 200 81 ls [.int x] I J Q ↔ Q (some (.int x)) I J := A_iret (ab_io ci200 (by decide +kernel)) rt200
theorem k200_82 : At 200 82 [some (.ref r), a1] st I J Q ↔ At 200 83 [some (.ref r), a1] (.ref r :: st) I J Q := A_aload_n (q := 0) (ab_io ci200 (by decide +kernel)) rfl
theorem k200_83 : At 200 83 ls (.ref 49 :: st) I J Q ↔ At 200 86 ls (.int (I 49 18) :: st) I J Q := A_getI (ab_io ci200 (by decide +kernel)) ow200 fq8_189_49
theorem k200_86 : At 200 86 ls [.int x] I J Q ↔ Q (some (.int x)) I J := A_iret (ab_io ci200 (by decide +kernel)) rt200
theorem k200_87 : At 200 87 [some (.ref r), a1] st I J Q ↔ At 200 88 [some (.ref r), a1] (.ref r :: st) I J Q := A_aload_n (q := 0) (ab_io ci200 (by decide +kernel)) rfl
theorem k200_88 : At 200 88 ls (.ref 49 :: st) I J Q ↔ At 200 91 ls (.int (I 49 40) :: st) I J Q := A_getI (ab_io ci200 (by decide +kernel)) ow200 fq8_271_49
theorem k200_91 : At 200 91 ls [.int x] I J Q ↔ Q (some (.int x)) I J := A_iret (ab_io ci200 (by decide +kernel)) rt200
theorem k200_92 : At 200 92 ls st I J Q ↔ At 200 94 ls (.int (-2) :: st) I J Q := A_bipush (ab_io ci200 (by decide +kernel)) bc_m2
theorem k200_94 : At 200 94 ls [.int x] I J Q ↔ Q (some (.int x)) I J := A_iret (ab_io ci200 (by decide +kernel)) rt200
theorem k201_0 : At 201 0 ls st I J Q ↔ At 201 3 ls (.long 17 :: st) I J Q := A_ldc2_w (j := 289) (q := 1257) (ab_io ci201 (by decide +kernel)) ow201 (by decide +kernel)
theorem k201_3 : At 201 3 [a0, a1, a2, a3, a4] (.long u :: st) I J Q ↔ At 201 4 [ab_nv a0, some (.long u), none, a3, a4] st I J Q := A_lstore_n (q := 1) (ab_io ci201 (by decide +kernel)) (Nat.le_of_ble_eq_true rfl) rfl
theorem k201_4 : At 201 4 ls st I J Q ↔ At 201 5 ls (.int (nI 0) :: st) I J Q := A_iconst (ab_io ci201 (by decide +kernel)) ic_0
theorem k201_5 : At 201 5 [a0, a1, a2, a3, a4] (.int x :: st) I J Q ↔ At 201 6 [a0, a1, ab_nv a2, some (.int x), a4] st I J Q := A_istore_n (q := 3) (ab_io ci201 (by decide +kernel)) (Nat.le_of_ble_eq_true rfl) rfl
theorem k201_6 : At 201 6 [a0, a1, a2, some (.int x), a4] st I J Q ↔ At 201 7 [a0, a1, a2, some (.int x), a4] (.int x :: st) I J Q := A_iload_n (q := 3) (ab_io ci201 (by decide +kernel)) rfl
theorem k201_7 : At 201 7 ls st I J Q ↔ At 201 9 ls (.int (nI 8) :: st) I J Q := A_bipush (ab_io ci201 (by decide +kernel)) bc_8
theorem k201_9 : At 201 9 ls (.int x1 :: .int x :: st) I J Q ↔ if x1 ≤ x then At 201 31 ls st I J Q else At 201 12 ls st I J Q := A_if_icmp_ge (o := 22) (ab_io ci201 (by decide +kernel)) (by decide)
theorem k201_12 : At 201 12 ls st I J Q ↔ At 201 15 ls (.long 31 :: st) I J Q := A_ldc2_w (j := 291) (q := 1258) (ab_io ci201 (by decide +kernel)) ow201 (by decide +kernel)
theorem k201_15 : At 201 15 [a0, some (.long u), a2, a3, a4] st I J Q ↔ At 201 16 [a0, some (.long u), a2, a3, a4] (.long u :: st) I J Q := A_lload_n (q := 1) (ab_io ci201 (by decide +kernel)) rfl
theorem k201_16 : At 201 16 ls (.long u1 :: .long u :: st) I J Q ↔ At 201 17 ls (.long (u * u1) :: st) I J Q := A_lmul (ab_io ci201 (by decide +kernel))
theorem k201_17 : At 201 17 [some (.ref r), a1, a2, a3, a4] st I J Q ↔ At 201 18 [some (.ref r), a1, a2, a3, a4] (.ref r :: st) I J Q := A_aload_n (q := 0) (ab_io ci201 (by decide +kernel)) rfl
theorem k201_18 : At 201 18 [a0, a1, a2, some (.int x), a4] st I J Q ↔ At 201 19 [a0, a1, a2, some (.int x), a4] (.int x :: st) I J Q := A_iload_n (q := 3) (ab_io ci201 (by decide +kernel)) rfl
theorem k201_19 : At 201 19 ls [.int p0, .ref 49, .long qu0] I J Q ↔ Cal 200 [.ref 49, .int p0] I J (fun v I' J' => At 201 22 ls (v.toList ++ [.long qu0]) I' J' Q) := A_cal (kd := 0) (j := 293) (na := 2) (ea := 2) (rk := 49) (by decide +kernel) rfl rfl rfl (Or.inr rfl) (Nat.le_of_ble_eq_true rfl)
theorem k201_22 : At 201 22 ls (.int x :: st) I J Q ↔ At 201 23 ls (.long x.toInt64 :: st) I J Q := A_i2l (ab_io ci201 (by decide +kernel))
theorem k201_23 : At 201 23 ls (.long u1 :: .long u :: st) I J Q ↔ At 201 24 ls (.long (u + u1) :: st) I J Q := A_ladd (ab_io ci201 (by decide +kernel))
theorem k201_24 : At 201 24 [a0, a1, a2, a3, a4] (.long u :: st) I J Q ↔ At 201 25 [ab_nv a0, some (.long u), none, a3, a4] st I J Q := A_lstore_n (q := 1) (ab_io ci201 (by decide +kernel)) (Nat.le_of_ble_eq_true rfl) rfl
theorem k201_25 : At 201 25 [a0, a1, a2, some (.int x), a4] st I J Q ↔ At 201 28 [a0, a1, ab_nv a2, some (.int (x + (nI 1))), a4] st I J Q := A_iinc (q := 3) (ab_io ci201 (by decide +kernel)) ic_1 (Nat.le_of_ble_eq_true rfl) rfl rfl
theorem k201_28 : At 201 28 ls st I J Q ↔ At 201 6 ls st I J Q := A_goto (o := (-22)) (ab_io ci201 (by decide +kernel)) (by decide)
theorem k201_31 : At 201 31 [some (.ref r), a1, a2, a3, a4] st I J Q ↔ At 201 32 [some (.ref r), a1, a2, a3, a4] (.ref r :: st) I J Q := A_aload_n (q := 0) (ab_io ci201 (by decide +kernel)) rfl
theorem k201_32 : At 201 32 ls [.ref 49] I J Q ↔ Cal 138 [.ref 49] I J (fun v I' J' => At 201 35 ls (v.toList ++ []) I' J' Q) := A_cal (kd := 0) (j := 133) (na := 1) (ea := 1) (rk := 49) (by decide +kernel) rfl rfl rfl (Or.inr rfl) (Nat.le_of_ble_eq_true rfl)
theorem k201_35 : At 201 35 ls st I J Q ↔ At 201 36 ls (.int (nI 0) :: st) I J Q := A_iconst (ab_io ci201 (by decide +kernel)) ic_0
theorem k201_36 : At 201 36 [a0, a1, a2, a3, a4] (.int x :: st) I J Q ↔ At 201 37 [a0, a1, ab_nv a2, some (.int x), a4] st I J Q := A_istore_n (q := 3) (ab_io ci201 (by decide +kernel)) (Nat.le_of_ble_eq_true rfl) rfl
theorem k201_37 : At 201 37 [a0, a1, a2, some (.int x), a4] st I J Q ↔ At 201 38 [a0, a1, a2, some (.int x), a4] (.int x :: st) I J Q := A_iload_n (q := 3) (ab_io ci201 (by decide +kernel)) rfl
theorem k201_38 : At 201 38 ls st I J Q ↔ At 201 40 ls (.int (nI 12) :: st) I J Q := A_bipush (ab_io ci201 (by decide +kernel)) bc_12
theorem k201_40 : At 201 40 ls (.int x1 :: .int x :: st) I J Q ↔ if x1 ≤ x then At 201 105 ls st I J Q else At 201 43 ls st I J Q := A_if_icmp_ge (o := 65) (ab_io ci201 (by decide +kernel)) (by decide)
theorem k201_43 : At 201 43 ls st I J Q ↔ At 201 44 ls (.int (nI 0) :: st) I J Q := A_iconst (ab_io ci201 (by decide +kernel)) ic_0
theorem k201_44 : At 201 44 [a0, a1, a2, a3, a4] (.int x :: st) I J Q ↔ At 201 46 [a0, a1, a2, ab_nv a3, some (.int x)] st I J Q := A_istore (q := 4) (ab_io ci201 (by decide +kernel)) (Nat.le_of_ble_eq_true rfl) rfl
theorem k201_46 : At 201 46 [a0, a1, a2, a3, some (.int x)] st I J Q ↔ At 201 48 [a0, a1, a2, a3, some (.int x)] (.int x :: st) I J Q := A_iload (q := 4) (ab_io ci201 (by decide +kernel)) rfl
theorem k201_48 : At 201 48 ls st I J Q ↔ At 201 49 ls (.int (nI 4) :: st) I J Q := A_iconst (ab_io ci201 (by decide +kernel)) ic_4
theorem k201_49 : At 201 49 ls (.int x1 :: .int x :: st) I J Q ↔ if x1 ≤ x then At 201 73 ls st I J Q else At 201 52 ls st I J Q := A_if_icmp_ge (o := 24) (ab_io ci201 (by decide +kernel)) (by decide)
theorem k201_52 : At 201 52 ls st I J Q ↔ At 201 55 ls (.long 31 :: st) I J Q := A_ldc2_w (j := 291) (q := 1258) (ab_io ci201 (by decide +kernel)) ow201 (by decide +kernel)
theorem k201_55 : At 201 55 [a0, some (.long u), a2, a3, a4] st I J Q ↔ At 201 56 [a0, some (.long u), a2, a3, a4] (.long u :: st) I J Q := A_lload_n (q := 1) (ab_io ci201 (by decide +kernel)) rfl
theorem k201_56 : At 201 56 ls (.long u1 :: .long u :: st) I J Q ↔ At 201 57 ls (.long (u * u1) :: st) I J Q := A_lmul (ab_io ci201 (by decide +kernel))
theorem k201_57 : At 201 57 [some (.ref r), a1, a2, a3, a4] st I J Q ↔ At 201 58 [some (.ref r), a1, a2, a3, a4] (.ref r :: st) I J Q := A_aload_n (q := 0) (ab_io ci201 (by decide +kernel)) rfl
theorem k201_58 : At 201 58 [a0, a1, a2, some (.int x), a4] st I J Q ↔ At 201 59 [a0, a1, a2, some (.int x), a4] (.int x :: st) I J Q := A_iload_n (q := 3) (ab_io ci201 (by decide +kernel)) rfl
theorem k201_59 : At 201 59 [a0, a1, a2, a3, some (.int x)] st I J Q ↔ At 201 61 [a0, a1, a2, a3, some (.int x)] (.int x :: st) I J Q := A_iload (q := 4) (ab_io ci201 (by decide +kernel)) rfl
theorem k201_61 : At 201 61 ls [.int p0, .int p1, .ref 49, .long qu0] I J Q ↔ Cal 140 [.ref 49, .int p1, .int p0] I J (fun v I' J' => At 201 64 ls (v.toList ++ [.long qu0]) I' J' Q) := A_cal (kd := 0) (j := 136) (na := 3) (ea := 3) (rk := 49) (by decide +kernel) rfl rfl rfl (Or.inr rfl) (Nat.le_of_ble_eq_true rfl)
theorem k201_64 : At 201 64 ls (.int x :: st) I J Q ↔ At 201 65 ls (.long x.toInt64 :: st) I J Q := A_i2l (ab_io ci201 (by decide +kernel))
theorem k201_65 : At 201 65 ls (.long u1 :: .long u :: st) I J Q ↔ At 201 66 ls (.long (u + u1) :: st) I J Q := A_ladd (ab_io ci201 (by decide +kernel))
theorem k201_66 : At 201 66 [a0, a1, a2, a3, a4] (.long u :: st) I J Q ↔ At 201 67 [ab_nv a0, some (.long u), none, a3, a4] st I J Q := A_lstore_n (q := 1) (ab_io ci201 (by decide +kernel)) (Nat.le_of_ble_eq_true rfl) rfl
theorem k201_67 : At 201 67 [a0, a1, a2, a3, some (.int x)] st I J Q ↔ At 201 70 [a0, a1, a2, ab_nv a3, some (.int (x + (nI 1)))] st I J Q := A_iinc (q := 4) (ab_io ci201 (by decide +kernel)) ic_1 (Nat.le_of_ble_eq_true rfl) rfl rfl
theorem k201_70 : At 201 70 ls st I J Q ↔ At 201 46 ls st I J Q := A_goto (o := (-24)) (ab_io ci201 (by decide +kernel)) (by decide)
theorem k201_73 : At 201 73 ls st I J Q ↔ At 201 76 ls (.long 31 :: st) I J Q := A_ldc2_w (j := 291) (q := 1258) (ab_io ci201 (by decide +kernel)) ow201 (by decide +kernel)
theorem k201_76 : At 201 76 [a0, some (.long u), a2, a3, a4] st I J Q ↔ At 201 77 [a0, some (.long u), a2, a3, a4] (.long u :: st) I J Q := A_lload_n (q := 1) (ab_io ci201 (by decide +kernel)) rfl
theorem k201_77 : At 201 77 ls (.long u1 :: .long u :: st) I J Q ↔ At 201 78 ls (.long (u * u1) :: st) I J Q := A_lmul (ab_io ci201 (by decide +kernel))
theorem k201_78 : At 201 78 [some (.ref r), a1, a2, a3, a4] st I J Q ↔ At 201 79 [some (.ref r), a1, a2, a3, a4] (.ref r :: st) I J Q := A_aload_n (q := 0) (ab_io ci201 (by decide +kernel)) rfl
theorem k201_79 : At 201 79 [a0, a1, a2, some (.int x), a4] st I J Q ↔ At 201 80 [a0, a1, a2, some (.int x), a4] (.int x :: st) I J Q := A_iload_n (q := 3) (ab_io ci201 (by decide +kernel)) rfl
theorem k201_80 : At 201 80 ls st I J Q ↔ At 201 81 ls (.int (nI 0) :: st) I J Q := A_iconst (ab_io ci201 (by decide +kernel)) ic_0
theorem k201_81 : At 201 81 ls [.int p0, .int p1, .ref 49, .long qu0] I J Q ↔ Cal 151 [.ref 49, .int p1, .int p0] I J (fun v I' J' => At 201 84 ls (v.toList ++ [.long qu0]) I' J' Q) := A_cal (kd := 0) (j := 177) (na := 3) (ea := 3) (rk := 49) (by decide +kernel) rfl rfl rfl (Or.inr rfl) (Nat.le_of_ble_eq_true rfl)
theorem k201_84 : At 201 84 ls (.long u1 :: .long u :: st) I J Q ↔ At 201 85 ls (.long (u + u1) :: st) I J Q := A_ladd (ab_io ci201 (by decide +kernel))
theorem k201_85 : At 201 85 [a0, a1, a2, a3, a4] (.long u :: st) I J Q ↔ At 201 86 [ab_nv a0, some (.long u), none, a3, a4] st I J Q := A_lstore_n (q := 1) (ab_io ci201 (by decide +kernel)) (Nat.le_of_ble_eq_true rfl) rfl
theorem k201_86 : At 201 86 ls st I J Q ↔ At 201 89 ls (.long 31 :: st) I J Q := A_ldc2_w (j := 291) (q := 1258) (ab_io ci201 (by decide +kernel)) ow201 (by decide +kernel)
theorem k201_89 : At 201 89 [a0, some (.long u), a2, a3, a4] st I J Q ↔ At 201 90 [a0, some (.long u), a2, a3, a4] (.long u :: st) I J Q := A_lload_n (q := 1) (ab_io ci201 (by decide +kernel)) rfl
theorem k201_90 : At 201 90 ls (.long u1 :: .long u :: st) I J Q ↔ At 201 91 ls (.long (u * u1) :: st) I J Q := A_lmul (ab_io ci201 (by decide +kernel))
theorem k201_91 : At 201 91 [some (.ref r), a1, a2, a3, a4] st I J Q ↔ At 201 92 [some (.ref r), a1, a2, a3, a4] (.ref r :: st) I J Q := A_aload_n (q := 0) (ab_io ci201 (by decide +kernel)) rfl
theorem k201_92 : At 201 92 [a0, a1, a2, some (.int x), a4] st I J Q ↔ At 201 93 [a0, a1, a2, some (.int x), a4] (.int x :: st) I J Q := A_iload_n (q := 3) (ab_io ci201 (by decide +kernel)) rfl
theorem k201_93 : At 201 93 ls st I J Q ↔ At 201 94 ls (.int (nI 1) :: st) I J Q := A_iconst (ab_io ci201 (by decide +kernel)) ic_1
theorem k201_94 : At 201 94 ls [.int p0, .int p1, .ref 49, .long qu0] I J Q ↔ Cal 151 [.ref 49, .int p1, .int p0] I J (fun v I' J' => At 201 97 ls (v.toList ++ [.long qu0]) I' J' Q) := A_cal (kd := 0) (j := 177) (na := 3) (ea := 3) (rk := 49) (by decide +kernel) rfl rfl rfl (Or.inr rfl) (Nat.le_of_ble_eq_true rfl)
theorem k201_97 : At 201 97 ls (.long u1 :: .long u :: st) I J Q ↔ At 201 98 ls (.long (u + u1) :: st) I J Q := A_ladd (ab_io ci201 (by decide +kernel))
theorem k201_98 : At 201 98 [a0, a1, a2, a3, a4] (.long u :: st) I J Q ↔ At 201 99 [ab_nv a0, some (.long u), none, a3, a4] st I J Q := A_lstore_n (q := 1) (ab_io ci201 (by decide +kernel)) (Nat.le_of_ble_eq_true rfl) rfl
theorem k201_99 : At 201 99 [a0, a1, a2, some (.int x), a4] st I J Q ↔ At 201 102 [a0, a1, ab_nv a2, some (.int (x + (nI 1))), a4] st I J Q := A_iinc (q := 3) (ab_io ci201 (by decide +kernel)) ic_1 (Nat.le_of_ble_eq_true rfl) rfl rfl
theorem k201_102 : At 201 102 ls st I J Q ↔ At 201 37 ls st I J Q := A_goto (o := (-65)) (ab_io ci201 (by decide +kernel)) (by decide)
theorem k201_105 : At 201 105 ls st I J Q ↔ At 201 106 ls (.int (nI 0) :: st) I J Q := A_iconst (ab_io ci201 (by decide +kernel)) ic_0
theorem k201_106 : At 201 106 [a0, a1, a2, a3, a4] (.int x :: st) I J Q ↔ At 201 107 [a0, a1, ab_nv a2, some (.int x), a4] st I J Q := A_istore_n (q := 3) (ab_io ci201 (by decide +kernel)) (Nat.le_of_ble_eq_true rfl) rfl
theorem k201_107 : At 201 107 [a0, a1, a2, some (.int x), a4] st I J Q ↔ At 201 108 [a0, a1, a2, some (.int x), a4] (.int x :: st) I J Q := A_iload_n (q := 3) (ab_io ci201 (by decide +kernel)) rfl
theorem k201_108 : At 201 108 ls st I J Q ↔ At 201 109 ls (.int (nI 4) :: st) I J Q := A_iconst (ab_io ci201 (by decide +kernel)) ic_4
theorem k201_109 : At 201 109 ls (.int x1 :: .int x :: st) I J Q ↔ if x1 ≤ x then At 201 144 ls st I J Q else At 201 112 ls st I J Q := A_if_icmp_ge (o := 35) (ab_io ci201 (by decide +kernel)) (by decide)
theorem k201_112 : At 201 112 ls st I J Q ↔ At 201 115 ls (.long 31 :: st) I J Q := A_ldc2_w (j := 291) (q := 1258) (ab_io ci201 (by decide +kernel)) ow201 (by decide +kernel)
theorem k201_115 : At 201 115 [a0, some (.long u), a2, a3, a4] st I J Q ↔ At 201 116 [a0, some (.long u), a2, a3, a4] (.long u :: st) I J Q := A_lload_n (q := 1) (ab_io ci201 (by decide +kernel)) rfl
theorem k201_116 : At 201 116 ls (.long u1 :: .long u :: st) I J Q ↔ At 201 117 ls (.long (u * u1) :: st) I J Q := A_lmul (ab_io ci201 (by decide +kernel))
theorem k201_117 : At 201 117 [some (.ref r), a1, a2, a3, a4] st I J Q ↔ At 201 118 [some (.ref r), a1, a2, a3, a4] (.ref r :: st) I J Q := A_aload_n (q := 0) (ab_io ci201 (by decide +kernel)) rfl
theorem k201_118 : At 201 118 [a0, a1, a2, some (.int x), a4] st I J Q ↔ At 201 119 [a0, a1, a2, some (.int x), a4] (.int x :: st) I J Q := A_iload_n (q := 3) (ab_io ci201 (by decide +kernel)) rfl
theorem k201_119 : At 201 119 ls st I J Q ↔ At 201 120 ls (.int (nI 0) :: st) I J Q := A_iconst (ab_io ci201 (by decide +kernel)) ic_0
theorem k201_120 : At 201 120 ls [.int p0, .int p1, .ref 49, .long qu0] I J Q ↔ Cal 149 [.ref 49, .int p1, .int p0] I J (fun v I' J' => At 201 123 ls (v.toList ++ [.long qu0]) I' J' Q) := A_cal (kd := 0) (j := 173) (na := 3) (ea := 3) (rk := 49) (by decide +kernel) rfl rfl rfl (Or.inr rfl) (Nat.le_of_ble_eq_true rfl)
theorem k201_123 : At 201 123 ls (.long u1 :: .long u :: st) I J Q ↔ At 201 124 ls (.long (u + u1) :: st) I J Q := A_ladd (ab_io ci201 (by decide +kernel))
theorem k201_124 : At 201 124 [a0, a1, a2, a3, a4] (.long u :: st) I J Q ↔ At 201 125 [ab_nv a0, some (.long u), none, a3, a4] st I J Q := A_lstore_n (q := 1) (ab_io ci201 (by decide +kernel)) (Nat.le_of_ble_eq_true rfl) rfl
theorem k201_125 : At 201 125 ls st I J Q ↔ At 201 128 ls (.long 31 :: st) I J Q := A_ldc2_w (j := 291) (q := 1258) (ab_io ci201 (by decide +kernel)) ow201 (by decide +kernel)
theorem k201_128 : At 201 128 [a0, some (.long u), a2, a3, a4] st I J Q ↔ At 201 129 [a0, some (.long u), a2, a3, a4] (.long u :: st) I J Q := A_lload_n (q := 1) (ab_io ci201 (by decide +kernel)) rfl
theorem k201_129 : At 201 129 ls (.long u1 :: .long u :: st) I J Q ↔ At 201 130 ls (.long (u * u1) :: st) I J Q := A_lmul (ab_io ci201 (by decide +kernel))
theorem k201_130 : At 201 130 [some (.ref r), a1, a2, a3, a4] st I J Q ↔ At 201 131 [some (.ref r), a1, a2, a3, a4] (.ref r :: st) I J Q := A_aload_n (q := 0) (ab_io ci201 (by decide +kernel)) rfl
theorem k201_131 : At 201 131 [a0, a1, a2, some (.int x), a4] st I J Q ↔ At 201 132 [a0, a1, a2, some (.int x), a4] (.int x :: st) I J Q := A_iload_n (q := 3) (ab_io ci201 (by decide +kernel)) rfl
theorem k201_132 : At 201 132 ls st I J Q ↔ At 201 133 ls (.int (nI 1) :: st) I J Q := A_iconst (ab_io ci201 (by decide +kernel)) ic_1
theorem k201_133 : At 201 133 ls [.int p0, .int p1, .ref 49, .long qu0] I J Q ↔ Cal 149 [.ref 49, .int p1, .int p0] I J (fun v I' J' => At 201 136 ls (v.toList ++ [.long qu0]) I' J' Q) := A_cal (kd := 0) (j := 173) (na := 3) (ea := 3) (rk := 49) (by decide +kernel) rfl rfl rfl (Or.inr rfl) (Nat.le_of_ble_eq_true rfl)
theorem k201_136 : At 201 136 ls (.long u1 :: .long u :: st) I J Q ↔ At 201 137 ls (.long (u + u1) :: st) I J Q := A_ladd (ab_io ci201 (by decide +kernel))
theorem k201_137 : At 201 137 [a0, a1, a2, a3, a4] (.long u :: st) I J Q ↔ At 201 138 [ab_nv a0, some (.long u), none, a3, a4] st I J Q := A_lstore_n (q := 1) (ab_io ci201 (by decide +kernel)) (Nat.le_of_ble_eq_true rfl) rfl
theorem k201_138 : At 201 138 [a0, a1, a2, some (.int x), a4] st I J Q ↔ At 201 141 [a0, a1, ab_nv a2, some (.int (x + (nI 1))), a4] st I J Q := A_iinc (q := 3) (ab_io ci201 (by decide +kernel)) ic_1 (Nat.le_of_ble_eq_true rfl) rfl rfl
theorem k201_141 : At 201 141 ls st I J Q ↔ At 201 107 ls st I J Q := A_goto (o := (-34)) (ab_io ci201 (by decide +kernel)) (by decide)
theorem k201_144 : At 201 144 ls st I J Q ↔ At 201 145 ls (.int (nI 0) :: st) I J Q := A_iconst (ab_io ci201 (by decide +kernel)) ic_0
theorem k201_145 : At 201 145 [a0, a1, a2, a3, a4] (.int x :: st) I J Q ↔ At 201 146 [a0, a1, ab_nv a2, some (.int x), a4] st I J Q := A_istore_n (q := 3) (ab_io ci201 (by decide +kernel)) (Nat.le_of_ble_eq_true rfl) rfl
theorem k201_146 : At 201 146 [a0, a1, a2, some (.int x), a4] st I J Q ↔ At 201 147 [a0, a1, a2, some (.int x), a4] (.int x :: st) I J Q := A_iload_n (q := 3) (ab_io ci201 (by decide +kernel)) rfl
theorem k201_147 : At 201 147 ls st I J Q ↔ At 201 148 ls (.int (nI 4) :: st) I J Q := A_iconst (ab_io ci201 (by decide +kernel)) ic_4
theorem k201_148 : At 201 148 ls (.int x1 :: .int x :: st) I J Q ↔ if x1 ≤ x then At 201 169 ls st I J Q else At 201 151 ls st I J Q := A_if_icmp_ge (o := 21) (ab_io ci201 (by decide +kernel)) (by decide)
theorem k201_151 : At 201 151 ls st I J Q ↔ At 201 154 ls (.long 31 :: st) I J Q := A_ldc2_w (j := 291) (q := 1258) (ab_io ci201 (by decide +kernel)) ow201 (by decide +kernel)
theorem k201_154 : At 201 154 [a0, some (.long u), a2, a3, a4] st I J Q ↔ At 201 155 [a0, some (.long u), a2, a3, a4] (.long u :: st) I J Q := A_lload_n (q := 1) (ab_io ci201 (by decide +kernel)) rfl
theorem k201_155 : At 201 155 ls (.long u1 :: .long u :: st) I J Q ↔ At 201 156 ls (.long (u * u1) :: st) I J Q := A_lmul (ab_io ci201 (by decide +kernel))
theorem k201_156 : At 201 156 [some (.ref r), a1, a2, a3, a4] st I J Q ↔ At 201 157 [some (.ref r), a1, a2, a3, a4] (.ref r :: st) I J Q := A_aload_n (q := 0) (ab_io ci201 (by decide +kernel)) rfl
theorem k201_157 : At 201 157 [a0, a1, a2, some (.int x), a4] st I J Q ↔ At 201 158 [a0, a1, a2, some (.int x), a4] (.int x :: st) I J Q := A_iload_n (q := 3) (ab_io ci201 (by decide +kernel)) rfl
theorem k201_158 : At 201 158 ls [.int p0, .ref 49, .long qu0] I J Q ↔ Cal 173 [.ref 49, .int p0] I J (fun v I' J' => At 201 161 ls (v.toList ++ [.long qu0]) I' J' Q) := A_cal (kd := 0) (j := 248) (na := 2) (ea := 2) (rk := 49) (by decide +kernel) rfl rfl rfl (Or.inr rfl) (Nat.le_of_ble_eq_true rfl)
theorem k201_161 : At 201 161 ls (.long u1 :: .long u :: st) I J Q ↔ At 201 162 ls (.long (u + u1) :: st) I J Q := A_ladd (ab_io ci201 (by decide +kernel))
theorem k201_162 : At 201 162 [a0, a1, a2, a3, a4] (.long u :: st) I J Q ↔ At 201 163 [ab_nv a0, some (.long u), none, a3, a4] st I J Q := A_lstore_n (q := 1) (ab_io ci201 (by decide +kernel)) (Nat.le_of_ble_eq_true rfl) rfl
theorem k201_163 : At 201 163 [a0, a1, a2, some (.int x), a4] st I J Q ↔ At 201 166 [a0, a1, ab_nv a2, some (.int (x + (nI 1))), a4] st I J Q := A_iinc (q := 3) (ab_io ci201 (by decide +kernel)) ic_1 (Nat.le_of_ble_eq_true rfl) rfl rfl
theorem k201_166 : At 201 166 ls st I J Q ↔ At 201 146 ls st I J Q := A_goto (o := (-20)) (ab_io ci201 (by decide +kernel)) (by decide)
theorem k201_169 : At 201 169 ls st I J Q ↔ At 201 172 ls (.long 31 :: st) I J Q := A_ldc2_w (j := 291) (q := 1258) (ab_io ci201 (by decide +kernel)) ow201 (by decide +kernel)
theorem k201_172 : At 201 172 [a0, some (.long u), a2, a3, a4] st I J Q ↔ At 201 173 [a0, some (.long u), a2, a3, a4] (.long u :: st) I J Q := A_lload_n (q := 1) (ab_io ci201 (by decide +kernel)) rfl
theorem k201_173 : At 201 173 ls (.long u1 :: .long u :: st) I J Q ↔ At 201 174 ls (.long (u * u1) :: st) I J Q := A_lmul (ab_io ci201 (by decide +kernel))
theorem k201_174 : At 201 174 [some (.ref r), a1, a2, a3, a4] st I J Q ↔ At 201 175 [some (.ref r), a1, a2, a3, a4] (.ref r :: st) I J Q := A_aload_n (q := 0) (ab_io ci201 (by decide +kernel)) rfl
theorem k201_175 : At 201 175 ls [.ref 49, .long qu0] I J Q ↔ Cal 163 [.ref 49] I J (fun v I' J' => At 201 178 ls (v.toList ++ [.long qu0]) I' J' Q) := A_cal (kd := 0) (j := 211) (na := 1) (ea := 1) (rk := 49) (by decide +kernel) rfl rfl rfl (Or.inr rfl) (Nat.le_of_ble_eq_true rfl)
theorem k201_178 : At 201 178 ls (.int x :: st) I J Q ↔ At 201 179 ls (.long x.toInt64 :: st) I J Q := A_i2l (ab_io ci201 (by decide +kernel))
theorem k201_179 : At 201 179 ls (.long u1 :: .long u :: st) I J Q ↔ At 201 180 ls (.long (u + u1) :: st) I J Q := A_ladd (ab_io ci201 (by decide +kernel))
theorem k201_180 : At 201 180 [a0, a1, a2, a3, a4] (.long u :: st) I J Q ↔ At 201 181 [ab_nv a0, some (.long u), none, a3, a4] st I J Q := A_lstore_n (q := 1) (ab_io ci201 (by decide +kernel)) (Nat.le_of_ble_eq_true rfl) rfl
theorem k201_181 : At 201 181 ls st I J Q ↔ At 201 184 ls (.long 31 :: st) I J Q := A_ldc2_w (j := 291) (q := 1258) (ab_io ci201 (by decide +kernel)) ow201 (by decide +kernel)
theorem k201_184 : At 201 184 [a0, some (.long u), a2, a3, a4] st I J Q ↔ At 201 185 [a0, some (.long u), a2, a3, a4] (.long u :: st) I J Q := A_lload_n (q := 1) (ab_io ci201 (by decide +kernel)) rfl
theorem k201_185 : At 201 185 ls (.long u1 :: .long u :: st) I J Q ↔ At 201 186 ls (.long (u * u1) :: st) I J Q := A_lmul (ab_io ci201 (by decide +kernel))
theorem k201_186 : At 201 186 [some (.ref r), a1, a2, a3, a4] st I J Q ↔ At 201 187 [some (.ref r), a1, a2, a3, a4] (.ref r :: st) I J Q := A_aload_n (q := 0) (ab_io ci201 (by decide +kernel)) rfl
theorem k201_187 : At 201 187 ls [.ref 49, .long qu0] I J Q ↔ Cal 185 [.ref 49] I J (fun v I' J' => At 201 190 ls (v.toList ++ [.long qu0]) I' J' Q) := A_cal (kd := 0) (j := 268) (na := 1) (ea := 1) (rk := 49) (by decide +kernel) rfl rfl rfl (Or.inr rfl) (Nat.le_of_ble_eq_true rfl)
theorem k201_190 : At 201 190 ls (.int x :: st) I J Q ↔ At 201 191 ls (.long x.toInt64 :: st) I J Q := A_i2l (ab_io ci201 (by decide +kernel))
theorem k201_191 : At 201 191 ls (.long u1 :: .long u :: st) I J Q ↔ At 201 192 ls (.long (u + u1) :: st) I J Q := A_ladd (ab_io ci201 (by decide +kernel))
theorem k201_192 : At 201 192 ls [.long u] I J Q ↔ Q (some (.long u)) I J := A_lret (ab_io ci201 (by decide +kernel)) rt201
theorem k202_0 : At 202 0 [some (.int x)] st I J Q ↔ At 202 1 [some (.int x)] (.int x :: st) I J Q := A_iload_n (q := 0) (ab_io ci202 (by decide +kernel)) rfl
theorem k202_1 : At 202 1 [some (.int x)] st I J Q ↔ At 202 2 [some (.int x)] (.int x :: st) I J Q := A_iload_n (q := 0) (ab_io ci202 (by decide +kernel)) rfl
theorem k202_2 : At 202 2 ls st I J Q ↔ At 202 3 ls (.int (nI 1) :: st) I J Q := A_iconst (ab_io ci202 (by decide +kernel)) ic_1
theorem k202_3 : At 202 3 ls (.int x1 :: .int x :: st) I J Q ↔ At 202 4 ls (.int ((x.toUInt32 >>> (x1.toUInt32 &&& Int32.toUInt32 31)).toInt32) :: st) I J Q := A_iushr (ab_io ci202 (by decide +kernel))
theorem k202_4 : At 202 4 ls st I J Q ↔ At 202 7 ls (.int (nI 1431655765) :: st) I J Q := A_ldc_w (j := 265) (q := 417) (ab_io ci202 (by decide +kernel)) ow202 (by decide +kernel)
theorem k202_7 : At 202 7 ls (.int x1 :: .int x :: st) I J Q ↔ At 202 8 ls (.int (x &&& x1) :: st) I J Q := A_iand (ab_io ci202 (by decide +kernel))
theorem k202_8 : At 202 8 ls (.int x1 :: .int x :: st) I J Q ↔ At 202 9 ls (.int (x - x1) :: st) I J Q := A_isub (ab_io ci202 (by decide +kernel))
theorem k202_9 : At 202 9 [a0] (.int x :: st) I J Q ↔ At 202 10 [some (.int x)] st I J Q := A_istore_n (q := 0) (ab_io ci202 (by decide +kernel)) (Nat.le_of_ble_eq_true rfl) rfl
theorem k202_10 : At 202 10 [some (.int x)] st I J Q ↔ At 202 11 [some (.int x)] (.int x :: st) I J Q := A_iload_n (q := 0) (ab_io ci202 (by decide +kernel)) rfl
theorem k202_11 : At 202 11 ls st I J Q ↔ At 202 14 ls (.int (nI 858993459) :: st) I J Q := A_ldc_w (j := 266) (q := 418) (ab_io ci202 (by decide +kernel)) ow202 (by decide +kernel)
theorem k202_14 : At 202 14 ls (.int x1 :: .int x :: st) I J Q ↔ At 202 15 ls (.int (x &&& x1) :: st) I J Q := A_iand (ab_io ci202 (by decide +kernel))
theorem k202_15 : At 202 15 [some (.int x)] st I J Q ↔ At 202 16 [some (.int x)] (.int x :: st) I J Q := A_iload_n (q := 0) (ab_io ci202 (by decide +kernel)) rfl
theorem k202_16 : At 202 16 ls st I J Q ↔ At 202 17 ls (.int (nI 2) :: st) I J Q := A_iconst (ab_io ci202 (by decide +kernel)) ic_2
theorem k202_17 : At 202 17 ls (.int x1 :: .int x :: st) I J Q ↔ At 202 18 ls (.int ((x.toUInt32 >>> (x1.toUInt32 &&& Int32.toUInt32 31)).toInt32) :: st) I J Q := A_iushr (ab_io ci202 (by decide +kernel))
theorem k202_18 : At 202 18 ls st I J Q ↔ At 202 21 ls (.int (nI 858993459) :: st) I J Q := A_ldc_w (j := 266) (q := 418) (ab_io ci202 (by decide +kernel)) ow202 (by decide +kernel)
theorem k202_21 : At 202 21 ls (.int x1 :: .int x :: st) I J Q ↔ At 202 22 ls (.int (x &&& x1) :: st) I J Q := A_iand (ab_io ci202 (by decide +kernel))
theorem k202_22 : At 202 22 ls (.int x1 :: .int x :: st) I J Q ↔ At 202 23 ls (.int (x + x1) :: st) I J Q := A_iadd (ab_io ci202 (by decide +kernel))
theorem k202_23 : At 202 23 [a0] (.int x :: st) I J Q ↔ At 202 24 [some (.int x)] st I J Q := A_istore_n (q := 0) (ab_io ci202 (by decide +kernel)) (Nat.le_of_ble_eq_true rfl) rfl
theorem k202_24 : At 202 24 [some (.int x)] st I J Q ↔ At 202 25 [some (.int x)] (.int x :: st) I J Q := A_iload_n (q := 0) (ab_io ci202 (by decide +kernel)) rfl
theorem k202_25 : At 202 25 [some (.int x)] st I J Q ↔ At 202 26 [some (.int x)] (.int x :: st) I J Q := A_iload_n (q := 0) (ab_io ci202 (by decide +kernel)) rfl
theorem k202_26 : At 202 26 ls st I J Q ↔ At 202 27 ls (.int (nI 4) :: st) I J Q := A_iconst (ab_io ci202 (by decide +kernel)) ic_4
theorem k202_27 : At 202 27 ls (.int x1 :: .int x :: st) I J Q ↔ At 202 28 ls (.int ((x.toUInt32 >>> (x1.toUInt32 &&& Int32.toUInt32 31)).toInt32) :: st) I J Q := A_iushr (ab_io ci202 (by decide +kernel))
theorem k202_28 : At 202 28 ls (.int x1 :: .int x :: st) I J Q ↔ At 202 29 ls (.int (x + x1) :: st) I J Q := A_iadd (ab_io ci202 (by decide +kernel))
theorem k202_29 : At 202 29 ls st I J Q ↔ At 202 32 ls (.int (nI 252645135) :: st) I J Q := A_ldc_w (j := 267) (q := 419) (ab_io ci202 (by decide +kernel)) ow202 (by decide +kernel)
theorem k202_32 : At 202 32 ls (.int x1 :: .int x :: st) I J Q ↔ At 202 33 ls (.int (x &&& x1) :: st) I J Q := A_iand (ab_io ci202 (by decide +kernel))
theorem k202_33 : At 202 33 [a0] (.int x :: st) I J Q ↔ At 202 34 [some (.int x)] st I J Q := A_istore_n (q := 0) (ab_io ci202 (by decide +kernel)) (Nat.le_of_ble_eq_true rfl) rfl
theorem k202_34 : At 202 34 [some (.int x)] st I J Q ↔ At 202 35 [some (.int x)] (.int x :: st) I J Q := A_iload_n (q := 0) (ab_io ci202 (by decide +kernel)) rfl
theorem k202_35 : At 202 35 [some (.int x)] st I J Q ↔ At 202 36 [some (.int x)] (.int x :: st) I J Q := A_iload_n (q := 0) (ab_io ci202 (by decide +kernel)) rfl
theorem k202_36 : At 202 36 ls st I J Q ↔ At 202 38 ls (.int (nI 8) :: st) I J Q := A_bipush (ab_io ci202 (by decide +kernel)) bc_8
theorem k202_38 : At 202 38 ls (.int x1 :: .int x :: st) I J Q ↔ At 202 39 ls (.int ((x.toUInt32 >>> (x1.toUInt32 &&& Int32.toUInt32 31)).toInt32) :: st) I J Q := A_iushr (ab_io ci202 (by decide +kernel))
theorem k202_39 : At 202 39 ls (.int x1 :: .int x :: st) I J Q ↔ At 202 40 ls (.int (x + x1) :: st) I J Q := A_iadd (ab_io ci202 (by decide +kernel))
theorem k202_40 : At 202 40 [a0] (.int x :: st) I J Q ↔ At 202 41 [some (.int x)] st I J Q := A_istore_n (q := 0) (ab_io ci202 (by decide +kernel)) (Nat.le_of_ble_eq_true rfl) rfl
theorem k202_41 : At 202 41 [some (.int x)] st I J Q ↔ At 202 42 [some (.int x)] (.int x :: st) I J Q := A_iload_n (q := 0) (ab_io ci202 (by decide +kernel)) rfl
theorem k202_42 : At 202 42 [some (.int x)] st I J Q ↔ At 202 43 [some (.int x)] (.int x :: st) I J Q := A_iload_n (q := 0) (ab_io ci202 (by decide +kernel)) rfl
theorem k202_43 : At 202 43 ls st I J Q ↔ At 202 45 ls (.int (nI 16) :: st) I J Q := A_bipush (ab_io ci202 (by decide +kernel)) bc_16
theorem k202_45 : At 202 45 ls (.int x1 :: .int x :: st) I J Q ↔ At 202 46 ls (.int ((x.toUInt32 >>> (x1.toUInt32 &&& Int32.toUInt32 31)).toInt32) :: st) I J Q := A_iushr (ab_io ci202 (by decide +kernel))
theorem k202_46 : At 202 46 ls (.int x1 :: .int x :: st) I J Q ↔ At 202 47 ls (.int (x + x1) :: st) I J Q := A_iadd (ab_io ci202 (by decide +kernel))
theorem k202_47 : At 202 47 [a0] (.int x :: st) I J Q ↔ At 202 48 [some (.int x)] st I J Q := A_istore_n (q := 0) (ab_io ci202 (by decide +kernel)) (Nat.le_of_ble_eq_true rfl) rfl
theorem k202_48 : At 202 48 [some (.int x)] st I J Q ↔ At 202 49 [some (.int x)] (.int x :: st) I J Q := A_iload_n (q := 0) (ab_io ci202 (by decide +kernel)) rfl
theorem k202_49 : At 202 49 ls st I J Q ↔ At 202 51 ls (.int (nI 63) :: st) I J Q := A_bipush (ab_io ci202 (by decide +kernel)) bc_63
theorem k202_51 : At 202 51 ls (.int x1 :: .int x :: st) I J Q ↔ At 202 52 ls (.int (x &&& x1) :: st) I J Q := A_iand (ab_io ci202 (by decide +kernel))
theorem k202_52 : At 202 52 ls [.int x] I J Q ↔ Q (some (.int x)) I J := A_iret (ab_io ci202 (by decide +kernel)) rt202
end KROWS
