section KROWS
variable {ls : ab_L} {st : List Value} {I : ab_I} {J : ab_J} {Q : Option Value → ab_I → ab_J → Prop} {x x1 x2 : Int32} {u u1 : Int64} {r r1 : Nat}
variable {a0 a1 a2 a3 a4 a5 a6 a7 a8 a9 a10 a11 a12 a13 a14 a15 a16 a17 a18 a19 : Option Value}
variable {p0 q0 p1 q1 p2 q2 p3 q3 p4 q4 p5 q5 : Int32} {pu0 qu0 pu1 qu1 pu2 qu2 pu3 qu3 pu4 qu4 pu5 qu5 : Int64} {pr0 qr0 pr1 qr1 pr2 qr2 pr3 qr3 pr4 qr4 pr5 qr5 : Nat}
theorem k76_0 : At 76 0 [a0, some (.int x), a2, a3, a4] st I J Q ↔ At 76 1 [a0, some (.int x), a2, a3, a4] (.int x :: st) I J Q := A_iload_n (q := 1) (ab_io ci76 (by decide +kernel)) rfl
theorem k76_1 : At 76 1 ls [.int p0] I J Q ↔ Cal 116 [.int p0] I J (fun v I' J' => At 76 4 ls (v.toList ++ []) I' J' Q) := A_cal (kd := 1) (j := 76) (na := 1) (ea := 1) (rk := 0) (by decide +kernel) rfl rfl rfl (Or.inl rfl) (Nat.le_of_ble_eq_true rfl)
theorem k76_4 : At 76 4 ls (.int x :: st) I J Q ↔ if x = 0 then At 76 37 ls st I J Q else At 76 7 ls st I J Q := A_ifCond_eq (o := 33) (ab_io ci76 (by decide +kernel)) (by decide)
theorem k76_7 : At 76 7 [a0, a1, some (.int x), a3, a4] st I J Q ↔ At 76 8 [a0, a1, some (.int x), a3, a4] (.int x :: st) I J Q := A_iload_n (q := 2) (ab_io ci76 (by decide +kernel)) rfl
theorem k76_8 : At 76 8 ls [.int p0] I J Q ↔ Cal 117 [.int p0] I J (fun v I' J' => At 76 11 ls (v.toList ++ []) I' J' Q) := A_cal (kd := 1) (j := 80) (na := 1) (ea := 1) (rk := 0) (by decide +kernel) rfl rfl rfl (Or.inl rfl) (Nat.le_of_ble_eq_true rfl)
theorem k76_11 : At 76 11 ls (.int x :: st) I J Q ↔ if x = 0 then At 76 37 ls st I J Q else At 76 14 ls st I J Q := A_ifCond_eq (o := 26) (ab_io ci76 (by decide +kernel)) (by decide)
theorem k76_14 : At 76 14 [a0, a1, a2, some (.int x), a4] st I J Q ↔ At 76 15 [a0, a1, a2, some (.int x), a4] (.int x :: st) I J Q := A_iload_n (q := 3) (ab_io ci76 (by decide +kernel)) rfl
theorem k76_15 : At 76 15 ls st I J Q ↔ At 76 16 ls (.int (-1) :: st) I J Q := A_iconst (ab_io ci76 (by decide +kernel)) ic_m1
theorem k76_16 : At 76 16 ls (.int x1 :: .int x :: st) I J Q ↔ if x < x1 then At 76 37 ls st I J Q else At 76 19 ls st I J Q := A_if_icmp_lt (o := 21) (ab_io ci76 (by decide +kernel)) (by decide)
theorem k76_19 : At 76 19 [a0, a1, a2, some (.int x), a4] st I J Q ↔ At 76 20 [a0, a1, a2, some (.int x), a4] (.int x :: st) I J Q := A_iload_n (q := 3) (ab_io ci76 (by decide +kernel)) rfl
theorem k76_20 : At 76 20 ls st I J Q ↔ At 76 22 ls (.int (nI 100) :: st) I J Q := A_bipush (ab_io ci76 (by decide +kernel)) bc_100
theorem k76_22 : At 76 22 ls (.int x1 :: .int x :: st) I J Q ↔ if x1 < x then At 76 37 ls st I J Q else At 76 25 ls st I J Q := A_if_icmp_gt (o := 15) (ab_io ci76 (by decide +kernel)) (by decide)
theorem k76_25 : At 76 25 [some (.ref r), a1, a2, a3, a4] st I J Q ↔ At 76 26 [some (.ref r), a1, a2, a3, a4] (.ref r :: st) I J Q := A_aload_n (q := 0) (ab_io ci76 (by decide +kernel)) rfl
theorem k76_26 : At 76 26 ls (.ref 0 :: st) I J Q ↔ At 76 29 ls (.ref 1 :: st) I J Q := A_getR (ab_io ci76 (by decide +kernel)) ow76 fq7_10_0
theorem k76_29 : At 76 29 [a0, a1, a2, a3, some (.int x)] st I J Q ↔ At 76 31 [a0, a1, a2, a3, some (.int x)] (.int x :: st) I J Q := A_iload (q := 4) (ab_io ci76 (by decide +kernel)) rfl
theorem k76_31 : At 76 31 ls [.int p0, .ref 1] I J Q ↔ Cal 67 [.ref 1, .int p0] I J (fun v I' J' => At 76 34 ls (v.toList ++ []) I' J' Q) := A_cal (kd := 0) (j := 83) (na := 2) (ea := 2) (rk := 1) (by decide +kernel) rfl rfl rfl (Or.inr rfl) (Nat.le_of_ble_eq_true rfl)
theorem k76_34 : At 76 34 ls (.int x :: st) I J Q ↔ if ¬ x = 0 then At 76 40 ls st I J Q else At 76 37 ls st I J Q := A_ifCond_ne (o := 6) (ab_io ci76 (by decide +kernel)) (by decide)
theorem k76_37 : At 76 37 ls st I J Q ↔ At 76 39 ls (.int (-2) :: st) I J Q := A_bipush (ab_io ci76 (by decide +kernel)) bc_m2
theorem k76_39 : At 76 39 ls [.int x] I J Q ↔ Q (some (.int x)) I J := A_iret (ab_io ci76 (by decide +kernel)) rt76
theorem k76_40 : At 76 40 [some (.ref r), a1, a2, a3, a4] st I J Q ↔ At 76 41 [some (.ref r), a1, a2, a3, a4] (.ref r :: st) I J Q := A_aload_n (q := 0) (ab_io ci76 (by decide +kernel)) rfl
theorem k76_41 : At 76 41 ls (.ref 0 :: st) I J Q ↔ At 76 44 ls (.ref 1 :: st) I J Q := A_getR (ab_io ci76 (by decide +kernel)) ow76 fq7_10_0
theorem k76_44 : At 76 44 ls [.ref 1] I J Q ↔ Cal 68 [.ref 1] I J (fun v I' J' => At 76 47 ls (v.toList ++ []) I' J' Q) := A_cal (kd := 0) (j := 86) (na := 1) (ea := 1) (rk := 1) (by decide +kernel) rfl rfl rfl (Or.inr rfl) (Nat.le_of_ble_eq_true rfl)
theorem k76_47 : At 76 47 ls (.int x :: st) I J Q ↔ if x = 0 then At 76 53 ls st I J Q else At 76 50 ls st I J Q := A_ifCond_eq (o := 6) (ab_io ci76 (by decide +kernel)) (by decide)
theorem k76_50 : At 76 50 ls st I J Q ↔ At 76 52 ls (.int (-4) :: st) I J Q := A_bipush (ab_io ci76 (by decide +kernel)) bc_m4
theorem k76_52 : At 76 52 ls [.int x] I J Q ↔ Q (some (.int x)) I J := A_iret (ab_io ci76 (by decide +kernel)) rt76
theorem k76_53 : At 76 53 [some (.ref r), a1, a2, a3, a4] st I J Q ↔ At 76 54 [some (.ref r), a1, a2, a3, a4] (.ref r :: st) I J Q := A_aload_n (q := 0) (ab_io ci76 (by decide +kernel)) rfl
theorem k76_54 : At 76 54 ls (.ref 0 :: st) I J Q ↔ At 76 57 ls (.ref 1 :: st) I J Q := A_getR (ab_io ci76 (by decide +kernel)) ow76 fq7_10_0
theorem k76_57 : At 76 57 ls st I J Q ↔ At 76 58 ls (.int (nI 4) :: st) I J Q := A_iconst (ab_io ci76 (by decide +kernel)) ic_4
theorem k76_58 : At 76 58 [a0, some (.int x), a2, a3, a4] st I J Q ↔ At 76 59 [a0, some (.int x), a2, a3, a4] (.int x :: st) I J Q := A_iload_n (q := 1) (ab_io ci76 (by decide +kernel)) rfl
theorem k76_59 : At 76 59 ls (.int x1 :: .int x :: st) I J Q ↔ At 76 60 ls (.int (x * x1) :: st) I J Q := A_imul (ab_io ci76 (by decide +kernel))
theorem k76_60 : At 76 60 [a0, a1, some (.int x), a3, a4] st I J Q ↔ At 76 61 [a0, a1, some (.int x), a3, a4] (.int x :: st) I J Q := A_iload_n (q := 2) (ab_io ci76 (by decide +kernel)) rfl
theorem k76_61 : At 76 61 ls (.int x1 :: .int x :: st) I J Q ↔ At 76 62 ls (.int (x + x1) :: st) I J Q := A_iadd (ab_io ci76 (by decide +kernel))
theorem k76_62 : At 76 62 [a0, a1, a2, some (.int x), a4] st I J Q ↔ At 76 63 [a0, a1, a2, some (.int x), a4] (.int x :: st) I J Q := A_iload_n (q := 3) (ab_io ci76 (by decide +kernel)) rfl
theorem k76_63 : At 76 63 [a0, a1, a2, a3, some (.int x)] st I J Q ↔ At 76 65 [a0, a1, a2, a3, some (.int x)] (.int x :: st) I J Q := A_iload (q := 4) (ab_io ci76 (by decide +kernel)) rfl
theorem k76_65 : At 76 65 ls [.int p0, .int p1, .int p2, .ref 1] I J Q ↔ Cal 69 [.ref 1, .int p2, .int p1, .int p0] I J (fun v I' J' => At 76 68 ls (v.toList ++ []) I' J' Q) := A_cal (kd := 0) (j := 90) (na := 4) (ea := 4) (rk := 1) (by decide +kernel) rfl rfl rfl (Or.inr rfl) (Nat.le_of_ble_eq_true rfl)
theorem k76_68 : At 76 68 [some (.ref r), a1, a2, a3, a4] st I J Q ↔ At 76 69 [some (.ref r), a1, a2, a3, a4] (.ref r :: st) I J Q := A_aload_n (q := 0) (ab_io ci76 (by decide +kernel)) rfl
theorem k76_69 : At 76 69 ls st I J Q ↔ At 76 70 ls (.int (nI 1) :: st) I J Q := A_iconst (ab_io ci76 (by decide +kernel)) ic_1
theorem k76_70v0 : At 76 70 ls (.int (nI 0) :: .ref 0 :: st) I J Q ↔ At 76 73 ls st (va_up I 0 (va_up (I 0) 10 (nI 0))) J Q := A_putZ (ab_io ci76 (by decide +kernel)) ow76 ⟨fq7_68_0.1, fq7_68_0.2, Or.inl rfl⟩
theorem k76_70v1 : At 76 70 ls (.int (nI 1) :: .ref 0 :: st) I J Q ↔ At 76 73 ls st (va_up I 0 (va_up (I 0) 10 (nI 1))) J Q := A_putZ (ab_io ci76 (by decide +kernel)) ow76 ⟨fq7_68_0.1, fq7_68_0.2, Or.inr rfl⟩
theorem k76_73 : At 76 73 [some (.ref r), a1, a2, a3, a4] st I J Q ↔ At 76 74 [some (.ref r), a1, a2, a3, a4] (.ref r :: st) I J Q := A_aload_n (q := 0) (ab_io ci76 (by decide +kernel)) rfl
theorem k76_74 : At 76 74 ls (.ref 0 :: st) I J Q ↔ At 76 77 ls (.ref 1 :: st) I J Q := A_getR (ab_io ci76 (by decide +kernel)) ow76 fq7_10_0
theorem k76_77 : At 76 77 ls (.ref 1 :: st) I J Q ↔ At 76 80 ls (.int (I 1 3) :: st) I J Q := A_getI (ab_io ci76 (by decide +kernel)) ow76 fq7_94_1
theorem k76_80 : At 76 80 ls [.int x] I J Q ↔ Q (some (.int x)) I J := A_iret (ab_io ci76 (by decide +kernel)) rt76
theorem k77_0 : At 77 0 [a0, some (.int x), a2, a3, a4, a5, a6] st I J Q ↔ At 77 1 [a0, some (.int x), a2, a3, a4, a5, a6] (.int x :: st) I J Q := A_iload_n (q := 1) (ab_io ci77 (by decide +kernel)) rfl
theorem k77_1 : At 77 1 ls [.int p0] I J Q ↔ Cal 118 [.int p0] I J (fun v I' J' => At 77 4 ls (v.toList ++ []) I' J' Q) := A_cal (kd := 1) (j := 97) (na := 1) (ea := 1) (rk := 0) (by decide +kernel) rfl rfl rfl (Or.inl rfl) (Nat.le_of_ble_eq_true rfl)
theorem k77_4 : At 77 4 ls (.int x :: st) I J Q ↔ if x = 0 then At 77 18 ls st I J Q else At 77 7 ls st I J Q := A_ifCond_eq (o := 14) (ab_io ci77 (by decide +kernel)) (by decide)
theorem k77_7 : At 77 7 [some (.ref r), a1, a2, a3, a4, a5, a6] st I J Q ↔ At 77 8 [some (.ref r), a1, a2, a3, a4, a5, a6] (.ref r :: st) I J Q := A_aload_n (q := 0) (ab_io ci77 (by decide +kernel)) rfl
theorem k77_8 : At 77 8 ls (.ref 0 :: st) I J Q ↔ At 77 11 ls (.ref 1 :: st) I J Q := A_getR (ab_io ci77 (by decide +kernel)) ow77 fq7_10_0
theorem k77_11 : At 77 11 [a0, a1, some (.int x), a3, a4, a5, a6] st I J Q ↔ At 77 12 [a0, a1, some (.int x), a3, a4, a5, a6] (.int x :: st) I J Q := A_iload_n (q := 2) (ab_io ci77 (by decide +kernel)) rfl
theorem k77_12 : At 77 12 ls [.int p0, .ref 1] I J Q ↔ Cal 67 [.ref 1, .int p0] I J (fun v I' J' => At 77 15 ls (v.toList ++ []) I' J' Q) := A_cal (kd := 0) (j := 83) (na := 2) (ea := 2) (rk := 1) (by decide +kernel) rfl rfl rfl (Or.inr rfl) (Nat.le_of_ble_eq_true rfl)
theorem k77_15 : At 77 15 ls (.int x :: st) I J Q ↔ if ¬ x = 0 then At 77 21 ls st I J Q else At 77 18 ls st I J Q := A_ifCond_ne (o := 6) (ab_io ci77 (by decide +kernel)) (by decide)
theorem k77_18 : At 77 18 ls st I J Q ↔ At 77 20 ls (.int (-2) :: st) I J Q := A_bipush (ab_io ci77 (by decide +kernel)) bc_m2
theorem k77_20 : At 77 20 ls [.int x] I J Q ↔ Q (some (.int x)) I J := A_iret (ab_io ci77 (by decide +kernel)) rt77
theorem k77_21 : At 77 21 [some (.ref r), a1, a2, a3, a4, a5, a6] st I J Q ↔ At 77 22 [some (.ref r), a1, a2, a3, a4, a5, a6] (.ref r :: st) I J Q := A_aload_n (q := 0) (ab_io ci77 (by decide +kernel)) rfl
theorem k77_22 : At 77 22 ls (.ref 0 :: st) I J Q ↔ At 77 25 ls (.ref 43 :: st) I J Q := A_getR (ab_io ci77 (by decide +kernel)) ow77 fq7_57_0
theorem k77_25 : At 77 25 [a0, some (.int x), a2, a3, a4, a5, a6] st I J Q ↔ At 77 26 [a0, some (.int x), a2, a3, a4, a5, a6] (.int x :: st) I J Q := A_iload_n (q := 1) (ab_io ci77 (by decide +kernel)) rfl
theorem k77_26 : At 77 26 ls [.int p0, .ref 43] I J Q ↔ Cal 53 [.ref 43, .int p0] I J (fun v I' J' => At 77 29 ls (v.toList ++ []) I' J' Q) := A_cal (kd := 0) (j := 100) (na := 2) (ea := 2) (rk := 43) (by decide +kernel) rfl rfl rfl (Or.inr rfl) (Nat.le_of_ble_eq_true rfl)
theorem k77_29 : At 77 29 ls (.int x :: st) I J Q ↔ if x = 0 then At 77 38 ls st I J Q else At 77 32 ls st I J Q := A_ifCond_eq (o := 9) (ab_io ci77 (by decide +kernel)) (by decide)
theorem k77_32 : At 77 32 [some (.ref r), a1, a2, a3, a4, a5, a6] st I J Q ↔ At 77 33 [some (.ref r), a1, a2, a3, a4, a5, a6] (.ref r :: st) I J Q := A_aload_n (q := 0) (ab_io ci77 (by decide +kernel)) rfl
theorem k77_33 : At 77 33 ls st I J Q ↔ At 77 34 ls (.int (nI 1) :: st) I J Q := A_iconst (ab_io ci77 (by decide +kernel)) ic_1
theorem k77_34 : At 77 34 ls [.int p0, .ref 0] I J Q ↔ Cal 111 [.ref 0, .int p0] I J (fun v I' J' => At 77 37 ls (v.toList ++ []) I' J' Q) := A_cal (kd := 0) (j := 103) (na := 2) (ea := 2) (rk := 0) (by decide +kernel) rfl rfl rfl (Or.inr rfl) (Nat.le_of_ble_eq_true rfl)
theorem k77_37 : At 77 37 ls [.int x] I J Q ↔ Q (some (.int x)) I J := A_iret (ab_io ci77 (by decide +kernel)) rt77
theorem k77_38 : At 77 38 [some (.ref r), a1, a2, a3, a4, a5, a6] st I J Q ↔ At 77 39 [some (.ref r), a1, a2, a3, a4, a5, a6] (.ref r :: st) I J Q := A_aload_n (q := 0) (ab_io ci77 (by decide +kernel)) rfl
theorem k77_39 : At 77 39 ls (.ref 0 :: st) I J Q ↔ At 77 42 ls (.ref 43 :: st) I J Q := A_getR (ab_io ci77 (by decide +kernel)) ow77 fq7_57_0
theorem k77_42 : At 77 42 ls (.ref 43 :: st) I J Q ↔ At 77 45 ls (.ref 46 :: st) I J Q := A_getR (ab_io ci77 (by decide +kernel)) ow77 fq7_107_43
theorem k77_45 : At 77 45 [a0, some (.int x), a2, a3, a4, a5, a6] st I J Q ↔ At 77 46 [a0, some (.int x), a2, a3, a4, a5, a6] (.int x :: st) I J Q := A_iload_n (q := 1) (ab_io ci77 (by decide +kernel)) rfl
theorem k77_46 : At 77 46 ls (.int x :: .ref r :: st) I J Q ↔ ((ab_ly r).1 = 1 ∧ r < 75 ∧ 0 ≤ x.toInt ∧ x.toInt < (ab_ly r).2) ∧ At 77 47 ls (.int (I r x.toNatClampNeg) :: st) I J Q := A_iaload (ab_io ci77 (by decide +kernel))
theorem k77_47 : At 77 47 ls st I J Q ↔ At 77 48 ls (.int (nI 3) :: st) I J Q := A_iconst (ab_io ci77 (by decide +kernel)) ic_3
theorem k77_48 : At 77 48 ls (.int x1 :: .int x :: st) I J Q ↔ ¬ x1 = 0 ∧ At 77 49 ls (.int (x / x1) :: st) I J Q := A_idiv (ab_io ci77 (by decide +kernel))
theorem k77_49 : At 77 49 [a0, a1, a2, a3, a4, a5, a6] (.int x :: st) I J Q ↔ At 77 50 [a0, a1, ab_nv a2, some (.int x), a4, a5, a6] st I J Q := A_istore_n (q := 3) (ab_io ci77 (by decide +kernel)) (Nat.le_of_ble_eq_true rfl) rfl
theorem k77_50 : At 77 50 ls st I J Q ↔ At 77 51 ls (.int (nI 0) :: st) I J Q := A_iconst (ab_io ci77 (by decide +kernel)) ic_0
theorem k77_51 : At 77 51 [a0, a1, a2, a3, a4, a5, a6] (.int x :: st) I J Q ↔ At 77 53 [a0, a1, a2, ab_nv a3, some (.int x), a5, a6] st I J Q := A_istore (q := 4) (ab_io ci77 (by decide +kernel)) (Nat.le_of_ble_eq_true rfl) rfl
theorem k77_53 : At 77 53 [a0, a1, a2, a3, some (.int x), a5, a6] st I J Q ↔ At 77 55 [a0, a1, a2, a3, some (.int x), a5, a6] (.int x :: st) I J Q := A_iload (q := 4) (ab_io ci77 (by decide +kernel)) rfl
theorem k77_55 : At 77 55 [a0, a1, a2, some (.int x), a4, a5, a6] st I J Q ↔ At 77 56 [a0, a1, a2, some (.int x), a4, a5, a6] (.int x :: st) I J Q := A_iload_n (q := 3) (ab_io ci77 (by decide +kernel)) rfl
theorem k77_56 : At 77 56 ls (.int x1 :: .int x :: st) I J Q ↔ if x1 ≤ x then At 77 124 ls st I J Q else At 77 59 ls st I J Q := A_if_icmp_ge (o := 68) (ab_io ci77 (by decide +kernel)) (by decide)
theorem k77_59 : At 77 59 [some (.ref r), a1, a2, a3, a4, a5, a6] st I J Q ↔ At 77 60 [some (.ref r), a1, a2, a3, a4, a5, a6] (.ref r :: st) I J Q := A_aload_n (q := 0) (ab_io ci77 (by decide +kernel)) rfl
theorem k77_60 : At 77 60 ls (.ref 0 :: st) I J Q ↔ At 77 63 ls (.ref 43 :: st) I J Q := A_getR (ab_io ci77 (by decide +kernel)) ow77 fq7_57_0
theorem k77_63 : At 77 63 [a0, some (.int x), a2, a3, a4, a5, a6] st I J Q ↔ At 77 64 [a0, some (.int x), a2, a3, a4, a5, a6] (.int x :: st) I J Q := A_iload_n (q := 1) (ab_io ci77 (by decide +kernel)) rfl
theorem k77_64 : At 77 64 ls st I J Q ↔ At 77 65 ls (.int (nI 3) :: st) I J Q := A_iconst (ab_io ci77 (by decide +kernel)) ic_3
theorem k77_65 : At 77 65 [a0, a1, a2, a3, some (.int x), a5, a6] st I J Q ↔ At 77 67 [a0, a1, a2, a3, some (.int x), a5, a6] (.int x :: st) I J Q := A_iload (q := 4) (ab_io ci77 (by decide +kernel)) rfl
theorem k77_67 : At 77 67 ls (.int x1 :: .int x :: st) I J Q ↔ At 77 68 ls (.int (x * x1) :: st) I J Q := A_imul (ab_io ci77 (by decide +kernel))
theorem k77_68 : At 77 68 ls [.int p0, .int p1, .ref 43] I J Q ↔ Cal 58 [.ref 43, .int p1, .int p0] I J (fun v I' J' => At 77 71 ls (v.toList ++ []) I' J' Q) := A_cal (kd := 0) (j := 110) (na := 3) (ea := 3) (rk := 43) (by decide +kernel) rfl rfl rfl (Or.inr rfl) (Nat.le_of_ble_eq_true rfl)
theorem k77_71 : At 77 71 [a0, a1, a2, a3, a4, a5, a6] (.int x :: st) I J Q ↔ At 77 73 [a0, a1, a2, a3, ab_nv a4, some (.int x), a6] st I J Q := A_istore (q := 5) (ab_io ci77 (by decide +kernel)) (Nat.le_of_ble_eq_true rfl) rfl
theorem k77_73 : At 77 73 [some (.ref r), a1, a2, a3, a4, a5, a6] st I J Q ↔ At 77 74 [some (.ref r), a1, a2, a3, a4, a5, a6] (.ref r :: st) I J Q := A_aload_n (q := 0) (ab_io ci77 (by decide +kernel)) rfl
theorem k77_74 : At 77 74 ls (.ref 0 :: st) I J Q ↔ At 77 77 ls (.ref 43 :: st) I J Q := A_getR (ab_io ci77 (by decide +kernel)) ow77 fq7_57_0
theorem k77_77 : At 77 77 [a0, some (.int x), a2, a3, a4, a5, a6] st I J Q ↔ At 77 78 [a0, some (.int x), a2, a3, a4, a5, a6] (.int x :: st) I J Q := A_iload_n (q := 1) (ab_io ci77 (by decide +kernel)) rfl
theorem k77_78 : At 77 78 ls st I J Q ↔ At 77 79 ls (.int (nI 3) :: st) I J Q := A_iconst (ab_io ci77 (by decide +kernel)) ic_3
theorem k77_79 : At 77 79 [a0, a1, a2, a3, some (.int x), a5, a6] st I J Q ↔ At 77 81 [a0, a1, a2, a3, some (.int x), a5, a6] (.int x :: st) I J Q := A_iload (q := 4) (ab_io ci77 (by decide +kernel)) rfl
theorem k77_81 : At 77 81 ls (.int x1 :: .int x :: st) I J Q ↔ At 77 82 ls (.int (x * x1) :: st) I J Q := A_imul (ab_io ci77 (by decide +kernel))
theorem k77_82 : At 77 82 ls st I J Q ↔ At 77 83 ls (.int (nI 1) :: st) I J Q := A_iconst (ab_io ci77 (by decide +kernel)) ic_1
theorem k77_83 : At 77 83 ls (.int x1 :: .int x :: st) I J Q ↔ At 77 84 ls (.int (x + x1) :: st) I J Q := A_iadd (ab_io ci77 (by decide +kernel))
theorem k77_84 : At 77 84 ls [.int p0, .int p1, .ref 43] I J Q ↔ Cal 58 [.ref 43, .int p1, .int p0] I J (fun v I' J' => At 77 87 ls (v.toList ++ []) I' J' Q) := A_cal (kd := 0) (j := 110) (na := 3) (ea := 3) (rk := 43) (by decide +kernel) rfl rfl rfl (Or.inr rfl) (Nat.le_of_ble_eq_true rfl)
theorem k77_87 : At 77 87 [a0, a1, a2, a3, a4, a5, a6] (.int x :: st) I J Q ↔ At 77 89 [a0, a1, a2, a3, a4, ab_nv a5, some (.int x)] st I J Q := A_istore (q := 6) (ab_io ci77 (by decide +kernel)) (Nat.le_of_ble_eq_true rfl) rfl
theorem k77_89 : At 77 89 [some (.ref r), a1, a2, a3, a4, a5, a6] st I J Q ↔ At 77 90 [some (.ref r), a1, a2, a3, a4, a5, a6] (.ref r :: st) I J Q := A_aload_n (q := 0) (ab_io ci77 (by decide +kernel)) rfl
theorem k77_90 : At 77 90 [a0, a1, a2, a3, a4, some (.int x), a6] st I J Q ↔ At 77 92 [a0, a1, a2, a3, a4, some (.int x), a6] (.int x :: st) I J Q := A_iload (q := 5) (ab_io ci77 (by decide +kernel)) rfl
theorem k77_92 : At 77 92 [a0, a1, a2, a3, a4, a5, some (.int x)] st I J Q ↔ At 77 94 [a0, a1, a2, a3, a4, a5, some (.int x)] (.int x :: st) I J Q := A_iload (q := 6) (ab_io ci77 (by decide +kernel)) rfl
theorem k77_94 : At 77 94 [some (.ref r), a1, a2, a3, a4, a5, a6] st I J Q ↔ At 77 95 [some (.ref r), a1, a2, a3, a4, a5, a6] (.ref r :: st) I J Q := A_aload_n (q := 0) (ab_io ci77 (by decide +kernel)) rfl
theorem k77_95 : At 77 95 ls (.ref 0 :: st) I J Q ↔ At 77 98 ls (.ref 43 :: st) I J Q := A_getR (ab_io ci77 (by decide +kernel)) ow77 fq7_57_0
theorem k77_98 : At 77 98 [a0, some (.int x), a2, a3, a4, a5, a6] st I J Q ↔ At 77 99 [a0, some (.int x), a2, a3, a4, a5, a6] (.int x :: st) I J Q := A_iload_n (q := 1) (ab_io ci77 (by decide +kernel)) rfl
theorem k77_99 : At 77 99 ls st I J Q ↔ At 77 100 ls (.int (nI 3) :: st) I J Q := A_iconst (ab_io ci77 (by decide +kernel)) ic_3
theorem k77_100 : At 77 100 [a0, a1, a2, a3, some (.int x), a5, a6] st I J Q ↔ At 77 102 [a0, a1, a2, a3, some (.int x), a5, a6] (.int x :: st) I J Q := A_iload (q := 4) (ab_io ci77 (by decide +kernel)) rfl
theorem k77_102 : At 77 102 ls (.int x1 :: .int x :: st) I J Q ↔ At 77 103 ls (.int (x * x1) :: st) I J Q := A_imul (ab_io ci77 (by decide +kernel))
theorem k77_103 : At 77 103 ls st I J Q ↔ At 77 104 ls (.int (nI 2) :: st) I J Q := A_iconst (ab_io ci77 (by decide +kernel)) ic_2
theorem k77_104 : At 77 104 ls (.int x1 :: .int x :: st) I J Q ↔ At 77 105 ls (.int (x + x1) :: st) I J Q := A_iadd (ab_io ci77 (by decide +kernel))
theorem k77_105 : At 77 105 ls [.int p0, .int p1, .ref 43, .int q0, .int q1, .ref qr2] I J Q ↔ Cal 58 [.ref 43, .int p1, .int p0] I J (fun v I' J' => At 77 108 ls (v.toList ++ [.int q0, .int q1, .ref qr2]) I' J' Q) := A_cal (kd := 0) (j := 110) (na := 3) (ea := 3) (rk := 43) (by decide +kernel) rfl rfl rfl (Or.inr rfl) (Nat.le_of_ble_eq_true rfl)
theorem k77_108 : At 77 108 [a0, a1, some (.int x), a3, a4, a5, a6] st I J Q ↔ At 77 109 [a0, a1, some (.int x), a3, a4, a5, a6] (.int x :: st) I J Q := A_iload_n (q := 2) (ab_io ci77 (by decide +kernel)) rfl
theorem k77_109 : At 77 109 ls [.int p0, .int p1, .int p2, .int p3, .ref 0] I J Q ↔ Cal 76 [.ref 0, .int p3, .int p2, .int p1, .int p0] I J (fun v I' J' => At 77 112 ls (v.toList ++ []) I' J' Q) := A_cal (kd := 0) (j := 114) (na := 5) (ea := 5) (rk := 0) (by decide +kernel) rfl rfl rfl (Or.inr rfl) (Nat.le_of_ble_eq_true rfl)
theorem k77_112 : At 77 112 ls (.int x :: st) I J Q ↔ if 0 ≤ x then At 77 118 ls st I J Q else At 77 115 ls st I J Q := A_ifCond_ge (o := 6) (ab_io ci77 (by decide +kernel)) (by decide)
theorem k77_115 : At 77 115 [a0, a1, a2, a3, some (.int x), a5, a6] st I J Q ↔ At 77 117 [a0, a1, a2, a3, some (.int x), a5, a6] (.int x :: st) I J Q := A_iload (q := 4) (ab_io ci77 (by decide +kernel)) rfl
theorem k77_117 : At 77 117 ls [.int x] I J Q ↔ Q (some (.int x)) I J := A_iret (ab_io ci77 (by decide +kernel)) rt77
theorem k77_118 : At 77 118 [a0, a1, a2, a3, some (.int x), a5, a6] st I J Q ↔ At 77 121 [a0, a1, a2, ab_nv a3, some (.int (x + (nI 1))), a5, a6] st I J Q := A_iinc (q := 4) (ab_io ci77 (by decide +kernel)) ic_1 (Nat.le_of_ble_eq_true rfl) rfl rfl
theorem k77_121 : At 77 121 ls st I J Q ↔ At 77 53 ls st I J Q := A_goto (o := (-68)) (ab_io ci77 (by decide +kernel)) (by decide)
theorem k77_124 : At 77 124 [a0, a1, a2, some (.int x), a4, a5, a6] st I J Q ↔ At 77 125 [a0, a1, a2, some (.int x), a4, a5, a6] (.int x :: st) I J Q := A_iload_n (q := 3) (ab_io ci77 (by decide +kernel)) rfl
theorem k77_125 : At 77 125 ls [.int x] I J Q ↔ Q (some (.int x)) I J := A_iret (ab_io ci77 (by decide +kernel)) rt77
theorem k78_0 : At 78 0 [a0, some (.int x), a2] st I J Q ↔ At 78 1 [a0, some (.int x), a2] (.int x :: st) I J Q := A_iload_n (q := 1) (ab_io ci78 (by decide +kernel)) rfl
theorem k78_1 : At 78 1 ls (.int x :: st) I J Q ↔ if x < 0 then At 78 11 ls st I J Q else At 78 4 ls st I J Q := A_ifCond_lt (o := 10) (ab_io ci78 (by decide +kernel)) (by decide)
theorem k78_4 : At 78 4 [a0, some (.int x), a2] st I J Q ↔ At 78 5 [a0, some (.int x), a2] (.int x :: st) I J Q := A_iload_n (q := 1) (ab_io ci78 (by decide +kernel)) rfl
theorem k78_5 : At 78 5 ls st I J Q ↔ At 78 8 ls (.int (nI 999) :: st) I J Q := A_sipush (ab_io ci78 (by decide +kernel)) sc_999
theorem k78_8 : At 78 8 ls (.int x1 :: .int x :: st) I J Q ↔ if x ≤ x1 then At 78 14 ls st I J Q else At 78 11 ls st I J Q := A_if_icmp_le (o := 6) (ab_io ci78 (by decide +kernel)) (by decide)
theorem k78_11 : At 78 11 ls st I J Q ↔ At 78 13 ls (.int (-2) :: st) I J Q := A_bipush (ab_io ci78 (by decide +kernel)) bc_m2
theorem k78_13 : At 78 13 ls [.int x] I J Q ↔ Q (some (.int x)) I J := A_iret (ab_io ci78 (by decide +kernel)) rt78
theorem k78_14 : At 78 14 [some (.ref r), a1, a2] st I J Q ↔ At 78 15 [some (.ref r), a1, a2] (.ref r :: st) I J Q := A_aload_n (q := 0) (ab_io ci78 (by decide +kernel)) rfl
theorem k78_15 : At 78 15 ls (.ref 0 :: st) I J Q ↔ At 78 18 ls (.ref 1 :: st) I J Q := A_getR (ab_io ci78 (by decide +kernel)) ow78 fq7_10_0
theorem k78_18 : At 78 18 ls (.ref 1 :: st) I J Q ↔ At 78 21 ls (.int (I 1 5) :: st) I J Q := A_getI (ab_io ci78 (by decide +kernel)) ow78 fq7_118_1
theorem k78_21 : At 78 21 [a0, a1, a2] (.int x :: st) I J Q ↔ At 78 22 [a0, ab_nv a1, some (.int x)] st I J Q := A_istore_n (q := 2) (ab_io ci78 (by decide +kernel)) (Nat.le_of_ble_eq_true rfl) rfl
theorem k78_22 : At 78 22 [some (.ref r), a1, a2] st I J Q ↔ At 78 23 [some (.ref r), a1, a2] (.ref r :: st) I J Q := A_aload_n (q := 0) (ab_io ci78 (by decide +kernel)) rfl
theorem k78_23 : At 78 23 ls (.ref 0 :: st) I J Q ↔ At 78 26 ls (.ref 1 :: st) I J Q := A_getR (ab_io ci78 (by decide +kernel)) ow78 fq7_10_0
theorem k78_26 : At 78 26 [a0, some (.int x), a2] st I J Q ↔ At 78 27 [a0, some (.int x), a2] (.int x :: st) I J Q := A_iload_n (q := 1) (ab_io ci78 (by decide +kernel)) rfl
theorem k78_27 : At 78 27 ls (.int x :: .ref 1 :: st) I J Q ↔ At 78 30 ls st (va_up I 1 (va_up (I 1) 5 x)) J Q := A_putI (ab_io ci78 (by decide +kernel)) ow78 fq7_118_1
theorem k78_30 : At 78 30 [some (.ref r), a1, a2] st I J Q ↔ At 78 31 [some (.ref r), a1, a2] (.ref r :: st) I J Q := A_aload_n (q := 0) (ab_io ci78 (by decide +kernel)) rfl
theorem k78_31 : At 78 31 ls st I J Q ↔ At 78 32 ls (.int (nI 1) :: st) I J Q := A_iconst (ab_io ci78 (by decide +kernel)) ic_1
theorem k78_32v0 : At 78 32 ls (.int (nI 0) :: .ref 0 :: st) I J Q ↔ At 78 35 ls st (va_up I 0 (va_up (I 0) 10 (nI 0))) J Q := A_putZ (ab_io ci78 (by decide +kernel)) ow78 ⟨fq7_68_0.1, fq7_68_0.2, Or.inl rfl⟩
theorem k78_32v1 : At 78 32 ls (.int (nI 1) :: .ref 0 :: st) I J Q ↔ At 78 35 ls st (va_up I 0 (va_up (I 0) 10 (nI 1))) J Q := A_putZ (ab_io ci78 (by decide +kernel)) ow78 ⟨fq7_68_0.1, fq7_68_0.2, Or.inr rfl⟩
theorem k78_35 : At 78 35 [a0, a1, some (.int x)] st I J Q ↔ At 78 36 [a0, a1, some (.int x)] (.int x :: st) I J Q := A_iload_n (q := 2) (ab_io ci78 (by decide +kernel)) rfl
theorem k78_36 : At 78 36 ls [.int x] I J Q ↔ Q (some (.int x)) I J := A_iret (ab_io ci78 (by decide +kernel)) rt78
theorem k79_0 : At 79 0 [a0, some (.int x), a2] st I J Q ↔ At 79 1 [a0, some (.int x), a2] (.int x :: st) I J Q := A_iload_n (q := 1) (ab_io ci79 (by decide +kernel)) rfl
theorem k79_1 : At 79 1 ls [.int p0] I J Q ↔ Cal 116 [.int p0] I J (fun v I' J' => At 79 4 ls (v.toList ++ []) I' J' Q) := A_cal (kd := 1) (j := 76) (na := 1) (ea := 1) (rk := 0) (by decide +kernel) rfl rfl rfl (Or.inl rfl) (Nat.le_of_ble_eq_true rfl)
theorem k79_4 : At 79 4 ls (.int x :: st) I J Q ↔ if x = 0 then At 79 14 ls st I J Q else At 79 7 ls st I J Q := A_ifCond_eq (o := 10) (ab_io ci79 (by decide +kernel)) (by decide)
theorem k79_7 : At 79 7 [a0, a1, some (.int x)] st I J Q ↔ At 79 8 [a0, a1, some (.int x)] (.int x :: st) I J Q := A_iload_n (q := 2) (ab_io ci79 (by decide +kernel)) rfl
theorem k79_8 : At 79 8 ls [.int p0] I J Q ↔ Cal 117 [.int p0] I J (fun v I' J' => At 79 11 ls (v.toList ++ []) I' J' Q) := A_cal (kd := 1) (j := 80) (na := 1) (ea := 1) (rk := 0) (by decide +kernel) rfl rfl rfl (Or.inl rfl) (Nat.le_of_ble_eq_true rfl)
theorem k79_11 : At 79 11 ls (.int x :: st) I J Q ↔ if ¬ x = 0 then At 79 17 ls st I J Q else At 79 14 ls st I J Q := A_ifCond_ne (o := 6) (ab_io ci79 (by decide +kernel)) (by decide)
theorem k79_14 : At 79 14 ls st I J Q ↔ At 79 16 ls (.int (-2) :: st) I J Q := A_bipush (ab_io ci79 (by decide +kernel)) bc_m2
theorem k79_16 : At 79 16 ls [.int x] I J Q ↔ Q (some (.int x)) I J := A_iret (ab_io ci79 (by decide +kernel)) rt79
theorem k79_17 : At 79 17 [some (.ref r), a1, a2] st I J Q ↔ At 79 18 [some (.ref r), a1, a2] (.ref r :: st) I J Q := A_aload_n (q := 0) (ab_io ci79 (by decide +kernel)) rfl
theorem k79_18 : At 79 18 ls [.ref 0] I J Q ↔ Cal 110 [.ref 0] I J (fun v I' J' => At 79 21 ls (v.toList ++ []) I' J' Q) := A_cal (kd := 0) (j := 121) (na := 1) (ea := 1) (rk := 0) (by decide +kernel) rfl rfl rfl (Or.inr rfl) (Nat.le_of_ble_eq_true rfl)
theorem k79_21 : At 79 21 [some (.ref r), a1, a2] st I J Q ↔ At 79 22 [some (.ref r), a1, a2] (.ref r :: st) I J Q := A_aload_n (q := 0) (ab_io ci79 (by decide +kernel)) rfl
theorem k79_22 : At 79 22 ls (.ref 0 :: st) I J Q ↔ At 79 25 ls (.ref 5 :: st) I J Q := A_getR (ab_io ci79 (by decide +kernel)) ow79 fq7_19_0
theorem k79_25_5 : At 79 25 ls (.ref 5 :: st) I J Q ↔ At 79 28 ls (.ref 6 :: st) I J Q := A_getR (ab_io ci79 (by decide +kernel)) ow79 fq7_124_5
theorem k79_25_17 : At 79 25 ls (.ref 17 :: st) I J Q ↔ At 79 28 ls (.ref 18 :: st) I J Q := A_getR (ab_io ci79 (by decide +kernel)) ow79 fq7_124_17
theorem k79_28 : At 79 28 ls st I J Q ↔ At 79 29 ls (.int (nI 4) :: st) I J Q := A_iconst (ab_io ci79 (by decide +kernel)) ic_4
theorem k79_29 : At 79 29 [a0, some (.int x), a2] st I J Q ↔ At 79 30 [a0, some (.int x), a2] (.int x :: st) I J Q := A_iload_n (q := 1) (ab_io ci79 (by decide +kernel)) rfl
theorem k79_30 : At 79 30 ls (.int x1 :: .int x :: st) I J Q ↔ At 79 31 ls (.int (x * x1) :: st) I J Q := A_imul (ab_io ci79 (by decide +kernel))
theorem k79_31 : At 79 31 [a0, a1, some (.int x)] st I J Q ↔ At 79 32 [a0, a1, some (.int x)] (.int x :: st) I J Q := A_iload_n (q := 2) (ab_io ci79 (by decide +kernel)) rfl
theorem k79_32 : At 79 32 ls (.int x1 :: .int x :: st) I J Q ↔ At 79 33 ls (.int (x + x1) :: st) I J Q := A_iadd (ab_io ci79 (by decide +kernel))
theorem k79_33 : At 79 33 ls (.int x :: .ref r :: st) I J Q ↔ ((ab_ly r).1 = 1 ∧ r < 75 ∧ 0 ≤ x.toInt ∧ x.toInt < (ab_ly r).2) ∧ At 79 34 ls (.int (I r x.toNatClampNeg) :: st) I J Q := A_iaload (ab_io ci79 (by decide +kernel))
theorem k79_34 : At 79 34 ls [.int x] I J Q ↔ Q (some (.int x)) I J := A_iret (ab_io ci79 (by decide +kernel)) rt79
theorem k80_0 : At 80 0 [a0, some (.int x), a2, a3] st I J Q ↔ At 80 1 [a0, some (.int x), a2, a3] (.int x :: st) I J Q := A_iload_n (q := 1) (ab_io ci80 (by decide +kernel)) rfl
theorem k80_1 : At 80 1 ls (.int x :: st) I J Q ↔ if ¬ x = 0 then At 80 11 ls st I J Q else At 80 4 ls st I J Q := A_ifCond_ne (o := 10) (ab_io ci80 (by decide +kernel)) (by decide)
theorem k80_4 : At 80 4 [a0, a1, some (.int x), a3] st I J Q ↔ At 80 5 [a0, a1, some (.int x), a3] (.int x :: st) I J Q := A_iload_n (q := 2) (ab_io ci80 (by decide +kernel)) rfl
theorem k80_5 : At 80 5 ls [.int p0] I J Q ↔ Cal 116 [.int p0] I J (fun v I' J' => At 80 8 ls (v.toList ++ []) I' J' Q) := A_cal (kd := 1) (j := 76) (na := 1) (ea := 1) (rk := 0) (by decide +kernel) rfl rfl rfl (Or.inl rfl) (Nat.le_of_ble_eq_true rfl)
theorem k80_8 : At 80 8 ls (.int x :: st) I J Q ↔ if ¬ x = 0 then At 80 23 ls st I J Q else At 80 11 ls st I J Q := A_ifCond_ne (o := 15) (ab_io ci80 (by decide +kernel)) (by decide)
theorem k80_11 : At 80 11 [a0, some (.int x), a2, a3] st I J Q ↔ At 80 12 [a0, some (.int x), a2, a3] (.int x :: st) I J Q := A_iload_n (q := 1) (ab_io ci80 (by decide +kernel)) rfl
theorem k80_12 : At 80 12 ls st I J Q ↔ At 80 13 ls (.int (nI 1) :: st) I J Q := A_iconst (ab_io ci80 (by decide +kernel)) ic_1
theorem k80_13 : At 80 13 ls (.int x1 :: .int x :: st) I J Q ↔ if ¬ x = x1 then At 80 27 ls st I J Q else At 80 16 ls st I J Q := A_if_icmp_ne (o := 14) (ab_io ci80 (by decide +kernel)) (by decide)
theorem k80_16 : At 80 16 [a0, a1, some (.int x), a3] st I J Q ↔ At 80 17 [a0, a1, some (.int x), a3] (.int x :: st) I J Q := A_iload_n (q := 2) (ab_io ci80 (by decide +kernel)) rfl
theorem k80_17 : At 80 17 ls [.int p0] I J Q ↔ Cal 117 [.int p0] I J (fun v I' J' => At 80 20 ls (v.toList ++ []) I' J' Q) := A_cal (kd := 1) (j := 80) (na := 1) (ea := 1) (rk := 0) (by decide +kernel) rfl rfl rfl (Or.inl rfl) (Nat.le_of_ble_eq_true rfl)
theorem k80_20 : At 80 20 ls (.int x :: st) I J Q ↔ if x = 0 then At 80 27 ls st I J Q else At 80 23 ls st I J Q := A_ifCond_eq (o := 7) (ab_io ci80 (by decide +kernel)) (by decide)
theorem k80_23 : At 80 23 ls st I J Q ↔ At 80 24 ls (.int (nI 1) :: st) I J Q := A_iconst (ab_io ci80 (by decide +kernel)) ic_1
theorem k80_24 : At 80 24 ls st I J Q ↔ At 80 28 ls st I J Q := A_goto (o := 4) (ab_io ci80 (by decide +kernel)) (by decide)
theorem k80_27 : At 80 27 ls st I J Q ↔ At 80 28 ls (.int (nI 0) :: st) I J Q := A_iconst (ab_io ci80 (by decide +kernel)) ic_0
theorem k80_28 : At 80 28 [a0, a1, a2, a3] (.int x :: st) I J Q ↔ At 80 29 [a0, a1, ab_nv a2, some (.int x)] st I J Q := A_istore_n (q := 3) (ab_io ci80 (by decide +kernel)) (Nat.le_of_ble_eq_true rfl) rfl
theorem k80_29 : At 80 29 [a0, a1, a2, some (.int x)] st I J Q ↔ At 80 30 [a0, a1, a2, some (.int x)] (.int x :: st) I J Q := A_iload_n (q := 3) (ab_io ci80 (by decide +kernel)) rfl
theorem k80_30 : At 80 30 ls (.int x :: st) I J Q ↔ if ¬ x = 0 then At 80 36 ls st I J Q else At 80 33 ls st I J Q := A_ifCond_ne (o := 6) (ab_io ci80 (by decide +kernel)) (by decide)
theorem k80_33 : At 80 33 ls st I J Q ↔ At 80 35 ls (.int (-2) :: st) I J Q := A_bipush (ab_io ci80 (by decide +kernel)) bc_m2
theorem k80_35 : At 80 35 ls [.int x] I J Q ↔ Q (some (.int x)) I J := A_iret (ab_io ci80 (by decide +kernel)) rt80
theorem k80_36 : At 80 36 [some (.ref r), a1, a2, a3] st I J Q ↔ At 80 37 [some (.ref r), a1, a2, a3] (.ref r :: st) I J Q := A_aload_n (q := 0) (ab_io ci80 (by decide +kernel)) rfl
theorem k80_37 : At 80 37 ls [.ref 0] I J Q ↔ Cal 110 [.ref 0] I J (fun v I' J' => At 80 40 ls (v.toList ++ []) I' J' Q) := A_cal (kd := 0) (j := 121) (na := 1) (ea := 1) (rk := 0) (by decide +kernel) rfl rfl rfl (Or.inr rfl) (Nat.le_of_ble_eq_true rfl)
theorem k80_40 : At 80 40 [a0, some (.int x), a2, a3] st I J Q ↔ At 80 41 [a0, some (.int x), a2, a3] (.int x :: st) I J Q := A_iload_n (q := 1) (ab_io ci80 (by decide +kernel)) rfl
theorem k80_41 : At 80 41 ls (.int x :: st) I J Q ↔ if ¬ x = 0 then At 80 56 ls st I J Q else At 80 44 ls st I J Q := A_ifCond_ne (o := 15) (ab_io ci80 (by decide +kernel)) (by decide)
theorem k80_44 : At 80 44 [some (.ref r), a1, a2, a3] st I J Q ↔ At 80 45 [some (.ref r), a1, a2, a3] (.ref r :: st) I J Q := A_aload_n (q := 0) (ab_io ci80 (by decide +kernel)) rfl
theorem k80_45 : At 80 45 ls (.ref 0 :: st) I J Q ↔ At 80 48 ls (.ref 5 :: st) I J Q := A_getR (ab_io ci80 (by decide +kernel)) ow80 fq7_19_0
theorem k80_48_5 : At 80 48 ls (.ref 5 :: st) I J Q ↔ At 80 51 ls (.ref 11 :: st) I J Q := A_getR (ab_io ci80 (by decide +kernel)) ow80 fq7_127_5
theorem k80_48_17 : At 80 48 ls (.ref 17 :: st) I J Q ↔ At 80 51 ls (.ref 23 :: st) I J Q := A_getR (ab_io ci80 (by decide +kernel)) ow80 fq7_127_17
theorem k80_51 : At 80 51 [a0, a1, some (.int x), a3] st I J Q ↔ At 80 52 [a0, a1, some (.int x), a3] (.int x :: st) I J Q := A_iload_n (q := 2) (ab_io ci80 (by decide +kernel)) rfl
theorem k80_52 : At 80 52 ls (.int x :: .ref r :: st) I J Q ↔ ((ab_ly r).1 = 1 ∧ r < 75 ∧ 0 ≤ x.toInt ∧ x.toInt < (ab_ly r).2) ∧ At 80 53 ls (.int (I r x.toNatClampNeg) :: st) I J Q := A_iaload (ab_io ci80 (by decide +kernel))
theorem k80_53 : At 80 53 ls st I J Q ↔ At 80 65 ls st I J Q := A_goto (o := 12) (ab_io ci80 (by decide +kernel)) (by decide)
theorem k80_56 : At 80 56 [some (.ref r), a1, a2, a3] st I J Q ↔ At 80 57 [some (.ref r), a1, a2, a3] (.ref r :: st) I J Q := A_aload_n (q := 0) (ab_io ci80 (by decide +kernel)) rfl
theorem k80_57 : At 80 57 ls (.ref 0 :: st) I J Q ↔ At 80 60 ls (.ref 5 :: st) I J Q := A_getR (ab_io ci80 (by decide +kernel)) ow80 fq7_19_0
theorem k80_60_5 : At 80 60 ls (.ref 5 :: st) I J Q ↔ At 80 63 ls (.ref 10 :: st) I J Q := A_getR (ab_io ci80 (by decide +kernel)) ow80 fq7_130_5
theorem k80_60_17 : At 80 60 ls (.ref 17 :: st) I J Q ↔ At 80 63 ls (.ref 22 :: st) I J Q := A_getR (ab_io ci80 (by decide +kernel)) ow80 fq7_130_17
theorem k80_63 : At 80 63 [a0, a1, some (.int x), a3] st I J Q ↔ At 80 64 [a0, a1, some (.int x), a3] (.int x :: st) I J Q := A_iload_n (q := 2) (ab_io ci80 (by decide +kernel)) rfl
theorem k80_64 : At 80 64 ls (.int x :: .ref r :: st) I J Q ↔ ((ab_ly r).1 = 1 ∧ r < 75 ∧ 0 ≤ x.toInt ∧ x.toInt < (ab_ly r).2) ∧ At 80 65 ls (.int (I r x.toNatClampNeg) :: st) I J Q := A_iaload (ab_io ci80 (by decide +kernel))
theorem k80_65 : At 80 65 ls [.int x] I J Q ↔ Q (some (.int x)) I J := A_iret (ab_io ci80 (by decide +kernel)) rt80
theorem k81_0 : At 81 0 [a0, some (.int x), a2] st I J Q ↔ At 81 1 [a0, some (.int x), a2] (.int x :: st) I J Q := A_iload_n (q := 1) (ab_io ci81 (by decide +kernel)) rfl
theorem k81_1 : At 81 1 ls [.int p0] I J Q ↔ Cal 117 [.int p0] I J (fun v I' J' => At 81 4 ls (v.toList ++ []) I' J' Q) := A_cal (kd := 1) (j := 80) (na := 1) (ea := 1) (rk := 0) (by decide +kernel) rfl rfl rfl (Or.inl rfl) (Nat.le_of_ble_eq_true rfl)
theorem k81_4 : At 81 4 ls (.int x :: st) I J Q ↔ if x = 0 then At 81 14 ls st I J Q else At 81 7 ls st I J Q := A_ifCond_eq (o := 10) (ab_io ci81 (by decide +kernel)) (by decide)
theorem k81_7 : At 81 7 [a0, a1, some (.int x)] st I J Q ↔ At 81 8 [a0, a1, some (.int x)] (.int x :: st) I J Q := A_iload_n (q := 2) (ab_io ci81 (by decide +kernel)) rfl
theorem k81_8 : At 81 8 ls [.int p0] I J Q ↔ Cal 120 [.int p0] I J (fun v I' J' => At 81 11 ls (v.toList ++ []) I' J' Q) := A_cal (kd := 1) (j := 133) (na := 1) (ea := 1) (rk := 0) (by decide +kernel) rfl rfl rfl (Or.inl rfl) (Nat.le_of_ble_eq_true rfl)
theorem k81_11 : At 81 11 ls (.int x :: st) I J Q ↔ if ¬ x = 0 then At 81 20 ls st I J Q else At 81 14 ls st I J Q := A_ifCond_ne (o := 9) (ab_io ci81 (by decide +kernel)) (by decide)
theorem k81_14 : At 81 14 ls st I J Q ↔ At 81 16 ls (.int (-2) :: st) I J Q := A_bipush (ab_io ci81 (by decide +kernel)) bc_m2
theorem k81_16 : At 81 16 ls [.int p0] I J Q ↔ Cal 121 [.int p0] I J (fun v I' J' => At 81 19 ls (v.toList ++ []) I' J' Q) := A_cal (kd := 1) (j := 136) (na := 1) (ea := 1) (rk := 0) (by decide +kernel) rfl rfl rfl (Or.inl rfl) (Nat.le_of_ble_eq_true rfl)
theorem k81_19 : At 81 19 ls [.long u] I J Q ↔ Q (some (.long u)) I J := A_lret (ab_io ci81 (by decide +kernel)) rt81
theorem k81_20 : At 81 20 [some (.ref r), a1, a2] st I J Q ↔ At 81 21 [some (.ref r), a1, a2] (.ref r :: st) I J Q := A_aload_n (q := 0) (ab_io ci81 (by decide +kernel)) rfl
theorem k81_21 : At 81 21 ls [.ref 0] I J Q ↔ Cal 110 [.ref 0] I J (fun v I' J' => At 81 24 ls (v.toList ++ []) I' J' Q) := A_cal (kd := 0) (j := 121) (na := 1) (ea := 1) (rk := 0) (by decide +kernel) rfl rfl rfl (Or.inr rfl) (Nat.le_of_ble_eq_true rfl)
theorem k81_24 : At 81 24 [some (.ref r), a1, a2] st I J Q ↔ At 81 25 [some (.ref r), a1, a2] (.ref r :: st) I J Q := A_aload_n (q := 0) (ab_io ci81 (by decide +kernel)) rfl
theorem k81_25 : At 81 25 ls (.ref 0 :: st) I J Q ↔ At 81 28 ls (.ref 5 :: st) I J Q := A_getR (ab_io ci81 (by decide +kernel)) ow81 fq7_19_0
theorem k81_28_5 : At 81 28 ls (.ref 5 :: st) I J Q ↔ At 81 31 ls (.ref 10 :: st) I J Q := A_getR (ab_io ci81 (by decide +kernel)) ow81 fq7_130_5
theorem k81_28_17 : At 81 28 ls (.ref 17 :: st) I J Q ↔ At 81 31 ls (.ref 22 :: st) I J Q := A_getR (ab_io ci81 (by decide +kernel)) ow81 fq7_130_17
theorem k81_31 : At 81 31 [a0, some (.int x), a2] st I J Q ↔ At 81 32 [a0, some (.int x), a2] (.int x :: st) I J Q := A_iload_n (q := 1) (ab_io ci81 (by decide +kernel)) rfl
theorem k81_32 : At 81 32 ls (.int x :: .ref r :: st) I J Q ↔ ((ab_ly r).1 = 1 ∧ r < 75 ∧ 0 ≤ x.toInt ∧ x.toInt < (ab_ly r).2) ∧ At 81 33 ls (.int (I r x.toNatClampNeg) :: st) I J Q := A_iaload (ab_io ci81 (by decide +kernel))
theorem k81_33 : At 81 33 ls st I J Q ↔ At 81 34 ls (.int (-1) :: st) I J Q := A_iconst (ab_io ci81 (by decide +kernel)) ic_m1
theorem k81_34 : At 81 34 ls (.int x1 :: .int x :: st) I J Q ↔ if ¬ x = x1 then At 81 43 ls st I J Q else At 81 37 ls st I J Q := A_if_icmp_ne (o := 9) (ab_io ci81 (by decide +kernel)) (by decide)
theorem k81_37 : At 81 37 ls st I J Q ↔ At 81 39 ls (.int (-3) :: st) I J Q := A_bipush (ab_io ci81 (by decide +kernel)) bc_m3
theorem k81_39 : At 81 39 ls [.int p0] I J Q ↔ Cal 121 [.int p0] I J (fun v I' J' => At 81 42 ls (v.toList ++ []) I' J' Q) := A_cal (kd := 1) (j := 136) (na := 1) (ea := 1) (rk := 0) (by decide +kernel) rfl rfl rfl (Or.inl rfl) (Nat.le_of_ble_eq_true rfl)
theorem k81_42 : At 81 42 ls [.long u] I J Q ↔ Q (some (.long u)) I J := A_lret (ab_io ci81 (by decide +kernel)) rt81
theorem k81_43 : At 81 43 [some (.ref r), a1, a2] st I J Q ↔ At 81 44 [some (.ref r), a1, a2] (.ref r :: st) I J Q := A_aload_n (q := 0) (ab_io ci81 (by decide +kernel)) rfl
theorem k81_44 : At 81 44 ls (.ref 0 :: st) I J Q ↔ At 81 47 ls (.ref 5 :: st) I J Q := A_getR (ab_io ci81 (by decide +kernel)) ow81 fq7_19_0
theorem k81_47_5 : At 81 47 ls (.ref 5 :: st) I J Q ↔ At 81 50 ls (.ref 15 :: st) I J Q := A_getR (ab_io ci81 (by decide +kernel)) ow81 fq7_140_5
theorem k81_47_17 : At 81 47 ls (.ref 17 :: st) I J Q ↔ At 81 50 ls (.ref 27 :: st) I J Q := A_getR (ab_io ci81 (by decide +kernel)) ow81 fq7_140_17
theorem k81_50 : At 81 50 [a0, some (.int x), a2] st I J Q ↔ At 81 51 [a0, some (.int x), a2] (.int x :: st) I J Q := A_iload_n (q := 1) (ab_io ci81 (by decide +kernel)) rfl
theorem k81_51 : At 81 51 ls (.int x :: .ref r :: st) I J Q ↔ ((ab_ly r).1 = 2 ∧ r < 75 ∧ 0 ≤ x.toInt ∧ x.toInt < (ab_ly r).2) ∧ At 81 52 ls (.long (J r x.toNatClampNeg) :: st) I J Q := A_laload (ab_io ci81 (by decide +kernel))
theorem k81_52 : At 81 52 [some (.ref r), a1, a2] st I J Q ↔ At 81 53 [some (.ref r), a1, a2] (.ref r :: st) I J Q := A_aload_n (q := 0) (ab_io ci81 (by decide +kernel)) rfl
theorem k81_53 : At 81 53 ls (.ref 0 :: st) I J Q ↔ At 81 56 ls (.ref 5 :: st) I J Q := A_getR (ab_io ci81 (by decide +kernel)) ow81 fq7_19_0
theorem k81_56_5 : At 81 56 ls (.ref 5 :: st) I J Q ↔ At 81 59 ls (.long (J 5 11) :: st) I J Q := A_getJ (ab_io ci81 (by decide +kernel)) ow81 fq7_144_5
theorem k81_56_17 : At 81 56 ls (.ref 17 :: st) I J Q ↔ At 81 59 ls (.long (J 17 11) :: st) I J Q := A_getJ (ab_io ci81 (by decide +kernel)) ow81 fq7_144_17
theorem k81_59 : At 81 59 [a0, a1, some (.int x)] st I J Q ↔ At 81 60 [a0, a1, some (.int x)] (.int x :: st) I J Q := A_iload_n (q := 2) (ab_io ci81 (by decide +kernel)) rfl
theorem k81_60 : At 81 60 ls [.int p0, .long pu1, .long pu2] I J Q ↔ Cal 122 [.long pu2, .long pu1, .int p0] I J (fun v I' J' => At 81 63 ls (v.toList ++ []) I' J' Q) := A_cal (kd := 1) (j := 148) (na := 3) (ea := 5) (rk := 0) (by decide +kernel) rfl rfl rfl (Or.inl rfl) (Nat.le_of_ble_eq_true rfl)
theorem k81_63 : At 81 63 ls [.long u] I J Q ↔ Q (some (.long u)) I J := A_lret (ab_io ci81 (by decide +kernel)) rt81
theorem k82_0 : At 82 0 [a0, some (.int x), a2] st I J Q ↔ At 82 1 [a0, some (.int x), a2] (.int x :: st) I J Q := A_iload_n (q := 1) (ab_io ci82 (by decide +kernel)) rfl
theorem k82_1 : At 82 1 ls [.int p0] I J Q ↔ Cal 116 [.int p0] I J (fun v I' J' => At 82 4 ls (v.toList ++ []) I' J' Q) := A_cal (kd := 1) (j := 76) (na := 1) (ea := 1) (rk := 0) (by decide +kernel) rfl rfl rfl (Or.inl rfl) (Nat.le_of_ble_eq_true rfl)
theorem k82_4 : At 82 4 ls (.int x :: st) I J Q ↔ if x = 0 then At 82 14 ls st I J Q else At 82 7 ls st I J Q := A_ifCond_eq (o := 10) (ab_io ci82 (by decide +kernel)) (by decide)
theorem k82_7 : At 82 7 [a0, a1, some (.int x)] st I J Q ↔ At 82 8 [a0, a1, some (.int x)] (.int x :: st) I J Q := A_iload_n (q := 2) (ab_io ci82 (by decide +kernel)) rfl
theorem k82_8 : At 82 8 ls [.int p0] I J Q ↔ Cal 120 [.int p0] I J (fun v I' J' => At 82 11 ls (v.toList ++ []) I' J' Q) := A_cal (kd := 1) (j := 133) (na := 1) (ea := 1) (rk := 0) (by decide +kernel) rfl rfl rfl (Or.inl rfl) (Nat.le_of_ble_eq_true rfl)
theorem k82_11 : At 82 11 ls (.int x :: st) I J Q ↔ if ¬ x = 0 then At 82 20 ls st I J Q else At 82 14 ls st I J Q := A_ifCond_ne (o := 9) (ab_io ci82 (by decide +kernel)) (by decide)
theorem k82_14 : At 82 14 ls st I J Q ↔ At 82 16 ls (.int (-2) :: st) I J Q := A_bipush (ab_io ci82 (by decide +kernel)) bc_m2
theorem k82_16 : At 82 16 ls [.int p0] I J Q ↔ Cal 121 [.int p0] I J (fun v I' J' => At 82 19 ls (v.toList ++ []) I' J' Q) := A_cal (kd := 1) (j := 136) (na := 1) (ea := 1) (rk := 0) (by decide +kernel) rfl rfl rfl (Or.inl rfl) (Nat.le_of_ble_eq_true rfl)
theorem k82_19 : At 82 19 ls [.long u] I J Q ↔ Q (some (.long u)) I J := A_lret (ab_io ci82 (by decide +kernel)) rt82
theorem k82_20 : At 82 20 [some (.ref r), a1, a2] st I J Q ↔ At 82 21 [some (.ref r), a1, a2] (.ref r :: st) I J Q := A_aload_n (q := 0) (ab_io ci82 (by decide +kernel)) rfl
theorem k82_21 : At 82 21 ls [.ref 0] I J Q ↔ Cal 110 [.ref 0] I J (fun v I' J' => At 82 24 ls (v.toList ++ []) I' J' Q) := A_cal (kd := 0) (j := 121) (na := 1) (ea := 1) (rk := 0) (by decide +kernel) rfl rfl rfl (Or.inr rfl) (Nat.le_of_ble_eq_true rfl)
theorem k82_24 : At 82 24 [some (.ref r), a1, a2] st I J Q ↔ At 82 25 [some (.ref r), a1, a2] (.ref r :: st) I J Q := A_aload_n (q := 0) (ab_io ci82 (by decide +kernel)) rfl
theorem k82_25 : At 82 25 ls (.ref 0 :: st) I J Q ↔ At 82 28 ls (.ref 5 :: st) I J Q := A_getR (ab_io ci82 (by decide +kernel)) ow82 fq7_19_0
theorem k82_28_5 : At 82 28 ls (.ref 5 :: st) I J Q ↔ At 82 31 ls (.ref 7 :: st) I J Q := A_getR (ab_io ci82 (by decide +kernel)) ow82 fq7_152_5
theorem k82_28_17 : At 82 28 ls (.ref 17 :: st) I J Q ↔ At 82 31 ls (.ref 19 :: st) I J Q := A_getR (ab_io ci82 (by decide +kernel)) ow82 fq7_152_17
theorem k82_31 : At 82 31 [a0, some (.int x), a2] st I J Q ↔ At 82 32 [a0, some (.int x), a2] (.int x :: st) I J Q := A_iload_n (q := 1) (ab_io ci82 (by decide +kernel)) rfl
theorem k82_32 : At 82 32 ls (.int x :: .ref r :: st) I J Q ↔ ((ab_ly r).1 = 1 ∧ r < 75 ∧ 0 ≤ x.toInt ∧ x.toInt < (ab_ly r).2) ∧ At 82 33 ls (.int (I r x.toNatClampNeg) :: st) I J Q := A_iaload (ab_io ci82 (by decide +kernel))
theorem k82_33 : At 82 33 ls (.int x :: st) I J Q ↔ if ¬ x = 0 then At 82 42 ls st I J Q else At 82 36 ls st I J Q := A_ifCond_ne (o := 9) (ab_io ci82 (by decide +kernel)) (by decide)
theorem k82_36 : At 82 36 ls st I J Q ↔ At 82 38 ls (.int (-3) :: st) I J Q := A_bipush (ab_io ci82 (by decide +kernel)) bc_m3
theorem k82_38 : At 82 38 ls [.int p0] I J Q ↔ Cal 121 [.int p0] I J (fun v I' J' => At 82 41 ls (v.toList ++ []) I' J' Q) := A_cal (kd := 1) (j := 136) (na := 1) (ea := 1) (rk := 0) (by decide +kernel) rfl rfl rfl (Or.inl rfl) (Nat.le_of_ble_eq_true rfl)
theorem k82_41 : At 82 41 ls [.long u] I J Q ↔ Q (some (.long u)) I J := A_lret (ab_io ci82 (by decide +kernel)) rt82
theorem k82_42 : At 82 42 [some (.ref r), a1, a2] st I J Q ↔ At 82 43 [some (.ref r), a1, a2] (.ref r :: st) I J Q := A_aload_n (q := 0) (ab_io ci82 (by decide +kernel)) rfl
theorem k82_43 : At 82 43 ls (.ref 0 :: st) I J Q ↔ At 82 46 ls (.ref 5 :: st) I J Q := A_getR (ab_io ci82 (by decide +kernel)) ow82 fq7_19_0
theorem k82_46_5 : At 82 46 ls (.ref 5 :: st) I J Q ↔ At 82 49 ls (.ref 16 :: st) I J Q := A_getR (ab_io ci82 (by decide +kernel)) ow82 fq7_155_5
theorem k82_46_17 : At 82 46 ls (.ref 17 :: st) I J Q ↔ At 82 49 ls (.ref 28 :: st) I J Q := A_getR (ab_io ci82 (by decide +kernel)) ow82 fq7_155_17
theorem k82_49 : At 82 49 [a0, some (.int x), a2] st I J Q ↔ At 82 50 [a0, some (.int x), a2] (.int x :: st) I J Q := A_iload_n (q := 1) (ab_io ci82 (by decide +kernel)) rfl
theorem k82_50 : At 82 50 ls (.int x :: .ref r :: st) I J Q ↔ ((ab_ly r).1 = 2 ∧ r < 75 ∧ 0 ≤ x.toInt ∧ x.toInt < (ab_ly r).2) ∧ At 82 51 ls (.long (J r x.toNatClampNeg) :: st) I J Q := A_laload (ab_io ci82 (by decide +kernel))
theorem k82_51 : At 82 51 [some (.ref r), a1, a2] st I J Q ↔ At 82 52 [some (.ref r), a1, a2] (.ref r :: st) I J Q := A_aload_n (q := 0) (ab_io ci82 (by decide +kernel)) rfl
theorem k82_52 : At 82 52 ls (.ref 0 :: st) I J Q ↔ At 82 55 ls (.ref 5 :: st) I J Q := A_getR (ab_io ci82 (by decide +kernel)) ow82 fq7_19_0
theorem k82_55_5 : At 82 55 ls [.ref 5, .long qu0] I J Q ↔ Cal 15 [.ref 5] I J (fun v I' J' => At 82 58 ls (v.toList ++ [.long qu0]) I' J' Q) := A_cal (kd := 0) (j := 158) (na := 1) (ea := 1) (rk := 5) (by decide +kernel) rfl rfl rfl (Or.inr rfl) (Nat.le_of_ble_eq_true rfl)
theorem k82_55_17 : At 82 55 ls [.ref 17, .long qu0] I J Q ↔ Cal 15 [.ref 17] I J (fun v I' J' => At 82 58 ls (v.toList ++ [.long qu0]) I' J' Q) := A_cal (kd := 0) (j := 158) (na := 1) (ea := 1) (rk := 17) (by decide +kernel) rfl rfl rfl (Or.inr rfl) (Nat.le_of_ble_eq_true rfl)
theorem k82_58 : At 82 58 [a0, a1, some (.int x)] st I J Q ↔ At 82 59 [a0, a1, some (.int x)] (.int x :: st) I J Q := A_iload_n (q := 2) (ab_io ci82 (by decide +kernel)) rfl
theorem k82_59 : At 82 59 ls [.int p0, .long pu1, .long pu2] I J Q ↔ Cal 122 [.long pu2, .long pu1, .int p0] I J (fun v I' J' => At 82 62 ls (v.toList ++ []) I' J' Q) := A_cal (kd := 1) (j := 148) (na := 3) (ea := 5) (rk := 0) (by decide +kernel) rfl rfl rfl (Or.inl rfl) (Nat.le_of_ble_eq_true rfl)
theorem k82_62 : At 82 62 ls [.long u] I J Q ↔ Q (some (.long u)) I J := A_lret (ab_io ci82 (by decide +kernel)) rt82
theorem k83_0 : At 83 0 [a0, some (.int x), a2, a3, a4] st I J Q ↔ At 83 1 [a0, some (.int x), a2, a3, a4] (.int x :: st) I J Q := A_iload_n (q := 1) (ab_io ci83 (by decide +kernel)) rfl
theorem k83_1 : At 83 1 ls [.int p0] I J Q ↔ Cal 116 [.int p0] I J (fun v I' J' => At 83 4 ls (v.toList ++ []) I' J' Q) := A_cal (kd := 1) (j := 76) (na := 1) (ea := 1) (rk := 0) (by decide +kernel) rfl rfl rfl (Or.inl rfl) (Nat.le_of_ble_eq_true rfl)
theorem k83_4 : At 83 4 ls (.int x :: st) I J Q ↔ if x = 0 then At 83 21 ls st I J Q else At 83 7 ls st I J Q := A_ifCond_eq (o := 17) (ab_io ci83 (by decide +kernel)) (by decide)
theorem k83_7 : At 83 7 [a0, a1, some (.int x), a3, a4] st I J Q ↔ At 83 8 [a0, a1, some (.int x), a3, a4] (.int x :: st) I J Q := A_iload_n (q := 2) (ab_io ci83 (by decide +kernel)) rfl
theorem k83_8 : At 83 8 ls [.int p0] I J Q ↔ Cal 117 [.int p0] I J (fun v I' J' => At 83 11 ls (v.toList ++ []) I' J' Q) := A_cal (kd := 1) (j := 80) (na := 1) (ea := 1) (rk := 0) (by decide +kernel) rfl rfl rfl (Or.inl rfl) (Nat.le_of_ble_eq_true rfl)
theorem k83_11 : At 83 11 ls (.int x :: st) I J Q ↔ if x = 0 then At 83 21 ls st I J Q else At 83 14 ls st I J Q := A_ifCond_eq (o := 10) (ab_io ci83 (by decide +kernel)) (by decide)
theorem k83_14 : At 83 14 [a0, a1, a2, some (.int x), a4] st I J Q ↔ At 83 15 [a0, a1, a2, some (.int x), a4] (.int x :: st) I J Q := A_iload_n (q := 3) (ab_io ci83 (by decide +kernel)) rfl
theorem k83_15 : At 83 15 ls [.int p0] I J Q ↔ Cal 120 [.int p0] I J (fun v I' J' => At 83 18 ls (v.toList ++ []) I' J' Q) := A_cal (kd := 1) (j := 133) (na := 1) (ea := 1) (rk := 0) (by decide +kernel) rfl rfl rfl (Or.inl rfl) (Nat.le_of_ble_eq_true rfl)
theorem k83_18 : At 83 18 ls (.int x :: st) I J Q ↔ if ¬ x = 0 then At 83 27 ls st I J Q else At 83 21 ls st I J Q := A_ifCond_ne (o := 9) (ab_io ci83 (by decide +kernel)) (by decide)
theorem k83_21 : At 83 21 ls st I J Q ↔ At 83 23 ls (.int (-2) :: st) I J Q := A_bipush (ab_io ci83 (by decide +kernel)) bc_m2
theorem k83_23 : At 83 23 ls [.int p0] I J Q ↔ Cal 121 [.int p0] I J (fun v I' J' => At 83 26 ls (v.toList ++ []) I' J' Q) := A_cal (kd := 1) (j := 136) (na := 1) (ea := 1) (rk := 0) (by decide +kernel) rfl rfl rfl (Or.inl rfl) (Nat.le_of_ble_eq_true rfl)
theorem k83_26 : At 83 26 ls [.long u] I J Q ↔ Q (some (.long u)) I J := A_lret (ab_io ci83 (by decide +kernel)) rt83
theorem k83_27 : At 83 27 [some (.ref r), a1, a2, a3, a4] st I J Q ↔ At 83 28 [some (.ref r), a1, a2, a3, a4] (.ref r :: st) I J Q := A_aload_n (q := 0) (ab_io ci83 (by decide +kernel)) rfl
theorem k83_28 : At 83 28 ls [.ref 0] I J Q ↔ Cal 110 [.ref 0] I J (fun v I' J' => At 83 31 ls (v.toList ++ []) I' J' Q) := A_cal (kd := 0) (j := 121) (na := 1) (ea := 1) (rk := 0) (by decide +kernel) rfl rfl rfl (Or.inr rfl) (Nat.le_of_ble_eq_true rfl)
theorem k83_31 : At 83 31 ls st I J Q ↔ At 83 32 ls (.int (nI 4) :: st) I J Q := A_iconst (ab_io ci83 (by decide +kernel)) ic_4
theorem k83_32 : At 83 32 [a0, some (.int x), a2, a3, a4] st I J Q ↔ At 83 33 [a0, some (.int x), a2, a3, a4] (.int x :: st) I J Q := A_iload_n (q := 1) (ab_io ci83 (by decide +kernel)) rfl
theorem k83_33 : At 83 33 ls (.int x1 :: .int x :: st) I J Q ↔ At 83 34 ls (.int (x * x1) :: st) I J Q := A_imul (ab_io ci83 (by decide +kernel))
theorem k83_34 : At 83 34 [a0, a1, some (.int x), a3, a4] st I J Q ↔ At 83 35 [a0, a1, some (.int x), a3, a4] (.int x :: st) I J Q := A_iload_n (q := 2) (ab_io ci83 (by decide +kernel)) rfl
theorem k83_35 : At 83 35 ls (.int x1 :: .int x :: st) I J Q ↔ At 83 36 ls (.int (x + x1) :: st) I J Q := A_iadd (ab_io ci83 (by decide +kernel))
theorem k83_36 : At 83 36 [a0, a1, a2, a3, a4] (.int x :: st) I J Q ↔ At 83 38 [a0, a1, a2, ab_nv a3, some (.int x)] st I J Q := A_istore (q := 4) (ab_io ci83 (by decide +kernel)) (Nat.le_of_ble_eq_true rfl) rfl
theorem k83_38 : At 83 38 [some (.ref r), a1, a2, a3, a4] st I J Q ↔ At 83 39 [some (.ref r), a1, a2, a3, a4] (.ref r :: st) I J Q := A_aload_n (q := 0) (ab_io ci83 (by decide +kernel)) rfl
theorem k83_39 : At 83 39 ls (.ref 0 :: st) I J Q ↔ At 83 42 ls (.ref 5 :: st) I J Q := A_getR (ab_io ci83 (by decide +kernel)) ow83 fq7_19_0
theorem k83_42_5 : At 83 42 ls (.ref 5 :: st) I J Q ↔ At 83 45 ls (.ref 6 :: st) I J Q := A_getR (ab_io ci83 (by decide +kernel)) ow83 fq7_124_5
theorem k83_42_17 : At 83 42 ls (.ref 17 :: st) I J Q ↔ At 83 45 ls (.ref 18 :: st) I J Q := A_getR (ab_io ci83 (by decide +kernel)) ow83 fq7_124_17
theorem k83_45 : At 83 45 [a0, a1, a2, a3, some (.int x)] st I J Q ↔ At 83 47 [a0, a1, a2, a3, some (.int x)] (.int x :: st) I J Q := A_iload (q := 4) (ab_io ci83 (by decide +kernel)) rfl
theorem k83_47 : At 83 47 ls (.int x :: .ref r :: st) I J Q ↔ ((ab_ly r).1 = 1 ∧ r < 75 ∧ 0 ≤ x.toInt ∧ x.toInt < (ab_ly r).2) ∧ At 83 48 ls (.int (I r x.toNatClampNeg) :: st) I J Q := A_iaload (ab_io ci83 (by decide +kernel))
theorem k83_48 : At 83 48 ls st I J Q ↔ At 83 49 ls (.int (-1) :: st) I J Q := A_iconst (ab_io ci83 (by decide +kernel)) ic_m1
theorem k83_49 : At 83 49 ls (.int x1 :: .int x :: st) I J Q ↔ if ¬ x = x1 then At 83 58 ls st I J Q else At 83 52 ls st I J Q := A_if_icmp_ne (o := 9) (ab_io ci83 (by decide +kernel)) (by decide)
theorem k83_52 : At 83 52 ls st I J Q ↔ At 83 54 ls (.int (-3) :: st) I J Q := A_bipush (ab_io ci83 (by decide +kernel)) bc_m3
theorem k83_54 : At 83 54 ls [.int p0] I J Q ↔ Cal 121 [.int p0] I J (fun v I' J' => At 83 57 ls (v.toList ++ []) I' J' Q) := A_cal (kd := 1) (j := 136) (na := 1) (ea := 1) (rk := 0) (by decide +kernel) rfl rfl rfl (Or.inl rfl) (Nat.le_of_ble_eq_true rfl)
theorem k83_57 : At 83 57 ls [.long u] I J Q ↔ Q (some (.long u)) I J := A_lret (ab_io ci83 (by decide +kernel)) rt83
theorem k83_58 : At 83 58 [some (.ref r), a1, a2, a3, a4] st I J Q ↔ At 83 59 [some (.ref r), a1, a2, a3, a4] (.ref r :: st) I J Q := A_aload_n (q := 0) (ab_io ci83 (by decide +kernel)) rfl
theorem k83_59 : At 83 59 ls (.ref 0 :: st) I J Q ↔ At 83 62 ls (.ref 5 :: st) I J Q := A_getR (ab_io ci83 (by decide +kernel)) ow83 fq7_19_0
theorem k83_62 : At 83 62 [a0, a1, a2, a3, some (.int x)] st I J Q ↔ At 83 64 [a0, a1, a2, a3, some (.int x)] (.int x :: st) I J Q := A_iload (q := 4) (ab_io ci83 (by decide +kernel)) rfl
theorem k83_64_5 : At 83 64 ls [.int p0, .ref 5] I J Q ↔ Cal 30 [.ref 5, .int p0] I J (fun v I' J' => At 83 67 ls (v.toList ++ []) I' J' Q) := A_cal (kd := 0) (j := 162) (na := 2) (ea := 2) (rk := 5) (by decide +kernel) rfl rfl rfl (Or.inr rfl) (Nat.le_of_ble_eq_true rfl)
theorem k83_64_17 : At 83 64 ls [.int p0, .ref 17] I J Q ↔ Cal 30 [.ref 17, .int p0] I J (fun v I' J' => At 83 67 ls (v.toList ++ []) I' J' Q) := A_cal (kd := 0) (j := 162) (na := 2) (ea := 2) (rk := 17) (by decide +kernel) rfl rfl rfl (Or.inr rfl) (Nat.le_of_ble_eq_true rfl)
theorem k83_67 : At 83 67 [some (.ref r), a1, a2, a3, a4] st I J Q ↔ At 83 68 [some (.ref r), a1, a2, a3, a4] (.ref r :: st) I J Q := A_aload_n (q := 0) (ab_io ci83 (by decide +kernel)) rfl
theorem k83_68 : At 83 68 ls (.ref 0 :: st) I J Q ↔ At 83 71 ls (.ref 5 :: st) I J Q := A_getR (ab_io ci83 (by decide +kernel)) ow83 fq7_19_0
theorem k83_71_5 : At 83 71 ls [.ref 5, .long qu0] I J Q ↔ Cal 15 [.ref 5] I J (fun v I' J' => At 83 74 ls (v.toList ++ [.long qu0]) I' J' Q) := A_cal (kd := 0) (j := 158) (na := 1) (ea := 1) (rk := 5) (by decide +kernel) rfl rfl rfl (Or.inr rfl) (Nat.le_of_ble_eq_true rfl)
theorem k83_71_17 : At 83 71 ls [.ref 17, .long qu0] I J Q ↔ Cal 15 [.ref 17] I J (fun v I' J' => At 83 74 ls (v.toList ++ [.long qu0]) I' J' Q) := A_cal (kd := 0) (j := 158) (na := 1) (ea := 1) (rk := 17) (by decide +kernel) rfl rfl rfl (Or.inr rfl) (Nat.le_of_ble_eq_true rfl)
theorem k83_74 : At 83 74 [a0, a1, a2, some (.int x), a4] st I J Q ↔ At 83 75 [a0, a1, a2, some (.int x), a4] (.int x :: st) I J Q := A_iload_n (q := 3) (ab_io ci83 (by decide +kernel)) rfl
theorem k83_75 : At 83 75 ls [.int p0, .long pu1, .long pu2] I J Q ↔ Cal 122 [.long pu2, .long pu1, .int p0] I J (fun v I' J' => At 83 78 ls (v.toList ++ []) I' J' Q) := A_cal (kd := 1) (j := 148) (na := 3) (ea := 5) (rk := 0) (by decide +kernel) rfl rfl rfl (Or.inl rfl) (Nat.le_of_ble_eq_true rfl)
theorem k83_78 : At 83 78 ls [.long u] I J Q ↔ Q (some (.long u)) I J := A_lret (ab_io ci83 (by decide +kernel)) rt83
theorem k84_0 : At 84 0 [a0, some (.int x), a2] st I J Q ↔ At 84 1 [a0, some (.int x), a2] (.int x :: st) I J Q := A_iload_n (q := 1) (ab_io ci84 (by decide +kernel)) rfl
theorem k84_1 : At 84 1 ls [.int p0] I J Q ↔ Cal 117 [.int p0] I J (fun v I' J' => At 84 4 ls (v.toList ++ []) I' J' Q) := A_cal (kd := 1) (j := 80) (na := 1) (ea := 1) (rk := 0) (by decide +kernel) rfl rfl rfl (Or.inl rfl) (Nat.le_of_ble_eq_true rfl)
theorem k84_4 : At 84 4 ls (.int x :: st) I J Q ↔ if x = 0 then At 84 14 ls st I J Q else At 84 7 ls st I J Q := A_ifCond_eq (o := 10) (ab_io ci84 (by decide +kernel)) (by decide)
theorem k84_7 : At 84 7 [a0, a1, some (.int x)] st I J Q ↔ At 84 8 [a0, a1, some (.int x)] (.int x :: st) I J Q := A_iload_n (q := 2) (ab_io ci84 (by decide +kernel)) rfl
theorem k84_8 : At 84 8 ls [.int p0] I J Q ↔ Cal 120 [.int p0] I J (fun v I' J' => At 84 11 ls (v.toList ++ []) I' J' Q) := A_cal (kd := 1) (j := 133) (na := 1) (ea := 1) (rk := 0) (by decide +kernel) rfl rfl rfl (Or.inl rfl) (Nat.le_of_ble_eq_true rfl)
theorem k84_11 : At 84 11 ls (.int x :: st) I J Q ↔ if ¬ x = 0 then At 84 20 ls st I J Q else At 84 14 ls st I J Q := A_ifCond_ne (o := 9) (ab_io ci84 (by decide +kernel)) (by decide)
theorem k84_14 : At 84 14 ls st I J Q ↔ At 84 16 ls (.int (-2) :: st) I J Q := A_bipush (ab_io ci84 (by decide +kernel)) bc_m2
theorem k84_16 : At 84 16 ls [.int p0] I J Q ↔ Cal 121 [.int p0] I J (fun v I' J' => At 84 19 ls (v.toList ++ []) I' J' Q) := A_cal (kd := 1) (j := 136) (na := 1) (ea := 1) (rk := 0) (by decide +kernel) rfl rfl rfl (Or.inl rfl) (Nat.le_of_ble_eq_true rfl)
theorem k84_19 : At 84 19 ls [.long u] I J Q ↔ Q (some (.long u)) I J := A_lret (ab_io ci84 (by decide +kernel)) rt84
theorem k84_20 : At 84 20 [some (.ref r), a1, a2] st I J Q ↔ At 84 21 [some (.ref r), a1, a2] (.ref r :: st) I J Q := A_aload_n (q := 0) (ab_io ci84 (by decide +kernel)) rfl
theorem k84_21 : At 84 21 ls [.ref 0] I J Q ↔ Cal 110 [.ref 0] I J (fun v I' J' => At 84 24 ls (v.toList ++ []) I' J' Q) := A_cal (kd := 0) (j := 121) (na := 1) (ea := 1) (rk := 0) (by decide +kernel) rfl rfl rfl (Or.inr rfl) (Nat.le_of_ble_eq_true rfl)
theorem k84_24 : At 84 24 [some (.ref r), a1, a2] st I J Q ↔ At 84 25 [some (.ref r), a1, a2] (.ref r :: st) I J Q := A_aload_n (q := 0) (ab_io ci84 (by decide +kernel)) rfl
theorem k84_25 : At 84 25 ls (.ref 0 :: st) I J Q ↔ At 84 28 ls (.ref 5 :: st) I J Q := A_getR (ab_io ci84 (by decide +kernel)) ow84 fq7_19_0
theorem k84_28_5 : At 84 28 ls (.ref 5 :: st) I J Q ↔ At 84 31 ls (.ref 10 :: st) I J Q := A_getR (ab_io ci84 (by decide +kernel)) ow84 fq7_130_5
theorem k84_28_17 : At 84 28 ls (.ref 17 :: st) I J Q ↔ At 84 31 ls (.ref 22 :: st) I J Q := A_getR (ab_io ci84 (by decide +kernel)) ow84 fq7_130_17
theorem k84_31 : At 84 31 [a0, some (.int x), a2] st I J Q ↔ At 84 32 [a0, some (.int x), a2] (.int x :: st) I J Q := A_iload_n (q := 1) (ab_io ci84 (by decide +kernel)) rfl
theorem k84_32 : At 84 32 ls (.int x :: .ref r :: st) I J Q ↔ ((ab_ly r).1 = 1 ∧ r < 75 ∧ 0 ≤ x.toInt ∧ x.toInt < (ab_ly r).2) ∧ At 84 33 ls (.int (I r x.toNatClampNeg) :: st) I J Q := A_iaload (ab_io ci84 (by decide +kernel))
theorem k84_33 : At 84 33 [a0, some (.int x), a2] st I J Q ↔ At 84 34 [a0, some (.int x), a2] (.int x :: st) I J Q := A_iload_n (q := 1) (ab_io ci84 (by decide +kernel)) rfl
theorem k84_34 : At 84 34 ls (.int x1 :: .int x :: st) I J Q ↔ if x = x1 then At 84 43 ls st I J Q else At 84 37 ls st I J Q := A_if_icmp_eq (o := 9) (ab_io ci84 (by decide +kernel)) (by decide)
theorem k84_37 : At 84 37 ls st I J Q ↔ At 84 39 ls (.int (-3) :: st) I J Q := A_bipush (ab_io ci84 (by decide +kernel)) bc_m3
theorem k84_39 : At 84 39 ls [.int p0] I J Q ↔ Cal 121 [.int p0] I J (fun v I' J' => At 84 42 ls (v.toList ++ []) I' J' Q) := A_cal (kd := 1) (j := 136) (na := 1) (ea := 1) (rk := 0) (by decide +kernel) rfl rfl rfl (Or.inl rfl) (Nat.le_of_ble_eq_true rfl)
theorem k84_42 : At 84 42 ls [.long u] I J Q ↔ Q (some (.long u)) I J := A_lret (ab_io ci84 (by decide +kernel)) rt84
theorem k84_43 : At 84 43 [some (.ref r), a1, a2] st I J Q ↔ At 84 44 [some (.ref r), a1, a2] (.ref r :: st) I J Q := A_aload_n (q := 0) (ab_io ci84 (by decide +kernel)) rfl
theorem k84_44 : At 84 44 ls (.ref 0 :: st) I J Q ↔ At 84 47 ls (.ref 5 :: st) I J Q := A_getR (ab_io ci84 (by decide +kernel)) ow84 fq7_19_0
theorem k84_47 : At 84 47 [some (.ref r), a1, a2] st I J Q ↔ At 84 48 [some (.ref r), a1, a2] (.ref r :: st) I J Q := A_aload_n (q := 0) (ab_io ci84 (by decide +kernel)) rfl
theorem k84_48 : At 84 48 ls (.ref 0 :: st) I J Q ↔ At 84 51 ls (.ref 5 :: st) I J Q := A_getR (ab_io ci84 (by decide +kernel)) ow84 fq7_19_0
theorem k84_51_5 : At 84 51 ls (.ref 5 :: st) I J Q ↔ At 84 54 ls (.ref 9 :: st) I J Q := A_getR (ab_io ci84 (by decide +kernel)) ow84 fq7_165_5
theorem k84_51_17 : At 84 51 ls (.ref 17 :: st) I J Q ↔ At 84 54 ls (.ref 21 :: st) I J Q := A_getR (ab_io ci84 (by decide +kernel)) ow84 fq7_165_17
theorem k84_54 : At 84 54 [a0, some (.int x), a2] st I J Q ↔ At 84 55 [a0, some (.int x), a2] (.int x :: st) I J Q := A_iload_n (q := 1) (ab_io ci84 (by decide +kernel)) rfl
theorem k84_55 : At 84 55 ls (.int x :: .ref r :: st) I J Q ↔ ((ab_ly r).1 = 1 ∧ r < 75 ∧ 0 ≤ x.toInt ∧ x.toInt < (ab_ly r).2) ∧ At 84 56 ls (.int (I r x.toNatClampNeg) :: st) I J Q := A_iaload (ab_io ci84 (by decide +kernel))
theorem k84_56_5 : At 84 56 ls [.int p0, .ref 5] I J Q ↔ Cal 31 [.ref 5, .int p0] I J (fun v I' J' => At 84 59 ls (v.toList ++ []) I' J' Q) := A_cal (kd := 0) (j := 168) (na := 2) (ea := 2) (rk := 5) (by decide +kernel) rfl rfl rfl (Or.inr rfl) (Nat.le_of_ble_eq_true rfl)
theorem k84_56_17 : At 84 56 ls [.int p0, .ref 17] I J Q ↔ Cal 31 [.ref 17, .int p0] I J (fun v I' J' => At 84 59 ls (v.toList ++ []) I' J' Q) := A_cal (kd := 0) (j := 168) (na := 2) (ea := 2) (rk := 17) (by decide +kernel) rfl rfl rfl (Or.inr rfl) (Nat.le_of_ble_eq_true rfl)
theorem k84_59 : At 84 59 [some (.ref r), a1, a2] st I J Q ↔ At 84 60 [some (.ref r), a1, a2] (.ref r :: st) I J Q := A_aload_n (q := 0) (ab_io ci84 (by decide +kernel)) rfl
theorem k84_60 : At 84 60 ls (.ref 0 :: st) I J Q ↔ At 84 63 ls (.ref 5 :: st) I J Q := A_getR (ab_io ci84 (by decide +kernel)) ow84 fq7_19_0
theorem k84_63_5 : At 84 63 ls [.ref 5, .long qu0] I J Q ↔ Cal 15 [.ref 5] I J (fun v I' J' => At 84 66 ls (v.toList ++ [.long qu0]) I' J' Q) := A_cal (kd := 0) (j := 158) (na := 1) (ea := 1) (rk := 5) (by decide +kernel) rfl rfl rfl (Or.inr rfl) (Nat.le_of_ble_eq_true rfl)
theorem k84_63_17 : At 84 63 ls [.ref 17, .long qu0] I J Q ↔ Cal 15 [.ref 17] I J (fun v I' J' => At 84 66 ls (v.toList ++ [.long qu0]) I' J' Q) := A_cal (kd := 0) (j := 158) (na := 1) (ea := 1) (rk := 17) (by decide +kernel) rfl rfl rfl (Or.inr rfl) (Nat.le_of_ble_eq_true rfl)
theorem k84_66 : At 84 66 [a0, a1, some (.int x)] st I J Q ↔ At 84 67 [a0, a1, some (.int x)] (.int x :: st) I J Q := A_iload_n (q := 2) (ab_io ci84 (by decide +kernel)) rfl
theorem k84_67 : At 84 67 ls [.int p0, .long pu1, .long pu2] I J Q ↔ Cal 122 [.long pu2, .long pu1, .int p0] I J (fun v I' J' => At 84 70 ls (v.toList ++ []) I' J' Q) := A_cal (kd := 1) (j := 148) (na := 3) (ea := 5) (rk := 0) (by decide +kernel) rfl rfl rfl (Or.inl rfl) (Nat.le_of_ble_eq_true rfl)
theorem k84_70 : At 84 70 ls [.long u] I J Q ↔ Q (some (.long u)) I J := A_lret (ab_io ci84 (by decide +kernel)) rt84
theorem k85_0 : At 85 0 [a0, some (.int x), a2, a3, a4] st I J Q ↔ At 85 1 [a0, some (.int x), a2, a3, a4] (.int x :: st) I J Q := A_iload_n (q := 1) (ab_io ci85 (by decide +kernel)) rfl
theorem k85_1 : At 85 1 ls [.int p0] I J Q ↔ Cal 116 [.int p0] I J (fun v I' J' => At 85 4 ls (v.toList ++ []) I' J' Q) := A_cal (kd := 1) (j := 76) (na := 1) (ea := 1) (rk := 0) (by decide +kernel) rfl rfl rfl (Or.inl rfl) (Nat.le_of_ble_eq_true rfl)
theorem k85_4 : At 85 4 ls (.int x :: st) I J Q ↔ if x = 0 then At 85 14 ls st I J Q else At 85 7 ls st I J Q := A_ifCond_eq (o := 10) (ab_io ci85 (by decide +kernel)) (by decide)
theorem k85_7 : At 85 7 [a0, a1, some (.int x), a3, a4] st I J Q ↔ At 85 8 [a0, a1, some (.int x), a3, a4] (.int x :: st) I J Q := A_iload_n (q := 2) (ab_io ci85 (by decide +kernel)) rfl
theorem k85_8 : At 85 8 ls [.int p0] I J Q ↔ Cal 120 [.int p0] I J (fun v I' J' => At 85 11 ls (v.toList ++ []) I' J' Q) := A_cal (kd := 1) (j := 133) (na := 1) (ea := 1) (rk := 0) (by decide +kernel) rfl rfl rfl (Or.inl rfl) (Nat.le_of_ble_eq_true rfl)
theorem k85_11 : At 85 11 ls (.int x :: st) I J Q ↔ if ¬ x = 0 then At 85 17 ls st I J Q else At 85 14 ls st I J Q := A_ifCond_ne (o := 6) (ab_io ci85 (by decide +kernel)) (by decide)
theorem k85_14 : At 85 14 ls st I J Q ↔ At 85 16 ls (.int (-2) :: st) I J Q := A_bipush (ab_io ci85 (by decide +kernel)) bc_m2
theorem k85_16 : At 85 16 ls [.int x] I J Q ↔ Q (some (.int x)) I J := A_iret (ab_io ci85 (by decide +kernel)) rt85
theorem k85_17 : At 85 17 [some (.ref r), a1, a2, a3, a4] st I J Q ↔ At 85 18 [some (.ref r), a1, a2, a3, a4] (.ref r :: st) I J Q := A_aload_n (q := 0) (ab_io ci85 (by decide +kernel)) rfl
theorem k85_18 : At 85 18 ls [.ref 0] I J Q ↔ Cal 110 [.ref 0] I J (fun v I' J' => At 85 21 ls (v.toList ++ []) I' J' Q) := A_cal (kd := 0) (j := 121) (na := 1) (ea := 1) (rk := 0) (by decide +kernel) rfl rfl rfl (Or.inr rfl) (Nat.le_of_ble_eq_true rfl)
theorem k85_21 : At 85 21 [some (.ref r), a1, a2, a3, a4] st I J Q ↔ At 85 22 [some (.ref r), a1, a2, a3, a4] (.ref r :: st) I J Q := A_aload_n (q := 0) (ab_io ci85 (by decide +kernel)) rfl
theorem k85_22 : At 85 22 ls (.ref 0 :: st) I J Q ↔ At 85 25 ls (.ref 5 :: st) I J Q := A_getR (ab_io ci85 (by decide +kernel)) ow85 fq7_19_0
theorem k85_25_5 : At 85 25 ls (.ref 5 :: st) I J Q ↔ At 85 28 ls (.ref 7 :: st) I J Q := A_getR (ab_io ci85 (by decide +kernel)) ow85 fq7_152_5
theorem k85_25_17 : At 85 25 ls (.ref 17 :: st) I J Q ↔ At 85 28 ls (.ref 19 :: st) I J Q := A_getR (ab_io ci85 (by decide +kernel)) ow85 fq7_152_17
theorem k85_28 : At 85 28 [a0, some (.int x), a2, a3, a4] st I J Q ↔ At 85 29 [a0, some (.int x), a2, a3, a4] (.int x :: st) I J Q := A_iload_n (q := 1) (ab_io ci85 (by decide +kernel)) rfl
theorem k85_29 : At 85 29 ls (.int x :: .ref r :: st) I J Q ↔ ((ab_ly r).1 = 1 ∧ r < 75 ∧ 0 ≤ x.toInt ∧ x.toInt < (ab_ly r).2) ∧ At 85 30 ls (.int (I r x.toNatClampNeg) :: st) I J Q := A_iaload (ab_io ci85 (by decide +kernel))
theorem k85_30 : At 85 30 ls (.int x :: st) I J Q ↔ if ¬ x = 0 then At 85 36 ls st I J Q else At 85 33 ls st I J Q := A_ifCond_ne (o := 6) (ab_io ci85 (by decide +kernel)) (by decide)
theorem k85_33 : At 85 33 ls st I J Q ↔ At 85 35 ls (.int (-3) :: st) I J Q := A_bipush (ab_io ci85 (by decide +kernel)) bc_m3
theorem k85_35 : At 85 35 ls [.int x] I J Q ↔ Q (some (.int x)) I J := A_iret (ab_io ci85 (by decide +kernel)) rt85
theorem k85_36 : At 85 36 ls st I J Q ↔ At 85 37 ls (.int (nI 0) :: st) I J Q := A_iconst (ab_io ci85 (by decide +kernel)) ic_0
theorem k85_37 : At 85 37 [a0, a1, a2, a3, a4] (.int x :: st) I J Q ↔ At 85 38 [a0, a1, ab_nv a2, some (.int x), a4] st I J Q := A_istore_n (q := 3) (ab_io ci85 (by decide +kernel)) (Nat.le_of_ble_eq_true rfl) rfl
theorem k85_38 : At 85 38 ls st I J Q ↔ At 85 39 ls (.int (nI 0) :: st) I J Q := A_iconst (ab_io ci85 (by decide +kernel)) ic_0
theorem k85_39 : At 85 39 [a0, a1, a2, a3, a4] (.int x :: st) I J Q ↔ At 85 41 [a0, a1, a2, ab_nv a3, some (.int x)] st I J Q := A_istore (q := 4) (ab_io ci85 (by decide +kernel)) (Nat.le_of_ble_eq_true rfl) rfl
theorem k85_41 : At 85 41 [a0, a1, a2, a3, some (.int x)] st I J Q ↔ At 85 43 [a0, a1, a2, a3, some (.int x)] (.int x :: st) I J Q := A_iload (q := 4) (ab_io ci85 (by decide +kernel)) rfl
theorem k85_43 : At 85 43 ls st I J Q ↔ At 85 45 ls (.int (nI 12) :: st) I J Q := A_bipush (ab_io ci85 (by decide +kernel)) bc_12
theorem k85_45 : At 85 45 ls (.int x1 :: .int x :: st) I J Q ↔ if x1 ≤ x then At 85 90 ls st I J Q else At 85 48 ls st I J Q := A_if_icmp_ge (o := 45) (ab_io ci85 (by decide +kernel)) (by decide)
theorem k85_48 : At 85 48 [some (.ref r), a1, a2, a3, a4] st I J Q ↔ At 85 49 [some (.ref r), a1, a2, a3, a4] (.ref r :: st) I J Q := A_aload_n (q := 0) (ab_io ci85 (by decide +kernel)) rfl
theorem k85_49 : At 85 49 ls (.ref 0 :: st) I J Q ↔ At 85 52 ls (.ref 5 :: st) I J Q := A_getR (ab_io ci85 (by decide +kernel)) ow85 fq7_19_0
theorem k85_52_5 : At 85 52 ls (.ref 5 :: st) I J Q ↔ At 85 55 ls (.ref 11 :: st) I J Q := A_getR (ab_io ci85 (by decide +kernel)) ow85 fq7_127_5
theorem k85_52_17 : At 85 52 ls (.ref 17 :: st) I J Q ↔ At 85 55 ls (.ref 23 :: st) I J Q := A_getR (ab_io ci85 (by decide +kernel)) ow85 fq7_127_17
theorem k85_55 : At 85 55 [a0, a1, a2, a3, some (.int x)] st I J Q ↔ At 85 57 [a0, a1, a2, a3, some (.int x)] (.int x :: st) I J Q := A_iload (q := 4) (ab_io ci85 (by decide +kernel)) rfl
theorem k85_57 : At 85 57 ls (.int x :: .ref r :: st) I J Q ↔ ((ab_ly r).1 = 1 ∧ r < 75 ∧ 0 ≤ x.toInt ∧ x.toInt < (ab_ly r).2) ∧ At 85 58 ls (.int (I r x.toNatClampNeg) :: st) I J Q := A_iaload (ab_io ci85 (by decide +kernel))
theorem k85_58 : At 85 58 [some (.ref r), a1, a2, a3, a4] st I J Q ↔ At 85 59 [some (.ref r), a1, a2, a3, a4] (.ref r :: st) I J Q := A_aload_n (q := 0) (ab_io ci85 (by decide +kernel)) rfl
theorem k85_59 : At 85 59 ls (.ref 0 :: st) I J Q ↔ At 85 62 ls (.ref 5 :: st) I J Q := A_getR (ab_io ci85 (by decide +kernel)) ow85 fq7_19_0
theorem k85_62_5 : At 85 62 ls (.ref 5 :: st) I J Q ↔ At 85 65 ls (.ref 11 :: st) I J Q := A_getR (ab_io ci85 (by decide +kernel)) ow85 fq7_127_5
theorem k85_62_17 : At 85 62 ls (.ref 17 :: st) I J Q ↔ At 85 65 ls (.ref 23 :: st) I J Q := A_getR (ab_io ci85 (by decide +kernel)) ow85 fq7_127_17
theorem k85_65 : At 85 65 [a0, some (.int x), a2, a3, a4] st I J Q ↔ At 85 66 [a0, some (.int x), a2, a3, a4] (.int x :: st) I J Q := A_iload_n (q := 1) (ab_io ci85 (by decide +kernel)) rfl
theorem k85_66 : At 85 66 ls (.int x :: .ref r :: st) I J Q ↔ ((ab_ly r).1 = 1 ∧ r < 75 ∧ 0 ≤ x.toInt ∧ x.toInt < (ab_ly r).2) ∧ At 85 67 ls (.int (I r x.toNatClampNeg) :: st) I J Q := A_iaload (ab_io ci85 (by decide +kernel))
theorem k85_67 : At 85 67 ls (.int x1 :: .int x :: st) I J Q ↔ if ¬ x = x1 then At 85 84 ls st I J Q else At 85 70 ls st I J Q := A_if_icmp_ne (o := 17) (ab_io ci85 (by decide +kernel)) (by decide)
theorem k85_70 : At 85 70 [some (.ref r), a1, a2, a3, a4] st I J Q ↔ At 85 71 [some (.ref r), a1, a2, a3, a4] (.ref r :: st) I J Q := A_aload_n (q := 0) (ab_io ci85 (by decide +kernel)) rfl
theorem k85_71 : At 85 71 [a0, a1, a2, a3, some (.int x)] st I J Q ↔ At 85 73 [a0, a1, a2, a3, some (.int x)] (.int x :: st) I J Q := A_iload (q := 4) (ab_io ci85 (by decide +kernel)) rfl
theorem k85_73 : At 85 73 [a0, some (.int x), a2, a3, a4] st I J Q ↔ At 85 74 [a0, some (.int x), a2, a3, a4] (.int x :: st) I J Q := A_iload_n (q := 1) (ab_io ci85 (by decide +kernel)) rfl
theorem k85_74 : At 85 74 [a0, a1, some (.int x), a3, a4] st I J Q ↔ At 85 75 [a0, a1, some (.int x), a3, a4] (.int x :: st) I J Q := A_iload_n (q := 2) (ab_io ci85 (by decide +kernel)) rfl
theorem k85_75 : At 85 75 ls [.int p0, .int p1, .int p2, .ref 0] I J Q ↔ Cal 113 [.ref 0, .int p2, .int p1, .int p0] I J (fun v I' J' => At 85 78 ls (v.toList ++ []) I' J' Q) := A_cal (kd := 0) (j := 171) (na := 4) (ea := 4) (rk := 0) (by decide +kernel) rfl rfl rfl (Or.inr rfl) (Nat.le_of_ble_eq_true rfl)
theorem k85_78 : At 85 78 ls (.int x :: st) I J Q ↔ if x = 0 then At 85 84 ls st I J Q else At 85 81 ls st I J Q := A_ifCond_eq (o := 6) (ab_io ci85 (by decide +kernel)) (by decide)
theorem k85_81 : At 85 81 [a0, a1, a2, some (.int x), a4] st I J Q ↔ At 85 84 [a0, a1, ab_nv a2, some (.int (x + (nI 1))), a4] st I J Q := A_iinc (q := 3) (ab_io ci85 (by decide +kernel)) ic_1 (Nat.le_of_ble_eq_true rfl) rfl rfl
theorem k85_84 : At 85 84 [a0, a1, a2, a3, some (.int x)] st I J Q ↔ At 85 87 [a0, a1, a2, ab_nv a3, some (.int (x + (nI 1)))] st I J Q := A_iinc (q := 4) (ab_io ci85 (by decide +kernel)) ic_1 (Nat.le_of_ble_eq_true rfl) rfl rfl
theorem k85_87 : At 85 87 ls st I J Q ↔ At 85 41 ls st I J Q := A_goto (o := (-46)) (ab_io ci85 (by decide +kernel)) (by decide)
theorem k85_90 : At 85 90 ls st I J Q ↔ At 85 91 ls (.int (nI 1) :: st) I J Q := A_iconst (ab_io ci85 (by decide +kernel)) ic_1
theorem k85_91 : At 85 91 [a0, a1, a2, some (.int x), a4] st I J Q ↔ At 85 92 [a0, a1, a2, some (.int x), a4] (.int x :: st) I J Q := A_iload_n (q := 3) (ab_io ci85 (by decide +kernel)) rfl
theorem k85_92 : At 85 92 ls (.int x1 :: .int x :: st) I J Q ↔ At 85 93 ls (.int (x + x1) :: st) I J Q := A_iadd (ab_io ci85 (by decide +kernel))
theorem k85_93 : At 85 93 ls [.int x] I J Q ↔ Q (some (.int x)) I J := A_iret (ab_io ci85 (by decide +kernel)) rt85
theorem k86_0 : At 86 0 [a0, some (.int x)] st I J Q ↔ At 86 1 [a0, some (.int x)] (.int x :: st) I J Q := A_iload_n (q := 1) (ab_io ci86 (by decide +kernel)) rfl
theorem k86_1 : At 86 1 ls (.int x :: st) I J Q ↔ if x < 0 then At 86 11 ls st I J Q else At 86 4 ls st I J Q := A_ifCond_lt (o := 10) (ab_io ci86 (by decide +kernel)) (by decide)
theorem k86_4 : At 86 4 [a0, some (.int x)] st I J Q ↔ At 86 5 [a0, some (.int x)] (.int x :: st) I J Q := A_iload_n (q := 1) (ab_io ci86 (by decide +kernel)) rfl
theorem k86_5 : At 86 5 ls st I J Q ↔ At 86 8 ls (.int (nI 255) :: st) I J Q := A_sipush (ab_io ci86 (by decide +kernel)) sc_255
theorem k86_8 : At 86 8 ls (.int x1 :: .int x :: st) I J Q ↔ if x ≤ x1 then At 86 14 ls st I J Q else At 86 11 ls st I J Q := A_if_icmp_le (o := 6) (ab_io ci86 (by decide +kernel)) (by decide)
theorem k86_11 : At 86 11 ls st I J Q ↔ At 86 13 ls (.int (-2) :: st) I J Q := A_bipush (ab_io ci86 (by decide +kernel)) bc_m2
theorem k86_13 : At 86 13 ls [.int x] I J Q ↔ Q (some (.int x)) I J := A_iret (ab_io ci86 (by decide +kernel)) rt86
theorem k86_14 : At 86 14 [some (.ref r), a1] st I J Q ↔ At 86 15 [some (.ref r), a1] (.ref r :: st) I J Q := A_aload_n (q := 0) (ab_io ci86 (by decide +kernel)) rfl
theorem k86_15 : At 86 15 ls (.ref 0 :: st) I J Q ↔ At 86 18 ls (.ref 39 :: st) I J Q := A_getR (ab_io ci86 (by decide +kernel)) ow86 fq7_50_0
theorem k86_18 : At 86 18 ls [.ref 39] I J Q ↔ Cal 42 [.ref 39] I J (fun v I' J' => At 86 21 ls (v.toList ++ []) I' J' Q) := A_cal (kd := 0) (j := 175) (na := 1) (ea := 1) (rk := 39) (by decide +kernel) rfl rfl rfl (Or.inr rfl) (Nat.le_of_ble_eq_true rfl)
theorem k86_21 : At 86 21 ls (.int x :: st) I J Q ↔ if x = 0 then At 86 27 ls st I J Q else At 86 24 ls st I J Q := A_ifCond_eq (o := 6) (ab_io ci86 (by decide +kernel)) (by decide)
theorem k86_24 : At 86 24 ls st I J Q ↔ At 86 26 ls (.int (-4) :: st) I J Q := A_bipush (ab_io ci86 (by decide +kernel)) bc_m4
theorem k86_26 : At 86 26 ls [.int x] I J Q ↔ Q (some (.int x)) I J := A_iret (ab_io ci86 (by decide +kernel)) rt86
theorem k86_27 : At 86 27 [some (.ref r), a1] st I J Q ↔ At 86 28 [some (.ref r), a1] (.ref r :: st) I J Q := A_aload_n (q := 0) (ab_io ci86 (by decide +kernel)) rfl
theorem k86_28 : At 86 28 ls (.ref 0 :: st) I J Q ↔ At 86 31 ls (.ref 39 :: st) I J Q := A_getR (ab_io ci86 (by decide +kernel)) ow86 fq7_50_0
theorem k86_31 : At 86 31 [a0, some (.int x)] st I J Q ↔ At 86 32 [a0, some (.int x)] (.int x :: st) I J Q := A_iload_n (q := 1) (ab_io ci86 (by decide +kernel)) rfl
theorem k86_32 : At 86 32 ls [.int p0, .ref 39] I J Q ↔ Cal 43 [.ref 39, .int p0] I J (fun v I' J' => At 86 35 ls (v.toList ++ []) I' J' Q) := A_cal (kd := 0) (j := 176) (na := 2) (ea := 2) (rk := 39) (by decide +kernel) rfl rfl rfl (Or.inr rfl) (Nat.le_of_ble_eq_true rfl)
theorem k86_35 : At 86 35 [some (.ref r), a1] st I J Q ↔ At 86 36 [some (.ref r), a1] (.ref r :: st) I J Q := A_aload_n (q := 0) (ab_io ci86 (by decide +kernel)) rfl
theorem k86_36 : At 86 36 ls (.ref 0 :: st) I J Q ↔ At 86 39 ls (.ref 39 :: st) I J Q := A_getR (ab_io ci86 (by decide +kernel)) ow86 fq7_50_0
theorem k86_39 : At 86 39 ls (.ref 39 :: st) I J Q ↔ At 86 42 ls (.int (I 39 3) :: st) I J Q := A_getI (ab_io ci86 (by decide +kernel)) ow86 fq7_179_39
theorem k86_42 : At 86 42 ls [.int x] I J Q ↔ Q (some (.int x)) I J := A_iret (ab_io ci86 (by decide +kernel)) rt86
theorem k87_0 : At 87 0 [some (.ref r)] st I J Q ↔ At 87 1 [some (.ref r)] (.ref r :: st) I J Q := A_aload_n (q := 0) (ab_io ci87 (by decide +kernel)) rfl
theorem k87_1 : At 87 1 ls (.ref 0 :: st) I J Q ↔ At 87 4 ls (.ref 39 :: st) I J Q := A_getR (ab_io ci87 (by decide +kernel)) ow87 fq7_50_0
theorem k87_4 : At 87 4 ls [.ref 39] I J Q ↔ Cal 44 [.ref 39] I J (fun v I' J' => At 87 7 ls (v.toList ++ []) I' J' Q) := A_cal (kd := 0) (j := 182) (na := 1) (ea := 1) (rk := 39) (by decide +kernel) rfl rfl rfl (Or.inr rfl) (Nat.le_of_ble_eq_true rfl)
theorem k87_7 : At 87 7 ls [.int x] I J Q ↔ Q (some (.int x)) I J := A_iret (ab_io ci87 (by decide +kernel)) rt87
theorem k88_0 : At 88 0 [some (.ref r)] st I J Q ↔ At 88 1 [some (.ref r)] (.ref r :: st) I J Q := A_aload_n (q := 0) (ab_io ci88 (by decide +kernel)) rfl
theorem k88_1 : At 88 1 ls (.ref 0 :: st) I J Q ↔ At 88 4 ls (.ref 39 :: st) I J Q := A_getR (ab_io ci88 (by decide +kernel)) ow88 fq7_50_0
theorem k88_4 : At 88 4 ls (.ref 39 :: st) I J Q ↔ At 88 7 ls (.int (I 39 6) :: st) I J Q := A_getI (ab_io ci88 (by decide +kernel)) ow88 fq7_186_39
theorem k88_7 : At 88 7 ls [.int x] I J Q ↔ Q (some (.int x)) I J := A_iret (ab_io ci88 (by decide +kernel)) rt88
theorem k89_0 : At 89 0 [a0, some (.int x)] st I J Q ↔ At 89 1 [a0, some (.int x)] (.int x :: st) I J Q := A_iload_n (q := 1) (ab_io ci89 (by decide +kernel)) rfl
theorem k89_1 : At 89 1 ls [.int p0] I J Q ↔ Cal 116 [.int p0] I J (fun v I' J' => At 89 4 ls (v.toList ++ []) I' J' Q) := A_cal (kd := 1) (j := 76) (na := 1) (ea := 1) (rk := 0) (by decide +kernel) rfl rfl rfl (Or.inl rfl) (Nat.le_of_ble_eq_true rfl)
theorem k89_4 : At 89 4 ls (.int x :: st) I J Q ↔ if ¬ x = 0 then At 89 10 ls st I J Q else At 89 7 ls st I J Q := A_ifCond_ne (o := 6) (ab_io ci89 (by decide +kernel)) (by decide)
theorem k89_7 : At 89 7 ls st I J Q ↔ At 89 9 ls (.int (-2) :: st) I J Q := A_bipush (ab_io ci89 (by decide +kernel)) bc_m2
theorem k89_9 : At 89 9 ls [.int x] I J Q ↔ Q (some (.int x)) I J := A_iret (ab_io ci89 (by decide +kernel)) rt89
theorem k89_10 : At 89 10 [some (.ref r), a1] st I J Q ↔ At 89 11 [some (.ref r), a1] (.ref r :: st) I J Q := A_aload_n (q := 0) (ab_io ci89 (by decide +kernel)) rfl
theorem k89_11 : At 89 11 ls [.ref 0] I J Q ↔ Cal 110 [.ref 0] I J (fun v I' J' => At 89 14 ls (v.toList ++ []) I' J' Q) := A_cal (kd := 0) (j := 121) (na := 1) (ea := 1) (rk := 0) (by decide +kernel) rfl rfl rfl (Or.inr rfl) (Nat.le_of_ble_eq_true rfl)
theorem k89_14 : At 89 14 [some (.ref r), a1] st I J Q ↔ At 89 15 [some (.ref r), a1] (.ref r :: st) I J Q := A_aload_n (q := 0) (ab_io ci89 (by decide +kernel)) rfl
theorem k89_15 : At 89 15 ls (.ref 0 :: st) I J Q ↔ At 89 18 ls (.ref 39 :: st) I J Q := A_getR (ab_io ci89 (by decide +kernel)) ow89 fq7_50_0
theorem k89_18 : At 89 18 ls (.ref 39 :: st) I J Q ↔ At 89 21 ls (.int (I 39 6) :: st) I J Q := A_getI (ab_io ci89 (by decide +kernel)) ow89 fq7_186_39
theorem k89_21 : At 89 21 ls st I J Q ↔ At 89 22 ls (.int (-1) :: st) I J Q := A_iconst (ab_io ci89 (by decide +kernel)) ic_m1
theorem k89_22 : At 89 22 ls (.int x1 :: .int x :: st) I J Q ↔ if ¬ x = x1 then At 89 37 ls st I J Q else At 89 25 ls st I J Q := A_if_icmp_ne (o := 15) (ab_io ci89 (by decide +kernel)) (by decide)
theorem k89_25 : At 89 25 [some (.ref r), a1] st I J Q ↔ At 89 26 [some (.ref r), a1] (.ref r :: st) I J Q := A_aload_n (q := 0) (ab_io ci89 (by decide +kernel)) rfl
theorem k89_26 : At 89 26 ls (.ref 0 :: st) I J Q ↔ At 89 29 ls (.ref 5 :: st) I J Q := A_getR (ab_io ci89 (by decide +kernel)) ow89 fq7_19_0
theorem k89_29_5 : At 89 29 ls (.ref 5 :: st) I J Q ↔ At 89 32 ls (.ref 7 :: st) I J Q := A_getR (ab_io ci89 (by decide +kernel)) ow89 fq7_152_5
theorem k89_29_17 : At 89 29 ls (.ref 17 :: st) I J Q ↔ At 89 32 ls (.ref 19 :: st) I J Q := A_getR (ab_io ci89 (by decide +kernel)) ow89 fq7_152_17
theorem k89_32 : At 89 32 [a0, some (.int x)] st I J Q ↔ At 89 33 [a0, some (.int x)] (.int x :: st) I J Q := A_iload_n (q := 1) (ab_io ci89 (by decide +kernel)) rfl
theorem k89_33 : At 89 33 ls (.int x :: .ref r :: st) I J Q ↔ ((ab_ly r).1 = 1 ∧ r < 75 ∧ 0 ≤ x.toInt ∧ x.toInt < (ab_ly r).2) ∧ At 89 34 ls (.int (I r x.toNatClampNeg) :: st) I J Q := A_iaload (ab_io ci89 (by decide +kernel))
theorem k89_34 : At 89 34 ls (.int x :: st) I J Q ↔ if ¬ x = 0 then At 89 40 ls st I J Q else At 89 37 ls st I J Q := A_ifCond_ne (o := 6) (ab_io ci89 (by decide +kernel)) (by decide)
theorem k89_37 : At 89 37 ls st I J Q ↔ At 89 39 ls (.int (-3) :: st) I J Q := A_bipush (ab_io ci89 (by decide +kernel)) bc_m3
theorem k89_39 : At 89 39 ls [.int x] I J Q ↔ Q (some (.int x)) I J := A_iret (ab_io ci89 (by decide +kernel)) rt89
theorem k89_40 : At 89 40 [some (.ref r), a1] st I J Q ↔ At 89 41 [some (.ref r), a1] (.ref r :: st) I J Q := A_aload_n (q := 0) (ab_io ci89 (by decide +kernel)) rfl
theorem k89_41 : At 89 41 [a0, some (.int x)] st I J Q ↔ At 89 42 [a0, some (.int x)] (.int x :: st) I J Q := A_iload_n (q := 1) (ab_io ci89 (by decide +kernel)) rfl
theorem k89_42 : At 89 42 ls st I J Q ↔ At 89 43 ls (.int (nI 0) :: st) I J Q := A_iconst (ab_io ci89 (by decide +kernel)) ic_0
theorem k89_43 : At 89 43 ls [.int p0, .int p1, .ref 0] I J Q ↔ Cal 112 [.ref 0, .int p1, .int p0] I J (fun v I' J' => At 89 46 ls (v.toList ++ []) I' J' Q) := A_cal (kd := 0) (j := 189) (na := 3) (ea := 3) (rk := 0) (by decide +kernel) rfl rfl rfl (Or.inr rfl) (Nat.le_of_ble_eq_true rfl)
theorem k89_46 : At 89 46 ls [.int x] I J Q ↔ Q (some (.int x)) I J := A_iret (ab_io ci89 (by decide +kernel)) rt89
theorem k90_0 : At 90 0 [some (.ref r), a1, a2, a3] st I J Q ↔ At 90 1 [some (.ref r), a1, a2, a3] (.ref r :: st) I J Q := A_aload_n (q := 0) (ab_io ci90 (by decide +kernel)) rfl
theorem k90_1 : At 90 1 [a0, some (.int x), a2, a3] st I J Q ↔ At 90 2 [a0, some (.int x), a2, a3] (.int x :: st) I J Q := A_iload_n (q := 1) (ab_io ci90 (by decide +kernel)) rfl
theorem k90_2 : At 90 2 ls [.int p0, .ref 0] I J Q ↔ Cal 89 [.ref 0, .int p0] I J (fun v I' J' => At 90 5 ls (v.toList ++ []) I' J' Q) := A_cal (kd := 0) (j := 192) (na := 2) (ea := 2) (rk := 0) (by decide +kernel) rfl rfl rfl (Or.inr rfl) (Nat.le_of_ble_eq_true rfl)
theorem k90_5 : At 90 5 [a0, a1, a2, a3] (.int x :: st) I J Q ↔ At 90 6 [a0, ab_nv a1, some (.int x), a3] st I J Q := A_istore_n (q := 2) (ab_io ci90 (by decide +kernel)) (Nat.le_of_ble_eq_true rfl) rfl
theorem k90_6 : At 90 6 [a0, a1, some (.int x), a3] st I J Q ↔ At 90 7 [a0, a1, some (.int x), a3] (.int x :: st) I J Q := A_iload_n (q := 2) (ab_io ci90 (by decide +kernel)) rfl
theorem k90_7 : At 90 7 ls (.int x :: st) I J Q ↔ if 0 ≤ x then At 90 12 ls st I J Q else At 90 10 ls st I J Q := A_ifCond_ge (o := 5) (ab_io ci90 (by decide +kernel)) (by decide)
theorem k90_10 : At 90 10 [a0, a1, some (.int x), a3] st I J Q ↔ At 90 11 [a0, a1, some (.int x), a3] (.int x :: st) I J Q := A_iload_n (q := 2) (ab_io ci90 (by decide +kernel)) rfl
theorem k90_11 : At 90 11 ls [.int x] I J Q ↔ Q (some (.int x)) I J := A_iret (ab_io ci90 (by decide +kernel)) rt90
theorem k90_12 : At 90 12 [some (.ref r), a1, a2, a3] st I J Q ↔ At 90 13 [some (.ref r), a1, a2, a3] (.ref r :: st) I J Q := A_aload_n (q := 0) (ab_io ci90 (by decide +kernel)) rfl
theorem k90_13 : At 90 13 ls (.ref 0 :: st) I J Q ↔ At 90 16 ls (.ref 39 :: st) I J Q := A_getR (ab_io ci90 (by decide +kernel)) ow90 fq7_50_0
theorem k90_16 : At 90 16 [some (.ref r), a1, a2, a3] st I J Q ↔ At 90 17 [some (.ref r), a1, a2, a3] (.ref r :: st) I J Q := A_aload_n (q := 0) (ab_io ci90 (by decide +kernel)) rfl
theorem k90_17 : At 90 17 ls (.ref 0 :: st) I J Q ↔ At 90 20 ls (.ref 5 :: st) I J Q := A_getR (ab_io ci90 (by decide +kernel)) ow90 fq7_19_0
theorem k90_20 : At 90 20 [a0, some (.int x), a2, a3] st I J Q ↔ At 90 21 [a0, some (.int x), a2, a3] (.int x :: st) I J Q := A_iload_n (q := 1) (ab_io ci90 (by decide +kernel)) rfl
theorem k90_21_5 : At 90 21 ls [.int p0, .ref 5, .ref qr0] I J Q ↔ Cal 29 [.ref 5, .int p0] I J (fun v I' J' => At 90 24 ls (v.toList ++ [.ref qr0]) I' J' Q) := A_cal (kd := 0) (j := 195) (na := 2) (ea := 2) (rk := 5) (by decide +kernel) rfl rfl rfl (Or.inr rfl) (Nat.le_of_ble_eq_true rfl)
theorem k90_21_17 : At 90 21 ls [.int p0, .ref 17, .ref qr0] I J Q ↔ Cal 29 [.ref 17, .int p0] I J (fun v I' J' => At 90 24 ls (v.toList ++ [.ref qr0]) I' J' Q) := A_cal (kd := 0) (j := 195) (na := 2) (ea := 2) (rk := 17) (by decide +kernel) rfl rfl rfl (Or.inr rfl) (Nat.le_of_ble_eq_true rfl)
theorem k90_24 : At 90 24 [some (.ref r), a1, a2, a3] st I J Q ↔ At 90 25 [some (.ref r), a1, a2, a3] (.ref r :: st) I J Q := A_aload_n (q := 0) (ab_io ci90 (by decide +kernel)) rfl
theorem k90_25 : At 90 25 ls (.ref 0 :: st) I J Q ↔ At 90 28 ls (.ref 5 :: st) I J Q := A_getR (ab_io ci90 (by decide +kernel)) ow90 fq7_19_0
theorem k90_28_5 : At 90 28 ls (.ref 5 :: st) I J Q ↔ At 90 31 ls (.ref 7 :: st) I J Q := A_getR (ab_io ci90 (by decide +kernel)) ow90 fq7_152_5
theorem k90_28_17 : At 90 28 ls (.ref 17 :: st) I J Q ↔ At 90 31 ls (.ref 19 :: st) I J Q := A_getR (ab_io ci90 (by decide +kernel)) ow90 fq7_152_17
theorem k90_31 : At 90 31 [a0, some (.int x), a2, a3] st I J Q ↔ At 90 32 [a0, some (.int x), a2, a3] (.int x :: st) I J Q := A_iload_n (q := 1) (ab_io ci90 (by decide +kernel)) rfl
theorem k90_32 : At 90 32 ls (.int x :: .ref r :: st) I J Q ↔ ((ab_ly r).1 = 1 ∧ r < 75 ∧ 0 ≤ x.toInt ∧ x.toInt < (ab_ly r).2) ∧ At 90 33 ls (.int (I r x.toNatClampNeg) :: st) I J Q := A_iaload (ab_io ci90 (by decide +kernel))
theorem k90_33 : At 90 33 ls [.int p0, .long qu0, .ref qr1] I J Q ↔ Cal 202 [.int p0] I J (fun v I' J' => At 90 36 ls (v.toList ++ [.long qu0, .ref qr1]) I' J' Q) := A_cal (kd := 1) (j := 198) (na := 1) (ea := 1) (rk := 0) (by decide +kernel) rfl rfl rfl (Or.inl rfl) (Nat.le_of_ble_eq_true rfl)
theorem k90_36 : At 90 36 ls (.int x :: st) I J Q ↔ At 90 37 ls (.long x.toInt64 :: st) I J Q := A_i2l (ab_io ci90 (by decide +kernel))
theorem k90_37 : At 90 37 ls st I J Q ↔ At 90 38 ls (.int (nI 0) :: st) I J Q := A_iconst (ab_io ci90 (by decide +kernel)) ic_0
theorem k90_38 : At 90 38 ls [.int p0, .long pu1, .long pu2, .ref 39] I J Q ↔ Cal 51 [.ref 39, .long pu2, .long pu1, .int p0] I J (fun v I' J' => At 90 41 ls (v.toList ++ []) I' J' Q) := A_cal (kd := 0) (j := 203) (na := 4) (ea := 6) (rk := 39) (by decide +kernel) rfl rfl rfl (Or.inr rfl) (Nat.le_of_ble_eq_true rfl)
theorem k90_41 : At 90 41 [a0, a1, a2, a3] (.int x :: st) I J Q ↔ At 90 42 [a0, a1, ab_nv a2, some (.int x)] st I J Q := A_istore_n (q := 3) (ab_io ci90 (by decide +kernel)) (Nat.le_of_ble_eq_true rfl) rfl
theorem k90_42 : At 90 42 [a0, a1, a2, some (.int x)] st I J Q ↔ At 90 43 [a0, a1, a2, some (.int x)] (.int x :: st) I J Q := A_iload_n (q := 3) (ab_io ci90 (by decide +kernel)) rfl
theorem k90_43 : At 90 43 [a0, a1, some (.int x), a3] st I J Q ↔ At 90 44 [a0, a1, some (.int x), a3] (.int x :: st) I J Q := A_iload_n (q := 2) (ab_io ci90 (by decide +kernel)) rfl
theorem k90_44 : At 90 44 ls (.int x1 :: .int x :: st) I J Q ↔ if x = x1 then At 90 51 ls st I J Q else At 90 47 ls st I J Q := A_if_icmp_eq (o := 7) (ab_io ci90 (by decide +kernel)) (by decide)
theorem k90_47 : At 90 47 ls st I J Q ↔ At 90 48 ls (.int (nI 1) :: st) I J Q := A_iconst (ab_io ci90 (by decide +kernel)) ic_1
theorem k90_48 : At 90 48 ls st I J Q ↔ At 90 52 ls st I J Q := A_goto (o := 4) (ab_io ci90 (by decide +kernel)) (by decide)
theorem k90_51 : At 90 51 ls st I J Q ↔ At 90 52 ls (.int (nI 0) :: st) I J Q := A_iconst (ab_io ci90 (by decide +kernel)) ic_0
theorem k90_52 : At 90 52 ls [.int x] I J Q ↔ Q (some (.int x)) I J := A_iret (ab_io ci90 (by decide +kernel)) rt90
theorem k91_0 : At 91 0 [a0, some (.int x), a2, a3, a4] st I J Q ↔ At 91 1 [a0, some (.int x), a2, a3, a4] (.int x :: st) I J Q := A_iload_n (q := 1) (ab_io ci91 (by decide +kernel)) rfl
theorem k91_1 : At 91 1 ls [.int p0] I J Q ↔ Cal 117 [.int p0] I J (fun v I' J' => At 91 4 ls (v.toList ++ []) I' J' Q) := A_cal (kd := 1) (j := 80) (na := 1) (ea := 1) (rk := 0) (by decide +kernel) rfl rfl rfl (Or.inl rfl) (Nat.le_of_ble_eq_true rfl)
theorem k91_4 : At 91 4 ls (.int x :: st) I J Q ↔ if x = 0 then At 91 21 ls st I J Q else At 91 7 ls st I J Q := A_ifCond_eq (o := 17) (ab_io ci91 (by decide +kernel)) (by decide)
theorem k91_7 : At 91 7 [a0, a1, some (.int x), a3, a4] st I J Q ↔ At 91 8 [a0, a1, some (.int x), a3, a4] (.int x :: st) I J Q := A_iload_n (q := 2) (ab_io ci91 (by decide +kernel)) rfl
theorem k91_8 : At 91 8 ls st I J Q ↔ At 91 11 ls (.int (-1000) :: st) I J Q := A_sipush (ab_io ci91 (by decide +kernel)) sc_m1000
theorem k91_11 : At 91 11 ls (.int x1 :: .int x :: st) I J Q ↔ if x < x1 then At 91 21 ls st I J Q else At 91 14 ls st I J Q := A_if_icmp_lt (o := 10) (ab_io ci91 (by decide +kernel)) (by decide)
theorem k91_14 : At 91 14 [a0, a1, some (.int x), a3, a4] st I J Q ↔ At 91 15 [a0, a1, some (.int x), a3, a4] (.int x :: st) I J Q := A_iload_n (q := 2) (ab_io ci91 (by decide +kernel)) rfl
theorem k91_15 : At 91 15 ls st I J Q ↔ At 91 18 ls (.int (nI 1000) :: st) I J Q := A_sipush (ab_io ci91 (by decide +kernel)) sc_1000
theorem k91_18 : At 91 18 ls (.int x1 :: .int x :: st) I J Q ↔ if x ≤ x1 then At 91 24 ls st I J Q else At 91 21 ls st I J Q := A_if_icmp_le (o := 6) (ab_io ci91 (by decide +kernel)) (by decide)
theorem k91_21 : At 91 21 ls st I J Q ↔ At 91 23 ls (.int (-2) :: st) I J Q := A_bipush (ab_io ci91 (by decide +kernel)) bc_m2
theorem k91_23 : At 91 23 ls [.int x] I J Q ↔ Q (some (.int x)) I J := A_iret (ab_io ci91 (by decide +kernel)) rt91
theorem k91_24 : At 91 24 [some (.ref r), a1, a2, a3, a4] st I J Q ↔ At 91 25 [some (.ref r), a1, a2, a3, a4] (.ref r :: st) I J Q := A_aload_n (q := 0) (ab_io ci91 (by decide +kernel)) rfl
theorem k91_25 : At 91 25 ls [.ref 0] I J Q ↔ Cal 110 [.ref 0] I J (fun v I' J' => At 91 28 ls (v.toList ++ []) I' J' Q) := A_cal (kd := 0) (j := 121) (na := 1) (ea := 1) (rk := 0) (by decide +kernel) rfl rfl rfl (Or.inr rfl) (Nat.le_of_ble_eq_true rfl)
theorem k91_28 : At 91 28 [some (.ref r), a1, a2, a3, a4] st I J Q ↔ At 91 29 [some (.ref r), a1, a2, a3, a4] (.ref r :: st) I J Q := A_aload_n (q := 0) (ab_io ci91 (by decide +kernel)) rfl
theorem k91_29 : At 91 29 ls (.ref 0 :: st) I J Q ↔ At 91 32 ls (.ref 39 :: st) I J Q := A_getR (ab_io ci91 (by decide +kernel)) ow91 fq7_50_0
theorem k91_32 : At 91 32 ls (.ref 39 :: st) I J Q ↔ At 91 35 ls (.int (I 39 6) :: st) I J Q := A_getI (ab_io ci91 (by decide +kernel)) ow91 fq7_186_39
theorem k91_35 : At 91 35 ls st I J Q ↔ At 91 36 ls (.int (-1) :: st) I J Q := A_iconst (ab_io ci91 (by decide +kernel)) ic_m1
theorem k91_36 : At 91 36 ls (.int x1 :: .int x :: st) I J Q ↔ if ¬ x = x1 then At 91 52 ls st I J Q else At 91 39 ls st I J Q := A_if_icmp_ne (o := 16) (ab_io ci91 (by decide +kernel)) (by decide)
theorem k91_39 : At 91 39 [some (.ref r), a1, a2, a3, a4] st I J Q ↔ At 91 40 [some (.ref r), a1, a2, a3, a4] (.ref r :: st) I J Q := A_aload_n (q := 0) (ab_io ci91 (by decide +kernel)) rfl
theorem k91_40 : At 91 40 ls (.ref 0 :: st) I J Q ↔ At 91 43 ls (.ref 5 :: st) I J Q := A_getR (ab_io ci91 (by decide +kernel)) ow91 fq7_19_0
theorem k91_43_5 : At 91 43 ls (.ref 5 :: st) I J Q ↔ At 91 46 ls (.ref 10 :: st) I J Q := A_getR (ab_io ci91 (by decide +kernel)) ow91 fq7_130_5
theorem k91_43_17 : At 91 43 ls (.ref 17 :: st) I J Q ↔ At 91 46 ls (.ref 22 :: st) I J Q := A_getR (ab_io ci91 (by decide +kernel)) ow91 fq7_130_17
theorem k91_46 : At 91 46 [a0, some (.int x), a2, a3, a4] st I J Q ↔ At 91 47 [a0, some (.int x), a2, a3, a4] (.int x :: st) I J Q := A_iload_n (q := 1) (ab_io ci91 (by decide +kernel)) rfl
theorem k91_47 : At 91 47 ls (.int x :: .ref r :: st) I J Q ↔ ((ab_ly r).1 = 1 ∧ r < 75 ∧ 0 ≤ x.toInt ∧ x.toInt < (ab_ly r).2) ∧ At 91 48 ls (.int (I r x.toNatClampNeg) :: st) I J Q := A_iaload (ab_io ci91 (by decide +kernel))
theorem k91_48 : At 91 48 [a0, some (.int x), a2, a3, a4] st I J Q ↔ At 91 49 [a0, some (.int x), a2, a3, a4] (.int x :: st) I J Q := A_iload_n (q := 1) (ab_io ci91 (by decide +kernel)) rfl
theorem k91_49 : At 91 49 ls (.int x1 :: .int x :: st) I J Q ↔ if x = x1 then At 91 55 ls st I J Q else At 91 52 ls st I J Q := A_if_icmp_eq (o := 6) (ab_io ci91 (by decide +kernel)) (by decide)
theorem k91_52 : At 91 52 ls st I J Q ↔ At 91 54 ls (.int (-3) :: st) I J Q := A_bipush (ab_io ci91 (by decide +kernel)) bc_m3
theorem k91_54 : At 91 54 ls [.int x] I J Q ↔ Q (some (.int x)) I J := A_iret (ab_io ci91 (by decide +kernel)) rt91
theorem k91_55 : At 91 55 ls st I J Q ↔ At 91 56 ls (.int (nI 0) :: st) I J Q := A_iconst (ab_io ci91 (by decide +kernel)) ic_0
theorem k91_56 : At 91 56 [a0, a1, a2, a3, a4] (.int x :: st) I J Q ↔ At 91 57 [a0, a1, ab_nv a2, some (.int x), a4] st I J Q := A_istore_n (q := 3) (ab_io ci91 (by decide +kernel)) (Nat.le_of_ble_eq_true rfl) rfl
theorem k91_57 : At 91 57 ls st I J Q ↔ At 91 58 ls (.int (nI 0) :: st) I J Q := A_iconst (ab_io ci91 (by decide +kernel)) ic_0
theorem k91_58 : At 91 58 [a0, a1, a2, a3, a4] (.int x :: st) I J Q ↔ At 91 60 [a0, a1, a2, ab_nv a3, some (.int x)] st I J Q := A_istore (q := 4) (ab_io ci91 (by decide +kernel)) (Nat.le_of_ble_eq_true rfl) rfl
theorem k91_60 : At 91 60 [a0, a1, a2, a3, some (.int x)] st I J Q ↔ At 91 62 [a0, a1, a2, a3, some (.int x)] (.int x :: st) I J Q := A_iload (q := 4) (ab_io ci91 (by decide +kernel)) rfl
theorem k91_62 : At 91 62 ls st I J Q ↔ At 91 64 ls (.int (nI 12) :: st) I J Q := A_bipush (ab_io ci91 (by decide +kernel)) bc_12
theorem k91_64 : At 91 64 ls (.int x1 :: .int x :: st) I J Q ↔ if x1 ≤ x then At 91 107 ls st I J Q else At 91 67 ls st I J Q := A_if_icmp_ge (o := 43) (ab_io ci91 (by decide +kernel)) (by decide)
theorem k91_67 : At 91 67 [some (.ref r), a1, a2, a3, a4] st I J Q ↔ At 91 68 [some (.ref r), a1, a2, a3, a4] (.ref r :: st) I J Q := A_aload_n (q := 0) (ab_io ci91 (by decide +kernel)) rfl
theorem k91_68 : At 91 68 ls (.ref 0 :: st) I J Q ↔ At 91 71 ls (.ref 5 :: st) I J Q := A_getR (ab_io ci91 (by decide +kernel)) ow91 fq7_19_0
theorem k91_71_5 : At 91 71 ls (.ref 5 :: st) I J Q ↔ At 91 74 ls (.ref 11 :: st) I J Q := A_getR (ab_io ci91 (by decide +kernel)) ow91 fq7_127_5
theorem k91_71_17 : At 91 71 ls (.ref 17 :: st) I J Q ↔ At 91 74 ls (.ref 23 :: st) I J Q := A_getR (ab_io ci91 (by decide +kernel)) ow91 fq7_127_17
theorem k91_74 : At 91 74 [a0, a1, a2, a3, some (.int x)] st I J Q ↔ At 91 76 [a0, a1, a2, a3, some (.int x)] (.int x :: st) I J Q := A_iload (q := 4) (ab_io ci91 (by decide +kernel)) rfl
theorem k91_76 : At 91 76 ls (.int x :: .ref r :: st) I J Q ↔ ((ab_ly r).1 = 1 ∧ r < 75 ∧ 0 ≤ x.toInt ∧ x.toInt < (ab_ly r).2) ∧ At 91 77 ls (.int (I r x.toNatClampNeg) :: st) I J Q := A_iaload (ab_io ci91 (by decide +kernel))
theorem k91_77 : At 91 77 [a0, some (.int x), a2, a3, a4] st I J Q ↔ At 91 78 [a0, some (.int x), a2, a3, a4] (.int x :: st) I J Q := A_iload_n (q := 1) (ab_io ci91 (by decide +kernel)) rfl
theorem k91_78 : At 91 78 ls (.int x1 :: .int x :: st) I J Q ↔ if ¬ x = x1 then At 91 101 ls st I J Q else At 91 81 ls st I J Q := A_if_icmp_ne (o := 23) (ab_io ci91 (by decide +kernel)) (by decide)
theorem k91_81 : At 91 81 [some (.ref r), a1, a2, a3, a4] st I J Q ↔ At 91 82 [some (.ref r), a1, a2, a3, a4] (.ref r :: st) I J Q := A_aload_n (q := 0) (ab_io ci91 (by decide +kernel)) rfl
theorem k91_82 : At 91 82 [a0, a1, a2, a3, some (.int x)] st I J Q ↔ At 91 84 [a0, a1, a2, a3, some (.int x)] (.int x :: st) I J Q := A_iload (q := 4) (ab_io ci91 (by decide +kernel)) rfl
theorem k91_84 : At 91 84 [a0, a1, some (.int x), a3, a4] st I J Q ↔ At 91 85 [a0, a1, some (.int x), a3, a4] (.int x :: st) I J Q := A_iload_n (q := 2) (ab_io ci91 (by decide +kernel)) rfl
theorem k91_85 : At 91 85 ls [.int p0, .int p1, .ref 0] I J Q ↔ Cal 112 [.ref 0, .int p1, .int p0] I J (fun v I' J' => At 91 88 ls (v.toList ++ []) I' J' Q) := A_cal (kd := 0) (j := 189) (na := 3) (ea := 3) (rk := 0) (by decide +kernel) rfl rfl rfl (Or.inr rfl) (Nat.le_of_ble_eq_true rfl)
theorem k91_88 : At 91 88 [some (.ref r), a1, a2, a3, a4] st I J Q ↔ At 91 89 [some (.ref r), a1, a2, a3, a4] (.ref r :: st) I J Q := A_aload_n (q := 0) (ab_io ci91 (by decide +kernel)) rfl
theorem k91_89 : At 91 89 [a0, a1, a2, a3, some (.int x)] st I J Q ↔ At 91 91 [a0, a1, a2, a3, some (.int x)] (.int x :: st) I J Q := A_iload (q := 4) (ab_io ci91 (by decide +kernel)) rfl
theorem k91_91 : At 91 91 ls st I J Q ↔ At 91 92 ls (.int (nI 0) :: st) I J Q := A_iconst (ab_io ci91 (by decide +kernel)) ic_0
theorem k91_92 : At 91 92 ls [.int p0, .int p1, .ref 0, .int q0] I J Q ↔ Cal 112 [.ref 0, .int p1, .int p0] I J (fun v I' J' => At 91 95 ls (v.toList ++ [.int q0]) I' J' Q) := A_cal (kd := 0) (j := 189) (na := 3) (ea := 3) (rk := 0) (by decide +kernel) rfl rfl rfl (Or.inr rfl) (Nat.le_of_ble_eq_true rfl)
theorem k91_95 : At 91 95 ls (.int x1 :: .int x :: st) I J Q ↔ if x = x1 then At 91 101 ls st I J Q else At 91 98 ls st I J Q := A_if_icmp_eq (o := 6) (ab_io ci91 (by decide +kernel)) (by decide)
theorem k91_98 : At 91 98 [a0, a1, a2, some (.int x), a4] st I J Q ↔ At 91 101 [a0, a1, ab_nv a2, some (.int (x + (nI 1))), a4] st I J Q := A_iinc (q := 3) (ab_io ci91 (by decide +kernel)) ic_1 (Nat.le_of_ble_eq_true rfl) rfl rfl
theorem k91_101 : At 91 101 [a0, a1, a2, a3, some (.int x)] st I J Q ↔ At 91 104 [a0, a1, a2, ab_nv a3, some (.int (x + (nI 1)))] st I J Q := A_iinc (q := 4) (ab_io ci91 (by decide +kernel)) ic_1 (Nat.le_of_ble_eq_true rfl) rfl rfl
theorem k91_104 : At 91 104 ls st I J Q ↔ At 91 60 ls st I J Q := A_goto (o := (-44)) (ab_io ci91 (by decide +kernel)) (by decide)
theorem k91_107 : At 91 107 [a0, a1, a2, some (.int x), a4] st I J Q ↔ At 91 108 [a0, a1, a2, some (.int x), a4] (.int x :: st) I J Q := A_iload_n (q := 3) (ab_io ci91 (by decide +kernel)) rfl
theorem k91_108 : At 91 108 ls [.int x] I J Q ↔ Q (some (.int x)) I J := A_iret (ab_io ci91 (by decide +kernel)) rt91
theorem k92_0 : At 92 0 [a0, some (.int x), a2, a3] st I J Q ↔ At 92 1 [a0, some (.int x), a2, a3] (.int x :: st) I J Q := A_iload_n (q := 1) (ab_io ci92 (by decide +kernel)) rfl
theorem k92_1 : At 92 1 ls [.int p0] I J Q ↔ Cal 116 [.int p0] I J (fun v I' J' => At 92 4 ls (v.toList ++ []) I' J' Q) := A_cal (kd := 1) (j := 76) (na := 1) (ea := 1) (rk := 0) (by decide +kernel) rfl rfl rfl (Or.inl rfl) (Nat.le_of_ble_eq_true rfl)
theorem k92_4 : At 92 4 ls (.int x :: st) I J Q ↔ if x = 0 then At 92 26 ls st I J Q else At 92 7 ls st I J Q := A_ifCond_eq (o := 22) (ab_io ci92 (by decide +kernel)) (by decide)
theorem k92_7 : At 92 7 [a0, a1, some (.int x), a3] st I J Q ↔ At 92 8 [a0, a1, some (.int x), a3] (.int x :: st) I J Q := A_iload_n (q := 2) (ab_io ci92 (by decide +kernel)) rfl
theorem k92_8 : At 92 8 ls [.int p0] I J Q ↔ Cal 116 [.int p0] I J (fun v I' J' => At 92 11 ls (v.toList ++ []) I' J' Q) := A_cal (kd := 1) (j := 76) (na := 1) (ea := 1) (rk := 0) (by decide +kernel) rfl rfl rfl (Or.inl rfl) (Nat.le_of_ble_eq_true rfl)
theorem k92_11 : At 92 11 ls (.int x :: st) I J Q ↔ if x = 0 then At 92 26 ls st I J Q else At 92 14 ls st I J Q := A_ifCond_eq (o := 15) (ab_io ci92 (by decide +kernel)) (by decide)
theorem k92_14 : At 92 14 [a0, some (.int x), a2, a3] st I J Q ↔ At 92 15 [a0, some (.int x), a2, a3] (.int x :: st) I J Q := A_iload_n (q := 1) (ab_io ci92 (by decide +kernel)) rfl
theorem k92_15 : At 92 15 [a0, a1, some (.int x), a3] st I J Q ↔ At 92 16 [a0, a1, some (.int x), a3] (.int x :: st) I J Q := A_iload_n (q := 2) (ab_io ci92 (by decide +kernel)) rfl
theorem k92_16 : At 92 16 ls (.int x1 :: .int x :: st) I J Q ↔ if x = x1 then At 92 26 ls st I J Q else At 92 19 ls st I J Q := A_if_icmp_eq (o := 10) (ab_io ci92 (by decide +kernel)) (by decide)
theorem k92_19 : At 92 19 [a0, a1, a2, some (.int x)] st I J Q ↔ At 92 20 [a0, a1, a2, some (.int x)] (.int x :: st) I J Q := A_iload_n (q := 3) (ab_io ci92 (by decide +kernel)) rfl
theorem k92_20 : At 92 20 ls [.int p0] I J Q ↔ Cal 120 [.int p0] I J (fun v I' J' => At 92 23 ls (v.toList ++ []) I' J' Q) := A_cal (kd := 1) (j := 133) (na := 1) (ea := 1) (rk := 0) (by decide +kernel) rfl rfl rfl (Or.inl rfl) (Nat.le_of_ble_eq_true rfl)
theorem k92_23 : At 92 23 ls (.int x :: st) I J Q ↔ if ¬ x = 0 then At 92 32 ls st I J Q else At 92 26 ls st I J Q := A_ifCond_ne (o := 9) (ab_io ci92 (by decide +kernel)) (by decide)
theorem k92_26 : At 92 26 ls st I J Q ↔ At 92 28 ls (.int (-2) :: st) I J Q := A_bipush (ab_io ci92 (by decide +kernel)) bc_m2
theorem k92_28 : At 92 28 ls [.int p0] I J Q ↔ Cal 121 [.int p0] I J (fun v I' J' => At 92 31 ls (v.toList ++ []) I' J' Q) := A_cal (kd := 1) (j := 136) (na := 1) (ea := 1) (rk := 0) (by decide +kernel) rfl rfl rfl (Or.inl rfl) (Nat.le_of_ble_eq_true rfl)
theorem k92_31 : At 92 31 ls [.long u] I J Q ↔ Q (some (.long u)) I J := A_lret (ab_io ci92 (by decide +kernel)) rt92
theorem k92_32 : At 92 32 [some (.ref r), a1, a2, a3] st I J Q ↔ At 92 33 [some (.ref r), a1, a2, a3] (.ref r :: st) I J Q := A_aload_n (q := 0) (ab_io ci92 (by decide +kernel)) rfl
theorem k92_33 : At 92 33 ls [.ref 0] I J Q ↔ Cal 110 [.ref 0] I J (fun v I' J' => At 92 36 ls (v.toList ++ []) I' J' Q) := A_cal (kd := 0) (j := 121) (na := 1) (ea := 1) (rk := 0) (by decide +kernel) rfl rfl rfl (Or.inr rfl) (Nat.le_of_ble_eq_true rfl)
theorem k92_36 : At 92 36 [some (.ref r), a1, a2, a3] st I J Q ↔ At 92 37 [some (.ref r), a1, a2, a3] (.ref r :: st) I J Q := A_aload_n (q := 0) (ab_io ci92 (by decide +kernel)) rfl
theorem k92_37 : At 92 37 ls (.ref 0 :: st) I J Q ↔ At 92 40 ls (.ref 5 :: st) I J Q := A_getR (ab_io ci92 (by decide +kernel)) ow92 fq7_19_0
theorem k92_40 : At 92 40 [a0, some (.int x), a2, a3] st I J Q ↔ At 92 41 [a0, some (.int x), a2, a3] (.int x :: st) I J Q := A_iload_n (q := 1) (ab_io ci92 (by decide +kernel)) rfl
theorem k92_41 : At 92 41 [a0, a1, some (.int x), a3] st I J Q ↔ At 92 42 [a0, a1, some (.int x), a3] (.int x :: st) I J Q := A_iload_n (q := 2) (ab_io ci92 (by decide +kernel)) rfl
theorem k92_42_5 : At 92 42 ls [.int p0, .int p1, .ref 5] I J Q ↔ Cal 32 [.ref 5, .int p1, .int p0] I J (fun v I' J' => At 92 45 ls (v.toList ++ []) I' J' Q) := A_cal (kd := 0) (j := 207) (na := 3) (ea := 3) (rk := 5) (by decide +kernel) rfl rfl rfl (Or.inr rfl) (Nat.le_of_ble_eq_true rfl)
theorem k92_42_17 : At 92 42 ls [.int p0, .int p1, .ref 17] I J Q ↔ Cal 32 [.ref 17, .int p1, .int p0] I J (fun v I' J' => At 92 45 ls (v.toList ++ []) I' J' Q) := A_cal (kd := 0) (j := 207) (na := 3) (ea := 3) (rk := 17) (by decide +kernel) rfl rfl rfl (Or.inr rfl) (Nat.le_of_ble_eq_true rfl)
theorem k92_45 : At 92 45 ls (.int x :: st) I J Q ↔ if ¬ x = 0 then At 92 54 ls st I J Q else At 92 48 ls st I J Q := A_ifCond_ne (o := 9) (ab_io ci92 (by decide +kernel)) (by decide)
theorem k92_48 : At 92 48 ls st I J Q ↔ At 92 50 ls (.int (-3) :: st) I J Q := A_bipush (ab_io ci92 (by decide +kernel)) bc_m3
theorem k92_50 : At 92 50 ls [.int p0] I J Q ↔ Cal 121 [.int p0] I J (fun v I' J' => At 92 53 ls (v.toList ++ []) I' J' Q) := A_cal (kd := 1) (j := 136) (na := 1) (ea := 1) (rk := 0) (by decide +kernel) rfl rfl rfl (Or.inl rfl) (Nat.le_of_ble_eq_true rfl)
theorem k92_53 : At 92 53 ls [.long u] I J Q ↔ Q (some (.long u)) I J := A_lret (ab_io ci92 (by decide +kernel)) rt92
theorem k92_54 : At 92 54 [some (.ref r), a1, a2, a3] st I J Q ↔ At 92 55 [some (.ref r), a1, a2, a3] (.ref r :: st) I J Q := A_aload_n (q := 0) (ab_io ci92 (by decide +kernel)) rfl
theorem k92_55 : At 92 55 ls (.ref 0 :: st) I J Q ↔ At 92 58 ls (.ref 5 :: st) I J Q := A_getR (ab_io ci92 (by decide +kernel)) ow92 fq7_19_0
theorem k92_58 : At 92 58 [a0, some (.int x), a2, a3] st I J Q ↔ At 92 59 [a0, some (.int x), a2, a3] (.int x :: st) I J Q := A_iload_n (q := 1) (ab_io ci92 (by decide +kernel)) rfl
theorem k92_59 : At 92 59 [a0, a1, some (.int x), a3] st I J Q ↔ At 92 60 [a0, a1, some (.int x), a3] (.int x :: st) I J Q := A_iload_n (q := 2) (ab_io ci92 (by decide +kernel)) rfl
theorem k92_60_5 : At 92 60 ls [.int p0, .int p1, .ref 5] I J Q ↔ Cal 33 [.ref 5, .int p1, .int p0] I J (fun v I' J' => At 92 63 ls (v.toList ++ []) I' J' Q) := A_cal (kd := 0) (j := 211) (na := 3) (ea := 3) (rk := 5) (by decide +kernel) rfl rfl rfl (Or.inr rfl) (Nat.le_of_ble_eq_true rfl)
theorem k92_60_17 : At 92 60 ls [.int p0, .int p1, .ref 17] I J Q ↔ Cal 33 [.ref 17, .int p1, .int p0] I J (fun v I' J' => At 92 63 ls (v.toList ++ []) I' J' Q) := A_cal (kd := 0) (j := 211) (na := 3) (ea := 3) (rk := 17) (by decide +kernel) rfl rfl rfl (Or.inr rfl) (Nat.le_of_ble_eq_true rfl)
theorem k92_63 : At 92 63 [some (.ref r), a1, a2, a3] st I J Q ↔ At 92 64 [some (.ref r), a1, a2, a3] (.ref r :: st) I J Q := A_aload_n (q := 0) (ab_io ci92 (by decide +kernel)) rfl
theorem k92_64 : At 92 64 ls (.ref 0 :: st) I J Q ↔ At 92 67 ls (.ref 5 :: st) I J Q := A_getR (ab_io ci92 (by decide +kernel)) ow92 fq7_19_0
theorem k92_67_5 : At 92 67 ls [.ref 5, .long qu0] I J Q ↔ Cal 15 [.ref 5] I J (fun v I' J' => At 92 70 ls (v.toList ++ [.long qu0]) I' J' Q) := A_cal (kd := 0) (j := 158) (na := 1) (ea := 1) (rk := 5) (by decide +kernel) rfl rfl rfl (Or.inr rfl) (Nat.le_of_ble_eq_true rfl)
theorem k92_67_17 : At 92 67 ls [.ref 17, .long qu0] I J Q ↔ Cal 15 [.ref 17] I J (fun v I' J' => At 92 70 ls (v.toList ++ [.long qu0]) I' J' Q) := A_cal (kd := 0) (j := 158) (na := 1) (ea := 1) (rk := 17) (by decide +kernel) rfl rfl rfl (Or.inr rfl) (Nat.le_of_ble_eq_true rfl)
theorem k92_70 : At 92 70 [a0, a1, a2, some (.int x)] st I J Q ↔ At 92 71 [a0, a1, a2, some (.int x)] (.int x :: st) I J Q := A_iload_n (q := 3) (ab_io ci92 (by decide +kernel)) rfl
theorem k92_71 : At 92 71 ls [.int p0, .long pu1, .long pu2] I J Q ↔ Cal 122 [.long pu2, .long pu1, .int p0] I J (fun v I' J' => At 92 74 ls (v.toList ++ []) I' J' Q) := A_cal (kd := 1) (j := 148) (na := 3) (ea := 5) (rk := 0) (by decide +kernel) rfl rfl rfl (Or.inl rfl) (Nat.le_of_ble_eq_true rfl)
theorem k92_74 : At 92 74 ls [.long u] I J Q ↔ Q (some (.long u)) I J := A_lret (ab_io ci92 (by decide +kernel)) rt92
theorem k93_0 : At 93 0 [a0, some (.int x)] st I J Q ↔ At 93 1 [a0, some (.int x)] (.int x :: st) I J Q := A_iload_n (q := 1) (ab_io ci93 (by decide +kernel)) rfl
theorem k93_1 : At 93 1 ls (.int x :: st) I J Q ↔ if x < 0 then At 93 9 ls st I J Q else At 93 4 ls st I J Q := A_ifCond_lt (o := 8) (ab_io ci93 (by decide +kernel)) (by decide)
theorem k93_4 : At 93 4 [a0, some (.int x)] st I J Q ↔ At 93 5 [a0, some (.int x)] (.int x :: st) I J Q := A_iload_n (q := 1) (ab_io ci93 (by decide +kernel)) rfl
theorem k93_5 : At 93 5 ls st I J Q ↔ At 93 6 ls (.int (nI 3) :: st) I J Q := A_iconst (ab_io ci93 (by decide +kernel)) ic_3
theorem k93_6 : At 93 6 ls (.int x1 :: .int x :: st) I J Q ↔ if x ≤ x1 then At 93 15 ls st I J Q else At 93 9 ls st I J Q := A_if_icmp_le (o := 9) (ab_io ci93 (by decide +kernel)) (by decide)
theorem k93_9 : At 93 9 ls st I J Q ↔ At 93 11 ls (.int (-2) :: st) I J Q := A_bipush (ab_io ci93 (by decide +kernel)) bc_m2
theorem k93_11 : At 93 11 ls [.int p0] I J Q ↔ Cal 121 [.int p0] I J (fun v I' J' => At 93 14 ls (v.toList ++ []) I' J' Q) := A_cal (kd := 1) (j := 136) (na := 1) (ea := 1) (rk := 0) (by decide +kernel) rfl rfl rfl (Or.inl rfl) (Nat.le_of_ble_eq_true rfl)
theorem k93_14 : At 93 14 ls [.long u] I J Q ↔ Q (some (.long u)) I J := A_lret (ab_io ci93 (by decide +kernel)) rt93
theorem k93_15 : At 93 15 [some (.ref r), a1] st I J Q ↔ At 93 16 [some (.ref r), a1] (.ref r :: st) I J Q := A_aload_n (q := 0) (ab_io ci93 (by decide +kernel)) rfl
theorem k93_16 : At 93 16 ls [.ref 0] I J Q ↔ Cal 110 [.ref 0] I J (fun v I' J' => At 93 19 ls (v.toList ++ []) I' J' Q) := A_cal (kd := 0) (j := 121) (na := 1) (ea := 1) (rk := 0) (by decide +kernel) rfl rfl rfl (Or.inr rfl) (Nat.le_of_ble_eq_true rfl)
theorem k93_19 : At 93 19 [some (.ref r), a1] st I J Q ↔ At 93 20 [some (.ref r), a1] (.ref r :: st) I J Q := A_aload_n (q := 0) (ab_io ci93 (by decide +kernel)) rfl
theorem k93_20 : At 93 20 ls (.ref 0 :: st) I J Q ↔ At 93 23 ls (.ref 5 :: st) I J Q := A_getR (ab_io ci93 (by decide +kernel)) ow93 fq7_19_0
theorem k93_23_5 : At 93 23 ls [.ref 5] I J Q ↔ Cal 34 [.ref 5] I J (fun v I' J' => At 93 26 ls (v.toList ++ []) I' J' Q) := A_cal (kd := 0) (j := 215) (na := 1) (ea := 1) (rk := 5) (by decide +kernel) rfl rfl rfl (Or.inr rfl) (Nat.le_of_ble_eq_true rfl)
theorem k93_23_17 : At 93 23 ls [.ref 17] I J Q ↔ Cal 34 [.ref 17] I J (fun v I' J' => At 93 26 ls (v.toList ++ []) I' J' Q) := A_cal (kd := 0) (j := 215) (na := 1) (ea := 1) (rk := 17) (by decide +kernel) rfl rfl rfl (Or.inr rfl) (Nat.le_of_ble_eq_true rfl)
theorem k93_26 : At 93 26 [some (.ref r), a1] st I J Q ↔ At 93 27 [some (.ref r), a1] (.ref r :: st) I J Q := A_aload_n (q := 0) (ab_io ci93 (by decide +kernel)) rfl
theorem k93_27 : At 93 27 ls (.ref 0 :: st) I J Q ↔ At 93 30 ls (.ref 5 :: st) I J Q := A_getR (ab_io ci93 (by decide +kernel)) ow93 fq7_19_0
theorem k93_30_5 : At 93 30 ls (.ref 5 :: st) I J Q ↔ At 93 33 ls (.int (I 5 14) :: st) I J Q := A_getI (ab_io ci93 (by decide +kernel)) ow93 fq7_218_5
theorem k93_30_17 : At 93 30 ls (.ref 17 :: st) I J Q ↔ At 93 33 ls (.int (I 17 14) :: st) I J Q := A_getI (ab_io ci93 (by decide +kernel)) ow93 fq7_218_17
theorem k93_33 : At 93 33 ls st I J Q ↔ At 93 34 ls (.int (-1) :: st) I J Q := A_iconst (ab_io ci93 (by decide +kernel)) ic_m1
theorem k93_34 : At 93 34 ls (.int x1 :: .int x :: st) I J Q ↔ if ¬ x = x1 then At 93 43 ls st I J Q else At 93 37 ls st I J Q := A_if_icmp_ne (o := 9) (ab_io ci93 (by decide +kernel)) (by decide)
theorem k93_37 : At 93 37 ls st I J Q ↔ At 93 39 ls (.int (-3) :: st) I J Q := A_bipush (ab_io ci93 (by decide +kernel)) bc_m3
theorem k93_39 : At 93 39 ls [.int p0] I J Q ↔ Cal 121 [.int p0] I J (fun v I' J' => At 93 42 ls (v.toList ++ []) I' J' Q) := A_cal (kd := 1) (j := 136) (na := 1) (ea := 1) (rk := 0) (by decide +kernel) rfl rfl rfl (Or.inl rfl) (Nat.le_of_ble_eq_true rfl)
theorem k93_42 : At 93 42 ls [.long u] I J Q ↔ Q (some (.long u)) I J := A_lret (ab_io ci93 (by decide +kernel)) rt93
theorem k93_43 : At 93 43 [a0, some (.int x)] st I J Q ↔ At 93 44 [a0, some (.int x)] (.int x :: st) I J Q := A_iload_n (q := 1) (ab_io ci93 (by decide +kernel)) rfl
theorem k93_44 : At 93 44 ls st I J Q ↔ At 93 45 ls (.int (nI 2) :: st) I J Q := A_iconst (ab_io ci93 (by decide +kernel)) ic_2
theorem k93_45 : At 93 45 ls (.int x1 :: .int x :: st) I J Q ↔ if x < x1 then At 93 73 ls st I J Q else At 93 48 ls st I J Q := A_if_icmp_lt (o := 28) (ab_io ci93 (by decide +kernel)) (by decide)
theorem k93_48 : At 93 48 [a0, some (.int x)] st I J Q ↔ At 93 49 [a0, some (.int x)] (.int x :: st) I J Q := A_iload_n (q := 1) (ab_io ci93 (by decide +kernel)) rfl
theorem k93_49 : At 93 49 ls st I J Q ↔ At 93 50 ls (.int (nI 2) :: st) I J Q := A_iconst (ab_io ci93 (by decide +kernel)) ic_2
theorem k93_50 : At 93 50 ls (.int x1 :: .int x :: st) I J Q ↔ if ¬ x = x1 then At 93 64 ls st I J Q else At 93 53 ls st I J Q := A_if_icmp_ne (o := 14) (ab_io ci93 (by decide +kernel)) (by decide)
theorem k93_53 : At 93 53 [some (.ref r), a1] st I J Q ↔ At 93 54 [some (.ref r), a1] (.ref r :: st) I J Q := A_aload_n (q := 0) (ab_io ci93 (by decide +kernel)) rfl
theorem k93_54 : At 93 54 ls (.ref 0 :: st) I J Q ↔ At 93 57 ls (.ref 5 :: st) I J Q := A_getR (ab_io ci93 (by decide +kernel)) ow93 fq7_19_0
theorem k93_57_5 : At 93 57 ls (.ref 5 :: st) I J Q ↔ At 93 60 ls (.int (I 5 14) :: st) I J Q := A_getI (ab_io ci93 (by decide +kernel)) ow93 fq7_218_5
theorem k93_57_17 : At 93 57 ls (.ref 17 :: st) I J Q ↔ At 93 60 ls (.int (I 17 14) :: st) I J Q := A_getI (ab_io ci93 (by decide +kernel)) ow93 fq7_218_17
theorem k93_60 : At 93 60 ls (.int x :: st) I J Q ↔ At 93 61 ls (.long x.toInt64 :: st) I J Q := A_i2l (ab_io ci93 (by decide +kernel))
theorem k93_61 : At 93 61 ls st I J Q ↔ At 93 72 ls st I J Q := A_goto (o := 11) (ab_io ci93 (by decide +kernel)) (by decide)
theorem k93_64 : At 93 64 [some (.ref r), a1] st I J Q ↔ At 93 65 [some (.ref r), a1] (.ref r :: st) I J Q := A_aload_n (q := 0) (ab_io ci93 (by decide +kernel)) rfl
theorem k93_65 : At 93 65 ls (.ref 0 :: st) I J Q ↔ At 93 68 ls (.ref 5 :: st) I J Q := A_getR (ab_io ci93 (by decide +kernel)) ow93 fq7_19_0
theorem k93_68_5 : At 93 68 ls (.ref 5 :: st) I J Q ↔ At 93 71 ls (.int (I 5 15) :: st) I J Q := A_getI (ab_io ci93 (by decide +kernel)) ow93 fq7_221_5
theorem k93_68_17 : At 93 68 ls (.ref 17 :: st) I J Q ↔ At 93 71 ls (.int (I 17 15) :: st) I J Q := A_getI (ab_io ci93 (by decide +kernel)) ow93 fq7_221_17
theorem k93_71 : At 93 71 ls (.int x :: st) I J Q ↔ At 93 72 ls (.long x.toInt64 :: st) I J Q := A_i2l (ab_io ci93 (by decide +kernel))
theorem k93_72 : At 93 72 ls [.long u] I J Q ↔ Q (some (.long u)) I J := A_lret (ab_io ci93 (by decide +kernel)) rt93
theorem k93_73 : At 93 73 [some (.ref r), a1] st I J Q ↔ At 93 74 [some (.ref r), a1] (.ref r :: st) I J Q := A_aload_n (q := 0) (ab_io ci93 (by decide +kernel)) rfl
theorem k93_74 : At 93 74 ls (.ref 0 :: st) I J Q ↔ At 93 77 ls (.ref 5 :: st) I J Q := A_getR (ab_io ci93 (by decide +kernel)) ow93 fq7_19_0
theorem k93_77_5 : At 93 77 ls (.ref 5 :: st) I J Q ↔ At 93 80 ls (.long (J 5 13) :: st) I J Q := A_getJ (ab_io ci93 (by decide +kernel)) ow93 fq7_224_5
theorem k93_77_17 : At 93 77 ls (.ref 17 :: st) I J Q ↔ At 93 80 ls (.long (J 17 13) :: st) I J Q := A_getJ (ab_io ci93 (by decide +kernel)) ow93 fq7_224_17
theorem k93_80 : At 93 80 [some (.ref r), a1] st I J Q ↔ At 93 81 [some (.ref r), a1] (.ref r :: st) I J Q := A_aload_n (q := 0) (ab_io ci93 (by decide +kernel)) rfl
theorem k93_81 : At 93 81 ls (.ref 0 :: st) I J Q ↔ At 93 84 ls (.ref 5 :: st) I J Q := A_getR (ab_io ci93 (by decide +kernel)) ow93 fq7_19_0
theorem k93_84_5 : At 93 84 ls [.ref 5, .long qu0] I J Q ↔ Cal 15 [.ref 5] I J (fun v I' J' => At 93 87 ls (v.toList ++ [.long qu0]) I' J' Q) := A_cal (kd := 0) (j := 158) (na := 1) (ea := 1) (rk := 5) (by decide +kernel) rfl rfl rfl (Or.inr rfl) (Nat.le_of_ble_eq_true rfl)
theorem k93_84_17 : At 93 84 ls [.ref 17, .long qu0] I J Q ↔ Cal 15 [.ref 17] I J (fun v I' J' => At 93 87 ls (v.toList ++ [.long qu0]) I' J' Q) := A_cal (kd := 0) (j := 158) (na := 1) (ea := 1) (rk := 17) (by decide +kernel) rfl rfl rfl (Or.inr rfl) (Nat.le_of_ble_eq_true rfl)
theorem k93_87 : At 93 87 [a0, some (.int x)] st I J Q ↔ At 93 88 [a0, some (.int x)] (.int x :: st) I J Q := A_iload_n (q := 1) (ab_io ci93 (by decide +kernel)) rfl
theorem k93_88 : At 93 88 ls [.int p0, .long pu1, .long pu2] I J Q ↔ Cal 122 [.long pu2, .long pu1, .int p0] I J (fun v I' J' => At 93 91 ls (v.toList ++ []) I' J' Q) := A_cal (kd := 1) (j := 148) (na := 3) (ea := 5) (rk := 0) (by decide +kernel) rfl rfl rfl (Or.inl rfl) (Nat.le_of_ble_eq_true rfl)
theorem k93_91 : At 93 91 ls [.long u] I J Q ↔ Q (some (.long u)) I J := A_lret (ab_io ci93 (by decide +kernel)) rt93
theorem k94_0 : At 94 0 [a0, some (.int x)] st I J Q ↔ At 94 1 [a0, some (.int x)] (.int x :: st) I J Q := A_iload_n (q := 1) (ab_io ci94 (by decide +kernel)) rfl
theorem k94_1 : At 94 1 ls (.int x :: st) I J Q ↔ if x < 0 then At 94 9 ls st I J Q else At 94 4 ls st I J Q := A_ifCond_lt (o := 8) (ab_io ci94 (by decide +kernel)) (by decide)
theorem k94_4 : At 94 4 [a0, some (.int x)] st I J Q ↔ At 94 5 [a0, some (.int x)] (.int x :: st) I J Q := A_iload_n (q := 1) (ab_io ci94 (by decide +kernel)) rfl
theorem k94_5 : At 94 5 ls st I J Q ↔ At 94 6 ls (.int (nI 3) :: st) I J Q := A_iconst (ab_io ci94 (by decide +kernel)) ic_3
theorem k94_6 : At 94 6 ls (.int x1 :: .int x :: st) I J Q ↔ if x ≤ x1 then At 94 15 ls st I J Q else At 94 9 ls st I J Q := A_if_icmp_le (o := 9) (ab_io ci94 (by decide +kernel)) (by decide)
theorem k94_9 : At 94 9 ls st I J Q ↔ At 94 11 ls (.int (-2) :: st) I J Q := A_bipush (ab_io ci94 (by decide +kernel)) bc_m2
theorem k94_11 : At 94 11 ls [.int p0] I J Q ↔ Cal 121 [.int p0] I J (fun v I' J' => At 94 14 ls (v.toList ++ []) I' J' Q) := A_cal (kd := 1) (j := 136) (na := 1) (ea := 1) (rk := 0) (by decide +kernel) rfl rfl rfl (Or.inl rfl) (Nat.le_of_ble_eq_true rfl)
theorem k94_14 : At 94 14 ls [.long u] I J Q ↔ Q (some (.long u)) I J := A_lret (ab_io ci94 (by decide +kernel)) rt94
theorem k94_15 : At 94 15 [some (.ref r), a1] st I J Q ↔ At 94 16 [some (.ref r), a1] (.ref r :: st) I J Q := A_aload_n (q := 0) (ab_io ci94 (by decide +kernel)) rfl
theorem k94_16 : At 94 16 ls [.ref 0] I J Q ↔ Cal 110 [.ref 0] I J (fun v I' J' => At 94 19 ls (v.toList ++ []) I' J' Q) := A_cal (kd := 0) (j := 121) (na := 1) (ea := 1) (rk := 0) (by decide +kernel) rfl rfl rfl (Or.inr rfl) (Nat.le_of_ble_eq_true rfl)
theorem k94_19 : At 94 19 [some (.ref r), a1] st I J Q ↔ At 94 20 [some (.ref r), a1] (.ref r :: st) I J Q := A_aload_n (q := 0) (ab_io ci94 (by decide +kernel)) rfl
theorem k94_20 : At 94 20 ls (.ref 0 :: st) I J Q ↔ At 94 23 ls (.ref 29 :: st) I J Q := A_getR (ab_io ci94 (by decide +kernel)) ow94 fq7_29_0
theorem k94_23 : At 94 23 [some (.ref r), a1] st I J Q ↔ At 94 24 [some (.ref r), a1] (.ref r :: st) I J Q := A_aload_n (q := 0) (ab_io ci94 (by decide +kernel)) rfl
theorem k94_24 : At 94 24 ls (.ref 0 :: st) I J Q ↔ At 94 27 ls (.ref 5 :: st) I J Q := A_getR (ab_io ci94 (by decide +kernel)) ow94 fq7_19_0
theorem k94_27 : At 94 27 [some (.ref r), a1] st I J Q ↔ At 94 28 [some (.ref r), a1] (.ref r :: st) I J Q := A_aload_n (q := 0) (ab_io ci94 (by decide +kernel)) rfl
theorem k94_28 : At 94 28 ls (.ref 0 :: st) I J Q ↔ At 94 31 ls (.ref 17 :: st) I J Q := A_getR (ab_io ci94 (by decide +kernel)) ow94 fq7_23_0
theorem k94_31 : At 94 31 ls [.ref pr0, .ref pr1, .ref 29] I J Q ↔ Cal 63 [.ref 29, .ref pr1, .ref pr0] I J (fun v I' J' => At 94 34 ls (v.toList ++ []) I' J' Q) := A_cal (kd := 0) (j := 227) (na := 3) (ea := 3) (rk := 29) (by decide +kernel) rfl rfl rfl (Or.inr rfl) (Nat.le_of_ble_eq_true rfl)
theorem k94_34 : At 94 34 [some (.ref r), a1] st I J Q ↔ At 94 35 [some (.ref r), a1] (.ref r :: st) I J Q := A_aload_n (q := 0) (ab_io ci94 (by decide +kernel)) rfl
theorem k94_35 : At 94 35 ls (.ref 0 :: st) I J Q ↔ At 94 38 ls (.ref 29 :: st) I J Q := A_getR (ab_io ci94 (by decide +kernel)) ow94 fq7_29_0
theorem k94_38 : At 94 38 ls (.ref 29 :: st) I J Q ↔ At 94 41 ls (.int (I 29 1) :: st) I J Q := A_getI (ab_io ci94 (by decide +kernel)) ow94 fq7_231_29
theorem k94_41 : At 94 41 ls st I J Q ↔ At 94 42 ls (.int (-1) :: st) I J Q := A_iconst (ab_io ci94 (by decide +kernel)) ic_m1
theorem k94_42 : At 94 42 ls (.int x1 :: .int x :: st) I J Q ↔ if ¬ x = x1 then At 94 51 ls st I J Q else At 94 45 ls st I J Q := A_if_icmp_ne (o := 9) (ab_io ci94 (by decide +kernel)) (by decide)
theorem k94_45 : At 94 45 ls st I J Q ↔ At 94 47 ls (.int (-3) :: st) I J Q := A_bipush (ab_io ci94 (by decide +kernel)) bc_m3
theorem k94_47 : At 94 47 ls [.int p0] I J Q ↔ Cal 121 [.int p0] I J (fun v I' J' => At 94 50 ls (v.toList ++ []) I' J' Q) := A_cal (kd := 1) (j := 136) (na := 1) (ea := 1) (rk := 0) (by decide +kernel) rfl rfl rfl (Or.inl rfl) (Nat.le_of_ble_eq_true rfl)
theorem k94_50 : At 94 50 ls [.long u] I J Q ↔ Q (some (.long u)) I J := A_lret (ab_io ci94 (by decide +kernel)) rt94
theorem k94_51 : At 94 51 [a0, some (.int x)] st I J Q ↔ At 94 52 [a0, some (.int x)] (.int x :: st) I J Q := A_iload_n (q := 1) (ab_io ci94 (by decide +kernel)) rfl
theorem k94_52 : At 94 52 ls st I J Q ↔ At 94 53 ls (.int (nI 2) :: st) I J Q := A_iconst (ab_io ci94 (by decide +kernel)) ic_2
theorem k94_53 : At 94 53 ls (.int x1 :: .int x :: st) I J Q ↔ if x1 ≤ x then At 94 84 ls st I J Q else At 94 56 ls st I J Q := A_if_icmp_ge (o := 31) (ab_io ci94 (by decide +kernel)) (by decide)
theorem k94_56 : At 94 56 [a0, some (.int x)] st I J Q ↔ At 94 57 [a0, some (.int x)] (.int x :: st) I J Q := A_iload_n (q := 1) (ab_io ci94 (by decide +kernel)) rfl
theorem k94_57 : At 94 57 ls (.int x :: st) I J Q ↔ if ¬ x = 0 then At 94 73 ls st I J Q else At 94 60 ls st I J Q := A_ifCond_ne (o := 16) (ab_io ci94 (by decide +kernel)) (by decide)
theorem k94_60 : At 94 60 [some (.ref r), a1] st I J Q ↔ At 94 61 [some (.ref r), a1] (.ref r :: st) I J Q := A_aload_n (q := 0) (ab_io ci94 (by decide +kernel)) rfl
theorem k94_61 : At 94 61 ls (.ref 0 :: st) I J Q ↔ At 94 64 ls (.ref 29 :: st) I J Q := A_getR (ab_io ci94 (by decide +kernel)) ow94 fq7_29_0
theorem k94_64 : At 94 64 ls (.ref 29 :: st) I J Q ↔ At 94 67 ls (.int (I 29 1) :: st) I J Q := A_getI (ab_io ci94 (by decide +kernel)) ow94 fq7_231_29
theorem k94_67 : At 94 67 ls st I J Q ↔ At 94 68 ls (.int (nI 4) :: st) I J Q := A_iconst (ab_io ci94 (by decide +kernel)) ic_4
theorem k94_68 : At 94 68 ls (.int x1 :: .int x :: st) I J Q ↔ ¬ x1 = 0 ∧ At 94 69 ls (.int (x / x1) :: st) I J Q := A_idiv (ab_io ci94 (by decide +kernel))
theorem k94_69 : At 94 69 ls (.int x :: st) I J Q ↔ At 94 70 ls (.long x.toInt64 :: st) I J Q := A_i2l (ab_io ci94 (by decide +kernel))
theorem k94_70 : At 94 70 ls st I J Q ↔ At 94 83 ls st I J Q := A_goto (o := 13) (ab_io ci94 (by decide +kernel)) (by decide)
theorem k94_73 : At 94 73 [some (.ref r), a1] st I J Q ↔ At 94 74 [some (.ref r), a1] (.ref r :: st) I J Q := A_aload_n (q := 0) (ab_io ci94 (by decide +kernel)) rfl
theorem k94_74 : At 94 74 ls (.ref 0 :: st) I J Q ↔ At 94 77 ls (.ref 29 :: st) I J Q := A_getR (ab_io ci94 (by decide +kernel)) ow94 fq7_29_0
theorem k94_77 : At 94 77 ls (.ref 29 :: st) I J Q ↔ At 94 80 ls (.int (I 29 1) :: st) I J Q := A_getI (ab_io ci94 (by decide +kernel)) ow94 fq7_231_29
theorem k94_80 : At 94 80 ls st I J Q ↔ At 94 81 ls (.int (nI 4) :: st) I J Q := A_iconst (ab_io ci94 (by decide +kernel)) ic_4
theorem k94_81 : At 94 81 ls (.int x1 :: .int x :: st) I J Q ↔ ¬ x1 = 0 ∧ At 94 82 ls (.int (x - x / x1 * x1) :: st) I J Q := A_irem (ab_io ci94 (by decide +kernel))
theorem k94_82 : At 94 82 ls (.int x :: st) I J Q ↔ At 94 83 ls (.long x.toInt64 :: st) I J Q := A_i2l (ab_io ci94 (by decide +kernel))
theorem k94_83 : At 94 83 ls [.long u] I J Q ↔ Q (some (.long u)) I J := A_lret (ab_io ci94 (by decide +kernel)) rt94
theorem k94_84 : At 94 84 [some (.ref r), a1] st I J Q ↔ At 94 85 [some (.ref r), a1] (.ref r :: st) I J Q := A_aload_n (q := 0) (ab_io ci94 (by decide +kernel)) rfl
theorem k94_85 : At 94 85 ls (.ref 0 :: st) I J Q ↔ At 94 88 ls (.ref 29 :: st) I J Q := A_getR (ab_io ci94 (by decide +kernel)) ow94 fq7_29_0
theorem k94_88 : At 94 88 ls (.ref 29 :: st) I J Q ↔ At 94 91 ls (.long (J 29 2) :: st) I J Q := A_getJ (ab_io ci94 (by decide +kernel)) ow94 fq7_234_29
theorem k94_91 : At 94 91 [some (.ref r), a1] st I J Q ↔ At 94 92 [some (.ref r), a1] (.ref r :: st) I J Q := A_aload_n (q := 0) (ab_io ci94 (by decide +kernel)) rfl
theorem k94_92 : At 94 92 ls (.ref 0 :: st) I J Q ↔ At 94 95 ls (.ref 29 :: st) I J Q := A_getR (ab_io ci94 (by decide +kernel)) ow94 fq7_29_0
theorem k94_95 : At 94 95 ls (.ref 29 :: st) I J Q ↔ At 94 98 ls (.long (J 29 3) :: st) I J Q := A_getJ (ab_io ci94 (by decide +kernel)) ow94 fq7_237_29
theorem k94_98 : At 94 98 [a0, some (.int x)] st I J Q ↔ At 94 99 [a0, some (.int x)] (.int x :: st) I J Q := A_iload_n (q := 1) (ab_io ci94 (by decide +kernel)) rfl
theorem k94_99 : At 94 99 ls st I J Q ↔ At 94 100 ls (.int (nI 2) :: st) I J Q := A_iconst (ab_io ci94 (by decide +kernel)) ic_2
theorem k94_100 : At 94 100 ls (.int x1 :: .int x :: st) I J Q ↔ At 94 101 ls (.int (x - x1) :: st) I J Q := A_isub (ab_io ci94 (by decide +kernel))
theorem k94_101 : At 94 101 ls [.int p0, .long pu1, .long pu2] I J Q ↔ Cal 122 [.long pu2, .long pu1, .int p0] I J (fun v I' J' => At 94 104 ls (v.toList ++ []) I' J' Q) := A_cal (kd := 1) (j := 148) (na := 3) (ea := 5) (rk := 0) (by decide +kernel) rfl rfl rfl (Or.inl rfl) (Nat.le_of_ble_eq_true rfl)
theorem k94_104 : At 94 104 ls [.long u] I J Q ↔ Q (some (.long u)) I J := A_lret (ab_io ci94 (by decide +kernel)) rt94
theorem k95_0 : At 95 0 [a0, some (.int x), a2] st I J Q ↔ At 95 1 [a0, some (.int x), a2] (.int x :: st) I J Q := A_iload_n (q := 1) (ab_io ci95 (by decide +kernel)) rfl
theorem k95_1 : At 95 1 ls [.int p0] I J Q ↔ Cal 116 [.int p0] I J (fun v I' J' => At 95 4 ls (v.toList ++ []) I' J' Q) := A_cal (kd := 1) (j := 76) (na := 1) (ea := 1) (rk := 0) (by decide +kernel) rfl rfl rfl (Or.inl rfl) (Nat.le_of_ble_eq_true rfl)
theorem k95_4 : At 95 4 ls (.int x :: st) I J Q ↔ if x = 0 then At 95 14 ls st I J Q else At 95 7 ls st I J Q := A_ifCond_eq (o := 10) (ab_io ci95 (by decide +kernel)) (by decide)
theorem k95_7 : At 95 7 [a0, a1, some (.int x)] st I J Q ↔ At 95 8 [a0, a1, some (.int x)] (.int x :: st) I J Q := A_iload_n (q := 2) (ab_io ci95 (by decide +kernel)) rfl
theorem k95_8 : At 95 8 ls [.int p0] I J Q ↔ Cal 117 [.int p0] I J (fun v I' J' => At 95 11 ls (v.toList ++ []) I' J' Q) := A_cal (kd := 1) (j := 80) (na := 1) (ea := 1) (rk := 0) (by decide +kernel) rfl rfl rfl (Or.inl rfl) (Nat.le_of_ble_eq_true rfl)
theorem k95_11 : At 95 11 ls (.int x :: st) I J Q ↔ if ¬ x = 0 then At 95 17 ls st I J Q else At 95 14 ls st I J Q := A_ifCond_ne (o := 6) (ab_io ci95 (by decide +kernel)) (by decide)
theorem k95_14 : At 95 14 ls st I J Q ↔ At 95 16 ls (.int (-2) :: st) I J Q := A_bipush (ab_io ci95 (by decide +kernel)) bc_m2
theorem k95_16 : At 95 16 ls [.int x] I J Q ↔ Q (some (.int x)) I J := A_iret (ab_io ci95 (by decide +kernel)) rt95
theorem k95_17 : At 95 17 [some (.ref r), a1, a2] st I J Q ↔ At 95 18 [some (.ref r), a1, a2] (.ref r :: st) I J Q := A_aload_n (q := 0) (ab_io ci95 (by decide +kernel)) rfl
theorem k95_18 : At 95 18 ls [.ref 0] I J Q ↔ Cal 110 [.ref 0] I J (fun v I' J' => At 95 21 ls (v.toList ++ []) I' J' Q) := A_cal (kd := 0) (j := 121) (na := 1) (ea := 1) (rk := 0) (by decide +kernel) rfl rfl rfl (Or.inr rfl) (Nat.le_of_ble_eq_true rfl)
theorem k95_21 : At 95 21 [some (.ref r), a1, a2] st I J Q ↔ At 95 22 [some (.ref r), a1, a2] (.ref r :: st) I J Q := A_aload_n (q := 0) (ab_io ci95 (by decide +kernel)) rfl
theorem k95_22 : At 95 22 ls (.ref 0 :: st) I J Q ↔ At 95 25 ls (.ref 5 :: st) I J Q := A_getR (ab_io ci95 (by decide +kernel)) ow95 fq7_19_0
theorem k95_25_5 : At 95 25 ls (.ref 5 :: st) I J Q ↔ At 95 28 ls (.ref 6 :: st) I J Q := A_getR (ab_io ci95 (by decide +kernel)) ow95 fq7_124_5
theorem k95_25_17 : At 95 25 ls (.ref 17 :: st) I J Q ↔ At 95 28 ls (.ref 18 :: st) I J Q := A_getR (ab_io ci95 (by decide +kernel)) ow95 fq7_124_17
theorem k95_28 : At 95 28 ls st I J Q ↔ At 95 29 ls (.int (nI 4) :: st) I J Q := A_iconst (ab_io ci95 (by decide +kernel)) ic_4
theorem k95_29 : At 95 29 [a0, some (.int x), a2] st I J Q ↔ At 95 30 [a0, some (.int x), a2] (.int x :: st) I J Q := A_iload_n (q := 1) (ab_io ci95 (by decide +kernel)) rfl
theorem k95_30 : At 95 30 ls (.int x1 :: .int x :: st) I J Q ↔ At 95 31 ls (.int (x * x1) :: st) I J Q := A_imul (ab_io ci95 (by decide +kernel))
theorem k95_31 : At 95 31 [a0, a1, some (.int x)] st I J Q ↔ At 95 32 [a0, a1, some (.int x)] (.int x :: st) I J Q := A_iload_n (q := 2) (ab_io ci95 (by decide +kernel)) rfl
theorem k95_32 : At 95 32 ls (.int x1 :: .int x :: st) I J Q ↔ At 95 33 ls (.int (x + x1) :: st) I J Q := A_iadd (ab_io ci95 (by decide +kernel))
theorem k95_33 : At 95 33 ls (.int x :: .ref r :: st) I J Q ↔ ((ab_ly r).1 = 1 ∧ r < 75 ∧ 0 ≤ x.toInt ∧ x.toInt < (ab_ly r).2) ∧ At 95 34 ls (.int (I r x.toNatClampNeg) :: st) I J Q := A_iaload (ab_io ci95 (by decide +kernel))
theorem k95_34 : At 95 34 ls st I J Q ↔ At 95 35 ls (.int (-1) :: st) I J Q := A_iconst (ab_io ci95 (by decide +kernel)) ic_m1
theorem k95_35 : At 95 35 ls (.int x1 :: .int x :: st) I J Q ↔ if ¬ x = x1 then At 95 41 ls st I J Q else At 95 38 ls st I J Q := A_if_icmp_ne (o := 6) (ab_io ci95 (by decide +kernel)) (by decide)
theorem k95_38 : At 95 38 ls st I J Q ↔ At 95 40 ls (.int (-3) :: st) I J Q := A_bipush (ab_io ci95 (by decide +kernel)) bc_m3
theorem k95_40 : At 95 40 ls [.int x] I J Q ↔ Q (some (.int x)) I J := A_iret (ab_io ci95 (by decide +kernel)) rt95
theorem k95_41 : At 95 41 [some (.ref r), a1, a2] st I J Q ↔ At 95 42 [some (.ref r), a1, a2] (.ref r :: st) I J Q := A_aload_n (q := 0) (ab_io ci95 (by decide +kernel)) rfl
theorem k95_42 : At 95 42 ls (.ref 0 :: st) I J Q ↔ At 95 45 ls (.ref 5 :: st) I J Q := A_getR (ab_io ci95 (by decide +kernel)) ow95 fq7_19_0
theorem k95_45 : At 95 45 [a0, some (.int x), a2] st I J Q ↔ At 95 46 [a0, some (.int x), a2] (.int x :: st) I J Q := A_iload_n (q := 1) (ab_io ci95 (by decide +kernel)) rfl
theorem k95_46 : At 95 46 [a0, a1, some (.int x)] st I J Q ↔ At 95 47 [a0, a1, some (.int x)] (.int x :: st) I J Q := A_iload_n (q := 2) (ab_io ci95 (by decide +kernel)) rfl
theorem k95_47_5 : At 95 47 ls [.int p0, .int p1, .ref 5] I J Q ↔ Cal 35 [.ref 5, .int p1, .int p0] I J (fun v I' J' => At 95 50 ls (v.toList ++ []) I' J' Q) := A_cal (kd := 0) (j := 239) (na := 3) (ea := 3) (rk := 5) (by decide +kernel) rfl rfl rfl (Or.inr rfl) (Nat.le_of_ble_eq_true rfl)
theorem k95_47_17 : At 95 47 ls [.int p0, .int p1, .ref 17] I J Q ↔ Cal 35 [.ref 17, .int p1, .int p0] I J (fun v I' J' => At 95 50 ls (v.toList ++ []) I' J' Q) := A_cal (kd := 0) (j := 239) (na := 3) (ea := 3) (rk := 17) (by decide +kernel) rfl rfl rfl (Or.inr rfl) (Nat.le_of_ble_eq_true rfl)
theorem k95_50 : At 95 50 ls (.int x :: st) I J Q ↔ if x = 0 then At 95 57 ls st I J Q else At 95 53 ls st I J Q := A_ifCond_eq (o := 7) (ab_io ci95 (by decide +kernel)) (by decide)
theorem k95_53 : At 95 53 ls st I J Q ↔ At 95 54 ls (.int (nI 1) :: st) I J Q := A_iconst (ab_io ci95 (by decide +kernel)) ic_1
theorem k95_54 : At 95 54 ls st I J Q ↔ At 95 58 ls st I J Q := A_goto (o := 4) (ab_io ci95 (by decide +kernel)) (by decide)
theorem k95_57 : At 95 57 ls st I J Q ↔ At 95 58 ls (.int (nI 0) :: st) I J Q := A_iconst (ab_io ci95 (by decide +kernel)) ic_0
theorem k95_58 : At 95 58 ls [.int x] I J Q ↔ Q (some (.int x)) I J := A_iret (ab_io ci95 (by decide +kernel)) rt95
theorem k96_0 : At 96 0 [a0, some (.int x), a2, a3] st I J Q ↔ At 96 1 [a0, some (.int x), a2, a3] (.int x :: st) I J Q := A_iload_n (q := 1) (ab_io ci96 (by decide +kernel)) rfl
theorem k96_1 : At 96 1 ls [.int p0] I J Q ↔ Cal 117 [.int p0] I J (fun v I' J' => At 96 4 ls (v.toList ++ []) I' J' Q) := A_cal (kd := 1) (j := 80) (na := 1) (ea := 1) (rk := 0) (by decide +kernel) rfl rfl rfl (Or.inl rfl) (Nat.le_of_ble_eq_true rfl)
theorem k96_4 : At 96 4 ls (.int x :: st) I J Q ↔ if x = 0 then At 96 17 ls st I J Q else At 96 7 ls st I J Q := A_ifCond_eq (o := 13) (ab_io ci96 (by decide +kernel)) (by decide)
theorem k96_7 : At 96 7 [a0, a1, some (.int x), a3] st I J Q ↔ At 96 8 [a0, a1, some (.int x), a3] (.int x :: st) I J Q := A_iload_n (q := 2) (ab_io ci96 (by decide +kernel)) rfl
theorem k96_8 : At 96 8 ls (.int x :: st) I J Q ↔ if x < 0 then At 96 17 ls st I J Q else At 96 11 ls st I J Q := A_ifCond_lt (o := 9) (ab_io ci96 (by decide +kernel)) (by decide)
theorem k96_11 : At 96 11 [a0, a1, some (.int x), a3] st I J Q ↔ At 96 12 [a0, a1, some (.int x), a3] (.int x :: st) I J Q := A_iload_n (q := 2) (ab_io ci96 (by decide +kernel)) rfl
theorem k96_12 : At 96 12 ls st I J Q ↔ At 96 14 ls (.int (nI 99) :: st) I J Q := A_bipush (ab_io ci96 (by decide +kernel)) bc_99
theorem k96_14 : At 96 14 ls (.int x1 :: .int x :: st) I J Q ↔ if x ≤ x1 then At 96 20 ls st I J Q else At 96 17 ls st I J Q := A_if_icmp_le (o := 6) (ab_io ci96 (by decide +kernel)) (by decide)
theorem k96_17 : At 96 17 ls st I J Q ↔ At 96 19 ls (.int (-2) :: st) I J Q := A_bipush (ab_io ci96 (by decide +kernel)) bc_m2
theorem k96_19 : At 96 19 ls [.int x] I J Q ↔ Q (some (.int x)) I J := A_iret (ab_io ci96 (by decide +kernel)) rt96
theorem k96_20 : At 96 20 [some (.ref r), a1, a2, a3] st I J Q ↔ At 96 21 [some (.ref r), a1, a2, a3] (.ref r :: st) I J Q := A_aload_n (q := 0) (ab_io ci96 (by decide +kernel)) rfl
theorem k96_21 : At 96 21 ls (.ref 0 :: st) I J Q ↔ At 96 24 ls (.ref 48 :: st) I J Q := A_getR (ab_io ci96 (by decide +kernel)) ow96 fq7_65_0
theorem k96_24 : At 96 24 [a0, some (.int x), a2, a3] st I J Q ↔ At 96 25 [a0, some (.int x), a2, a3] (.int x :: st) I J Q := A_iload_n (q := 1) (ab_io ci96 (by decide +kernel)) rfl
theorem k96_25 : At 96 25 ls (.int x :: .ref r :: st) I J Q ↔ ((ab_ly r).1 = 1 ∧ r < 75 ∧ 0 ≤ x.toInt ∧ x.toInt < (ab_ly r).2) ∧ At 96 26 ls (.int (I r x.toNatClampNeg) :: st) I J Q := A_iaload (ab_io ci96 (by decide +kernel))
theorem k96_26 : At 96 26 [a0, a1, a2, a3] (.int x :: st) I J Q ↔ At 96 27 [a0, a1, ab_nv a2, some (.int x)] st I J Q := A_istore_n (q := 3) (ab_io ci96 (by decide +kernel)) (Nat.le_of_ble_eq_true rfl) rfl
theorem k96_27 : At 96 27 [some (.ref r), a1, a2, a3] st I J Q ↔ At 96 28 [some (.ref r), a1, a2, a3] (.ref r :: st) I J Q := A_aload_n (q := 0) (ab_io ci96 (by decide +kernel)) rfl
theorem k96_28 : At 96 28 ls (.ref 0 :: st) I J Q ↔ At 96 31 ls (.ref 48 :: st) I J Q := A_getR (ab_io ci96 (by decide +kernel)) ow96 fq7_65_0
theorem k96_31 : At 96 31 [a0, some (.int x), a2, a3] st I J Q ↔ At 96 32 [a0, some (.int x), a2, a3] (.int x :: st) I J Q := A_iload_n (q := 1) (ab_io ci96 (by decide +kernel)) rfl
theorem k96_32 : At 96 32 [a0, a1, some (.int x), a3] st I J Q ↔ At 96 33 [a0, a1, some (.int x), a3] (.int x :: st) I J Q := A_iload_n (q := 2) (ab_io ci96 (by decide +kernel)) rfl
theorem k96_33 : At 96 33 ls (.int x1 :: .int x :: .ref r :: st) I J Q ↔ ((ab_ly r).1 = 1 ∧ r < 75 ∧ 0 ≤ x.toInt ∧ x.toInt < (ab_ly r).2) ∧ At 96 34 ls st (va_up I r (va_up (I r) x.toNatClampNeg x1)) J Q := A_iastore (ab_io ci96 (by decide +kernel))
theorem k96_34 : At 96 34 [a0, a1, a2, some (.int x)] st I J Q ↔ At 96 35 [a0, a1, a2, some (.int x)] (.int x :: st) I J Q := A_iload_n (q := 3) (ab_io ci96 (by decide +kernel)) rfl
theorem k96_35 : At 96 35 ls [.int x] I J Q ↔ Q (some (.int x)) I J := A_iret (ab_io ci96 (by decide +kernel)) rt96
theorem k97_0 : At 97 0 [a0, some (.int x)] st I J Q ↔ At 97 1 [a0, some (.int x)] (.int x :: st) I J Q := A_iload_n (q := 1) (ab_io ci97 (by decide +kernel)) rfl
theorem k97_1 : At 97 1 ls st I J Q ↔ At 97 2 ls (.int (-1) :: st) I J Q := A_iconst (ab_io ci97 (by decide +kernel)) ic_m1
theorem k97_2 : At 97 2 ls (.int x1 :: .int x :: st) I J Q ↔ if x1 ≤ x then At 97 8 ls st I J Q else At 97 5 ls st I J Q := A_if_icmp_ge (o := 6) (ab_io ci97 (by decide +kernel)) (by decide)
theorem k97_5 : At 97 5 ls st I J Q ↔ At 97 7 ls (.int (-2) :: st) I J Q := A_bipush (ab_io ci97 (by decide +kernel)) bc_m2
theorem k97_7 : At 97 7 ls [.int x] I J Q ↔ Q (some (.int x)) I J := A_iret (ab_io ci97 (by decide +kernel)) rt97
theorem k97_8 : At 97 8 [some (.ref r), a1] st I J Q ↔ At 97 9 [some (.ref r), a1] (.ref r :: st) I J Q := A_aload_n (q := 0) (ab_io ci97 (by decide +kernel)) rfl
theorem k97_9 : At 97 9 ls [.ref 0] I J Q ↔ Cal 110 [.ref 0] I J (fun v I' J' => At 97 12 ls (v.toList ++ []) I' J' Q) := A_cal (kd := 0) (j := 121) (na := 1) (ea := 1) (rk := 0) (by decide +kernel) rfl rfl rfl (Or.inr rfl) (Nat.le_of_ble_eq_true rfl)
theorem k97_12 : At 97 12 [some (.ref r), a1] st I J Q ↔ At 97 13 [some (.ref r), a1] (.ref r :: st) I J Q := A_aload_n (q := 0) (ab_io ci97 (by decide +kernel)) rfl
theorem k97_13 : At 97 13 ls (.ref 0 :: st) I J Q ↔ At 97 16 ls (.ref 30 :: st) I J Q := A_getR (ab_io ci97 (by decide +kernel)) ow97 fq7_36_0
theorem k97_16 : At 97 16 [some (.ref r), a1] st I J Q ↔ At 97 17 [some (.ref r), a1] (.ref r :: st) I J Q := A_aload_n (q := 0) (ab_io ci97 (by decide +kernel)) rfl
theorem k97_17 : At 97 17 ls (.ref 0 :: st) I J Q ↔ At 97 20 ls (.ref 5 :: st) I J Q := A_getR (ab_io ci97 (by decide +kernel)) ow97 fq7_19_0
theorem k97_20 : At 97 20 [some (.ref r), a1] st I J Q ↔ At 97 21 [some (.ref r), a1] (.ref r :: st) I J Q := A_aload_n (q := 0) (ab_io ci97 (by decide +kernel)) rfl
theorem k97_21 : At 97 21 ls (.ref 0 :: st) I J Q ↔ At 97 24 ls (.ref 48 :: st) I J Q := A_getR (ab_io ci97 (by decide +kernel)) ow97 fq7_65_0
theorem k97_24 : At 97 24 ls [.ref pr0, .ref pr1, .ref 30] I J Q ↔ Cal 72 [.ref 30, .ref pr1, .ref pr0] I J (fun v I' J' => At 97 27 ls (v.toList ++ []) I' J' Q) := A_cal (kd := 0) (j := 242) (na := 3) (ea := 3) (rk := 30) (by decide +kernel) rfl rfl rfl (Or.inr rfl) (Nat.le_of_ble_eq_true rfl)
theorem k97_27 : At 97 27 [a0, some (.int x)] st I J Q ↔ At 97 28 [a0, some (.int x)] (.int x :: st) I J Q := A_iload_n (q := 1) (ab_io ci97 (by decide +kernel)) rfl
theorem k97_28 : At 97 28 ls st I J Q ↔ At 97 29 ls (.int (-1) :: st) I J Q := A_iconst (ab_io ci97 (by decide +kernel)) ic_m1
theorem k97_29 : At 97 29 ls (.int x1 :: .int x :: st) I J Q ↔ if ¬ x = x1 then At 97 40 ls st I J Q else At 97 32 ls st I J Q := A_if_icmp_ne (o := 11) (ab_io ci97 (by decide +kernel)) (by decide)
theorem k97_32 : At 97 32 [some (.ref r), a1] st I J Q ↔ At 97 33 [some (.ref r), a1] (.ref r :: st) I J Q := A_aload_n (q := 0) (ab_io ci97 (by decide +kernel)) rfl
theorem k97_33 : At 97 33 ls (.ref 0 :: st) I J Q ↔ At 97 36 ls (.ref 30 :: st) I J Q := A_getR (ab_io ci97 (by decide +kernel)) ow97 fq7_36_0
theorem k97_36 : At 97 36 ls (.ref 30 :: st) I J Q ↔ At 97 39 ls (.int (I 30 3) :: st) I J Q := A_getI (ab_io ci97 (by decide +kernel)) ow97 fq7_245_30
theorem k97_39 : At 97 39 ls [.int x] I J Q ↔ Q (some (.int x)) I J := A_iret (ab_io ci97 (by decide +kernel)) rt97
theorem k97_40 : At 97 40 [a0, some (.int x)] st I J Q ↔ At 97 41 [a0, some (.int x)] (.int x :: st) I J Q := A_iload_n (q := 1) (ab_io ci97 (by decide +kernel)) rfl
theorem k97_41 : At 97 41 [some (.ref r), a1] st I J Q ↔ At 97 42 [some (.ref r), a1] (.ref r :: st) I J Q := A_aload_n (q := 0) (ab_io ci97 (by decide +kernel)) rfl
theorem k97_42 : At 97 42 ls (.ref 0 :: st) I J Q ↔ At 97 45 ls (.ref 30 :: st) I J Q := A_getR (ab_io ci97 (by decide +kernel)) ow97 fq7_36_0
theorem k97_45 : At 97 45 ls (.ref 30 :: st) I J Q ↔ At 97 48 ls (.int (I 30 2) :: st) I J Q := A_getI (ab_io ci97 (by decide +kernel)) ow97 fq7_248_30
theorem k97_48 : At 97 48 ls (.int x1 :: .int x :: st) I J Q ↔ if x1 ≤ x then At 97 63 ls st I J Q else At 97 51 ls st I J Q := A_if_icmp_ge (o := 15) (ab_io ci97 (by decide +kernel)) (by decide)
theorem k97_51 : At 97 51 [some (.ref r), a1] st I J Q ↔ At 97 52 [some (.ref r), a1] (.ref r :: st) I J Q := A_aload_n (q := 0) (ab_io ci97 (by decide +kernel)) rfl
theorem k97_52 : At 97 52 ls (.ref 0 :: st) I J Q ↔ At 97 55 ls (.ref 30 :: st) I J Q := A_getR (ab_io ci97 (by decide +kernel)) ow97 fq7_36_0
theorem k97_55 : At 97 55 ls (.ref 30 :: st) I J Q ↔ At 97 58 ls (.ref 32 :: st) I J Q := A_getR (ab_io ci97 (by decide +kernel)) ow97 fq7_249_30
theorem k97_58 : At 97 58 [a0, some (.int x)] st I J Q ↔ At 97 59 [a0, some (.int x)] (.int x :: st) I J Q := A_iload_n (q := 1) (ab_io ci97 (by decide +kernel)) rfl
theorem k97_59 : At 97 59 ls (.int x :: .ref r :: st) I J Q ↔ ((ab_ly r).1 = 1 ∧ r < 75 ∧ 0 ≤ x.toInt ∧ x.toInt < (ab_ly r).2) ∧ At 97 60 ls (.int (I r x.toNatClampNeg) :: st) I J Q := A_iaload (ab_io ci97 (by decide +kernel))
theorem k97_60 : At 97 60 ls st I J Q ↔ At 97 64 ls st I J Q := A_goto (o := 4) (ab_io ci97 (by decide +kernel)) (by decide)
theorem k97_63 : At 97 63 ls st I J Q ↔ At 97 64 ls (.int (-1) :: st) I J Q := A_iconst (ab_io ci97 (by decide +kernel)) ic_m1
theorem k97_64 : At 97 64 ls [.int x] I J Q ↔ Q (some (.int x)) I J := A_iret (ab_io ci97 (by decide +kernel)) rt97
theorem k98_0 : At 98 0 [a0, some (.int x), a2, a3] st I J Q ↔ At 98 1 [a0, some (.int x), a2, a3] (.int x :: st) I J Q := A_iload_n (q := 1) (ab_io ci98 (by decide +kernel)) rfl
theorem k98_1 : At 98 1 ls [.int p0] I J Q ↔ Cal 117 [.int p0] I J (fun v I' J' => At 98 4 ls (v.toList ++ []) I' J' Q) := A_cal (kd := 1) (j := 80) (na := 1) (ea := 1) (rk := 0) (by decide +kernel) rfl rfl rfl (Or.inl rfl) (Nat.le_of_ble_eq_true rfl)
theorem k98_4 : At 98 4 ls (.int x :: st) I J Q ↔ if x = 0 then At 98 14 ls st I J Q else At 98 7 ls st I J Q := A_ifCond_eq (o := 10) (ab_io ci98 (by decide +kernel)) (by decide)
theorem k98_7 : At 98 7 [a0, a1, some (.int x), a3] st I J Q ↔ At 98 8 [a0, a1, some (.int x), a3] (.int x :: st) I J Q := A_iload_n (q := 2) (ab_io ci98 (by decide +kernel)) rfl
theorem k98_8 : At 98 8 ls [.int p0] I J Q ↔ Cal 120 [.int p0] I J (fun v I' J' => At 98 11 ls (v.toList ++ []) I' J' Q) := A_cal (kd := 1) (j := 133) (na := 1) (ea := 1) (rk := 0) (by decide +kernel) rfl rfl rfl (Or.inl rfl) (Nat.le_of_ble_eq_true rfl)
theorem k98_11 : At 98 11 ls (.int x :: st) I J Q ↔ if ¬ x = 0 then At 98 20 ls st I J Q else At 98 14 ls st I J Q := A_ifCond_ne (o := 9) (ab_io ci98 (by decide +kernel)) (by decide)
theorem k98_14 : At 98 14 ls st I J Q ↔ At 98 16 ls (.int (-2) :: st) I J Q := A_bipush (ab_io ci98 (by decide +kernel)) bc_m2
theorem k98_16 : At 98 16 ls [.int p0] I J Q ↔ Cal 121 [.int p0] I J (fun v I' J' => At 98 19 ls (v.toList ++ []) I' J' Q) := A_cal (kd := 1) (j := 136) (na := 1) (ea := 1) (rk := 0) (by decide +kernel) rfl rfl rfl (Or.inl rfl) (Nat.le_of_ble_eq_true rfl)
theorem k98_19 : At 98 19 ls [.long u] I J Q ↔ Q (some (.long u)) I J := A_lret (ab_io ci98 (by decide +kernel)) rt98
theorem k98_20 : At 98 20 [some (.ref r), a1, a2, a3] st I J Q ↔ At 98 21 [some (.ref r), a1, a2, a3] (.ref r :: st) I J Q := A_aload_n (q := 0) (ab_io ci98 (by decide +kernel)) rfl
theorem k98_21 : At 98 21 ls [.ref 0] I J Q ↔ Cal 110 [.ref 0] I J (fun v I' J' => At 98 24 ls (v.toList ++ []) I' J' Q) := A_cal (kd := 0) (j := 121) (na := 1) (ea := 1) (rk := 0) (by decide +kernel) rfl rfl rfl (Or.inr rfl) (Nat.le_of_ble_eq_true rfl)
theorem k98_24 : At 98 24 [some (.ref r), a1, a2, a3] st I J Q ↔ At 98 25 [some (.ref r), a1, a2, a3] (.ref r :: st) I J Q := A_aload_n (q := 0) (ab_io ci98 (by decide +kernel)) rfl
theorem k98_25 : At 98 25 ls (.ref 0 :: st) I J Q ↔ At 98 28 ls (.ref 5 :: st) I J Q := A_getR (ab_io ci98 (by decide +kernel)) ow98 fq7_19_0
theorem k98_28 : At 98 28 [a0, some (.int x), a2, a3] st I J Q ↔ At 98 29 [a0, some (.int x), a2, a3] (.int x :: st) I J Q := A_iload_n (q := 1) (ab_io ci98 (by decide +kernel)) rfl
theorem k98_29_5 : At 98 29 ls [.int p0, .ref 5] I J Q ↔ Cal 38 [.ref 5, .int p0] I J (fun v I' J' => At 98 32 ls (v.toList ++ []) I' J' Q) := A_cal (kd := 0) (j := 252) (na := 2) (ea := 2) (rk := 5) (by decide +kernel) rfl rfl rfl (Or.inr rfl) (Nat.le_of_ble_eq_true rfl)
theorem k98_29_17 : At 98 29 ls [.int p0, .ref 17] I J Q ↔ Cal 38 [.ref 17, .int p0] I J (fun v I' J' => At 98 32 ls (v.toList ++ []) I' J' Q) := A_cal (kd := 0) (j := 252) (na := 2) (ea := 2) (rk := 17) (by decide +kernel) rfl rfl rfl (Or.inr rfl) (Nat.le_of_ble_eq_true rfl)
theorem k98_32 : At 98 32 ls st I J Q ↔ At 98 33 ls (.int (nI 2) :: st) I J Q := A_iconst (ab_io ci98 (by decide +kernel)) ic_2
theorem k98_33 : At 98 33 ls (.int x1 :: .int x :: st) I J Q ↔ ¬ x1 = 0 ∧ At 98 34 ls (.int (x / x1) :: st) I J Q := A_idiv (ab_io ci98 (by decide +kernel))
theorem k98_34 : At 98 34 [a0, a1, a2, a3] (.int x :: st) I J Q ↔ At 98 35 [a0, a1, ab_nv a2, some (.int x)] st I J Q := A_istore_n (q := 3) (ab_io ci98 (by decide +kernel)) (Nat.le_of_ble_eq_true rfl) rfl
theorem k98_35 : At 98 35 [a0, a1, a2, some (.int x)] st I J Q ↔ At 98 36 [a0, a1, a2, some (.int x)] (.int x :: st) I J Q := A_iload_n (q := 3) (ab_io ci98 (by decide +kernel)) rfl
theorem k98_36 : At 98 36 ls (.int x :: st) I J Q ↔ if ¬ x = 0 then At 98 45 ls st I J Q else At 98 39 ls st I J Q := A_ifCond_ne (o := 9) (ab_io ci98 (by decide +kernel)) (by decide)
theorem k98_39 : At 98 39 ls st I J Q ↔ At 98 41 ls (.int (-3) :: st) I J Q := A_bipush (ab_io ci98 (by decide +kernel)) bc_m3
theorem k98_41 : At 98 41 ls [.int p0] I J Q ↔ Cal 121 [.int p0] I J (fun v I' J' => At 98 44 ls (v.toList ++ []) I' J' Q) := A_cal (kd := 1) (j := 136) (na := 1) (ea := 1) (rk := 0) (by decide +kernel) rfl rfl rfl (Or.inl rfl) (Nat.le_of_ble_eq_true rfl)
theorem k98_44 : At 98 44 ls [.long u] I J Q ↔ Q (some (.long u)) I J := A_lret (ab_io ci98 (by decide +kernel)) rt98
theorem k98_45 : At 98 45 [some (.ref r), a1, a2, a3] st I J Q ↔ At 98 46 [some (.ref r), a1, a2, a3] (.ref r :: st) I J Q := A_aload_n (q := 0) (ab_io ci98 (by decide +kernel)) rfl
theorem k98_46 : At 98 46 [a0, some (.int x), a2, a3] st I J Q ↔ At 98 47 [a0, some (.int x), a2, a3] (.int x :: st) I J Q := A_iload_n (q := 1) (ab_io ci98 (by decide +kernel)) rfl
theorem k98_47 : At 98 47 [a0, a1, a2, some (.int x)] st I J Q ↔ At 98 48 [a0, a1, a2, some (.int x)] (.int x :: st) I J Q := A_iload_n (q := 3) (ab_io ci98 (by decide +kernel)) rfl
theorem k98_48 : At 98 48 ls [.int p0, .int p1, .ref 0] I J Q ↔ Cal 114 [.ref 0, .int p1, .int p0] I J (fun v I' J' => At 98 51 ls (v.toList ++ []) I' J' Q) := A_cal (kd := 0) (j := 255) (na := 3) (ea := 3) (rk := 0) (by decide +kernel) rfl rfl rfl (Or.inr rfl) (Nat.le_of_ble_eq_true rfl)
theorem k98_51 : At 98 51 [a0, a1, a2, some (.int x)] st I J Q ↔ At 98 52 [a0, a1, a2, some (.int x)] (.int x :: st) I J Q := A_iload_n (q := 3) (ab_io ci98 (by decide +kernel)) rfl
theorem k98_52 : At 98 52 ls (.int x :: st) I J Q ↔ At 98 53 ls (.long x.toInt64 :: st) I J Q := A_i2l (ab_io ci98 (by decide +kernel))
theorem k98_53 : At 98 53 [some (.ref r), a1, a2, a3] st I J Q ↔ At 98 54 [some (.ref r), a1, a2, a3] (.ref r :: st) I J Q := A_aload_n (q := 0) (ab_io ci98 (by decide +kernel)) rfl
theorem k98_54 : At 98 54 ls (.ref 0 :: st) I J Q ↔ At 98 57 ls (.ref 5 :: st) I J Q := A_getR (ab_io ci98 (by decide +kernel)) ow98 fq7_19_0
theorem k98_57_5 : At 98 57 ls [.ref 5, .long qu0, .long qu1] I J Q ↔ Cal 15 [.ref 5] I J (fun v I' J' => At 98 60 ls (v.toList ++ [.long qu0, .long qu1]) I' J' Q) := A_cal (kd := 0) (j := 158) (na := 1) (ea := 1) (rk := 5) (by decide +kernel) rfl rfl rfl (Or.inr rfl) (Nat.le_of_ble_eq_true rfl)
theorem k98_57_17 : At 98 57 ls [.ref 17, .long qu0, .long qu1] I J Q ↔ Cal 15 [.ref 17] I J (fun v I' J' => At 98 60 ls (v.toList ++ [.long qu0, .long qu1]) I' J' Q) := A_cal (kd := 0) (j := 158) (na := 1) (ea := 1) (rk := 17) (by decide +kernel) rfl rfl rfl (Or.inr rfl) (Nat.le_of_ble_eq_true rfl)
theorem k98_60 : At 98 60 ls (.long u1 :: .long u :: st) I J Q ↔ At 98 61 ls (.long (u * u1) :: st) I J Q := A_lmul (ab_io ci98 (by decide +kernel))
theorem k98_61 : At 98 61 [a0, a1, some (.int x), a3] st I J Q ↔ At 98 62 [a0, a1, some (.int x), a3] (.int x :: st) I J Q := A_iload_n (q := 2) (ab_io ci98 (by decide +kernel)) rfl
theorem k98_62 : At 98 62 ls [.int p0, .long pu1, .long pu2] I J Q ↔ Cal 122 [.long pu2, .long pu1, .int p0] I J (fun v I' J' => At 98 65 ls (v.toList ++ []) I' J' Q) := A_cal (kd := 1) (j := 148) (na := 3) (ea := 5) (rk := 0) (by decide +kernel) rfl rfl rfl (Or.inl rfl) (Nat.le_of_ble_eq_true rfl)
theorem k98_65 : At 98 65 ls [.long u] I J Q ↔ Q (some (.long u)) I J := A_lret (ab_io ci98 (by decide +kernel)) rt98
theorem k99_0 : At 99 0 [a0, some (.int x), a2, a3] st I J Q ↔ At 99 1 [a0, some (.int x), a2, a3] (.int x :: st) I J Q := A_iload_n (q := 1) (ab_io ci99 (by decide +kernel)) rfl
theorem k99_1 : At 99 1 ls [.int p0] I J Q ↔ Cal 117 [.int p0] I J (fun v I' J' => At 99 4 ls (v.toList ++ []) I' J' Q) := A_cal (kd := 1) (j := 80) (na := 1) (ea := 1) (rk := 0) (by decide +kernel) rfl rfl rfl (Or.inl rfl) (Nat.le_of_ble_eq_true rfl)
theorem k99_4 : At 99 4 ls (.int x :: st) I J Q ↔ if x = 0 then At 99 26 ls st I J Q else At 99 7 ls st I J Q := A_ifCond_eq (o := 22) (ab_io ci99 (by decide +kernel)) (by decide)
theorem k99_7 : At 99 7 [a0, a1, some (.int x), a3] st I J Q ↔ At 99 8 [a0, a1, some (.int x), a3] (.int x :: st) I J Q := A_iload_n (q := 2) (ab_io ci99 (by decide +kernel)) rfl
theorem k99_8 : At 99 8 ls [.int p0] I J Q ↔ Cal 117 [.int p0] I J (fun v I' J' => At 99 11 ls (v.toList ++ []) I' J' Q) := A_cal (kd := 1) (j := 80) (na := 1) (ea := 1) (rk := 0) (by decide +kernel) rfl rfl rfl (Or.inl rfl) (Nat.le_of_ble_eq_true rfl)
theorem k99_11 : At 99 11 ls (.int x :: st) I J Q ↔ if x = 0 then At 99 26 ls st I J Q else At 99 14 ls st I J Q := A_ifCond_eq (o := 15) (ab_io ci99 (by decide +kernel)) (by decide)
theorem k99_14 : At 99 14 [a0, some (.int x), a2, a3] st I J Q ↔ At 99 15 [a0, some (.int x), a2, a3] (.int x :: st) I J Q := A_iload_n (q := 1) (ab_io ci99 (by decide +kernel)) rfl
theorem k99_15 : At 99 15 [a0, a1, some (.int x), a3] st I J Q ↔ At 99 16 [a0, a1, some (.int x), a3] (.int x :: st) I J Q := A_iload_n (q := 2) (ab_io ci99 (by decide +kernel)) rfl
theorem k99_16 : At 99 16 ls (.int x1 :: .int x :: st) I J Q ↔ if x = x1 then At 99 26 ls st I J Q else At 99 19 ls st I J Q := A_if_icmp_eq (o := 10) (ab_io ci99 (by decide +kernel)) (by decide)
theorem k99_19 : At 99 19 [a0, a1, a2, some (.int x)] st I J Q ↔ At 99 20 [a0, a1, a2, some (.int x)] (.int x :: st) I J Q := A_iload_n (q := 3) (ab_io ci99 (by decide +kernel)) rfl
theorem k99_20 : At 99 20 ls [.int p0] I J Q ↔ Cal 120 [.int p0] I J (fun v I' J' => At 99 23 ls (v.toList ++ []) I' J' Q) := A_cal (kd := 1) (j := 133) (na := 1) (ea := 1) (rk := 0) (by decide +kernel) rfl rfl rfl (Or.inl rfl) (Nat.le_of_ble_eq_true rfl)
theorem k99_23 : At 99 23 ls (.int x :: st) I J Q ↔ if ¬ x = 0 then At 99 29 ls st I J Q else At 99 26 ls st I J Q := A_ifCond_ne (o := 6) (ab_io ci99 (by decide +kernel)) (by decide)
theorem k99_26 : At 99 26 ls st I J Q ↔ At 99 28 ls (.int (-2) :: st) I J Q := A_bipush (ab_io ci99 (by decide +kernel)) bc_m2
theorem k99_28 : At 99 28 ls [.int x] I J Q ↔ Q (some (.int x)) I J := A_iret (ab_io ci99 (by decide +kernel)) rt99
theorem k99_29 : At 99 29 [some (.ref r), a1, a2, a3] st I J Q ↔ At 99 30 [some (.ref r), a1, a2, a3] (.ref r :: st) I J Q := A_aload_n (q := 0) (ab_io ci99 (by decide +kernel)) rfl
theorem k99_30 : At 99 30 ls [.ref 0] I J Q ↔ Cal 110 [.ref 0] I J (fun v I' J' => At 99 33 ls (v.toList ++ []) I' J' Q) := A_cal (kd := 0) (j := 121) (na := 1) (ea := 1) (rk := 0) (by decide +kernel) rfl rfl rfl (Or.inr rfl) (Nat.le_of_ble_eq_true rfl)
theorem k99_33 : At 99 33 [some (.ref r), a1, a2, a3] st I J Q ↔ At 99 34 [some (.ref r), a1, a2, a3] (.ref r :: st) I J Q := A_aload_n (q := 0) (ab_io ci99 (by decide +kernel)) rfl
theorem k99_34 : At 99 34 ls (.ref 0 :: st) I J Q ↔ At 99 37 ls (.ref 33 :: st) I J Q := A_getR (ab_io ci99 (by decide +kernel)) ow99 fq7_43_0
theorem k99_37 : At 99 37 [some (.ref r), a1, a2, a3] st I J Q ↔ At 99 38 [some (.ref r), a1, a2, a3] (.ref r :: st) I J Q := A_aload_n (q := 0) (ab_io ci99 (by decide +kernel)) rfl
theorem k99_38 : At 99 38 ls (.ref 0 :: st) I J Q ↔ At 99 41 ls (.ref 5 :: st) I J Q := A_getR (ab_io ci99 (by decide +kernel)) ow99 fq7_19_0
theorem k99_41 : At 99 41 [a0, some (.int x), a2, a3] st I J Q ↔ At 99 42 [a0, some (.int x), a2, a3] (.int x :: st) I J Q := A_iload_n (q := 1) (ab_io ci99 (by decide +kernel)) rfl
theorem k99_42 : At 99 42 [a0, a1, some (.int x), a3] st I J Q ↔ At 99 43 [a0, a1, some (.int x), a3] (.int x :: st) I J Q := A_iload_n (q := 2) (ab_io ci99 (by decide +kernel)) rfl
theorem k99_43 : At 99 43 ls [.int p0, .int p1, .ref pr2, .ref 33] I J Q ↔ Cal 1 [.ref 33, .ref pr2, .int p1, .int p0] I J (fun v I' J' => At 99 46 ls (v.toList ++ []) I' J' Q) := A_cal (kd := 0) (j := 258) (na := 4) (ea := 4) (rk := 33) (by decide +kernel) rfl rfl rfl (Or.inr rfl) (Nat.le_of_ble_eq_true rfl)
theorem k99_46 : At 99 46 [some (.ref r), a1, a2, a3] st I J Q ↔ At 99 47 [some (.ref r), a1, a2, a3] (.ref r :: st) I J Q := A_aload_n (q := 0) (ab_io ci99 (by decide +kernel)) rfl
theorem k99_47 : At 99 47 ls (.ref 0 :: st) I J Q ↔ At 99 50 ls (.ref 33 :: st) I J Q := A_getR (ab_io ci99 (by decide +kernel)) ow99 fq7_43_0
theorem k99_50 : At 99 50 ls (.ref 33 :: st) I J Q ↔ At 99 53 ls (.int (I 33 5) :: st) I J Q := A_getI (ab_io ci99 (by decide +kernel)) ow99 fq7_262_33
theorem k99_53 : At 99 53 ls st I J Q ↔ At 99 54 ls (.int (nI 2) :: st) I J Q := A_iconst (ab_io ci99 (by decide +kernel)) ic_2
theorem k99_54 : At 99 54 ls (.int x1 :: .int x :: st) I J Q ↔ if x1 ≤ x then At 99 60 ls st I J Q else At 99 57 ls st I J Q := A_if_icmp_ge (o := 6) (ab_io ci99 (by decide +kernel)) (by decide)
theorem k99_57 : At 99 57 ls st I J Q ↔ At 99 59 ls (.int (-3) :: st) I J Q := A_bipush (ab_io ci99 (by decide +kernel)) bc_m3
theorem k99_59 : At 99 59 ls [.int x] I J Q ↔ Q (some (.int x)) I J := A_iret (ab_io ci99 (by decide +kernel)) rt99
theorem k99_60 : At 99 60 [a0, a1, a2, some (.int x)] st I J Q ↔ At 99 61 [a0, a1, a2, some (.int x)] (.int x :: st) I J Q := A_iload_n (q := 3) (ab_io ci99 (by decide +kernel)) rfl
theorem k99_61 : At 99 61 ls (.int x :: st) I J Q ↔ if ¬ x = 0 then At 99 72 ls st I J Q else At 99 64 ls st I J Q := A_ifCond_ne (o := 11) (ab_io ci99 (by decide +kernel)) (by decide)
theorem k99_64 : At 99 64 [some (.ref r), a1, a2, a3] st I J Q ↔ At 99 65 [some (.ref r), a1, a2, a3] (.ref r :: st) I J Q := A_aload_n (q := 0) (ab_io ci99 (by decide +kernel)) rfl
theorem k99_65 : At 99 65 ls (.ref 0 :: st) I J Q ↔ At 99 68 ls (.ref 33 :: st) I J Q := A_getR (ab_io ci99 (by decide +kernel)) ow99 fq7_43_0
theorem k99_68 : At 99 68 ls [.ref 33] I J Q ↔ Cal 2 [.ref 33] I J (fun v I' J' => At 99 71 ls (v.toList ++ []) I' J' Q) := A_cal (kd := 0) (j := 263) (na := 1) (ea := 1) (rk := 33) (by decide +kernel) rfl rfl rfl (Or.inr rfl) (Nat.le_of_ble_eq_true rfl)
theorem k99_71 : At 99 71 ls [.int x] I J Q ↔ Q (some (.int x)) I J := A_iret (ab_io ci99 (by decide +kernel)) rt99
theorem k99_72 : At 99 72 [some (.ref r), a1, a2, a3] st I J Q ↔ At 99 73 [some (.ref r), a1, a2, a3] (.ref r :: st) I J Q := A_aload_n (q := 0) (ab_io ci99 (by decide +kernel)) rfl
theorem k99_73 : At 99 73 ls (.ref 0 :: st) I J Q ↔ At 99 76 ls (.ref 33 :: st) I J Q := A_getR (ab_io ci99 (by decide +kernel)) ow99 fq7_43_0
theorem k99_76 : At 99 76 ls (.ref 33 :: st) I J Q ↔ At 99 79 ls (.int (I 33 5) :: st) I J Q := A_getI (ab_io ci99 (by decide +kernel)) ow99 fq7_262_33
theorem k99_79 : At 99 79 ls st I J Q ↔ At 99 81 ls (.int (nI 7) :: st) I J Q := A_bipush (ab_io ci99 (by decide +kernel)) bc_7
theorem k99_81 : At 99 81 ls (.int x1 :: .int x :: st) I J Q ↔ if x ≤ x1 then At 99 89 ls st I J Q else At 99 84 ls st I J Q := A_if_icmp_le (o := 8) (ab_io ci99 (by decide +kernel)) (by decide)
theorem k99_84 : At 99 84 ls st I J Q ↔ At 99 86 ls (.int (-4) :: st) I J Q := A_bipush (ab_io ci99 (by decide +kernel)) bc_m4
theorem k99_86 : At 99 86 ls st I J Q ↔ At 99 96 ls st I J Q := A_goto (o := 10) (ab_io ci99 (by decide +kernel)) (by decide)
theorem k99_89 : At 99 89 [some (.ref r), a1, a2, a3] st I J Q ↔ At 99 90 [some (.ref r), a1, a2, a3] (.ref r :: st) I J Q := A_aload_n (q := 0) (ab_io ci99 (by decide +kernel)) rfl
theorem k99_90 : At 99 90 ls (.ref 0 :: st) I J Q ↔ At 99 93 ls (.ref 33 :: st) I J Q := A_getR (ab_io ci99 (by decide +kernel)) ow99 fq7_43_0
theorem k99_93 : At 99 93 ls [.ref 33] I J Q ↔ Cal 3 [.ref 33] I J (fun v I' J' => At 99 96 ls (v.toList ++ []) I' J' Q) := A_cal (kd := 0) (j := 266) (na := 1) (ea := 1) (rk := 33) (by decide +kernel) rfl rfl rfl (Or.inr rfl) (Nat.le_of_ble_eq_true rfl)
theorem k99_96 : At 99 96 ls [.int x] I J Q ↔ Q (some (.int x)) I J := A_iret (ab_io ci99 (by decide +kernel)) rt99
theorem k100_0 : At 100 0 [some (.ref r), a1, a2, a3, a4] st I J Q ↔ At 100 1 [some (.ref r), a1, a2, a3, a4] (.ref r :: st) I J Q := A_aload_n (q := 0) (ab_io ci100 (by decide +kernel)) rfl
theorem k100_1 : At 100 1 ls [.ref 0] I J Q ↔ Cal 110 [.ref 0] I J (fun v I' J' => At 100 4 ls (v.toList ++ []) I' J' Q) := A_cal (kd := 0) (j := 121) (na := 1) (ea := 1) (rk := 0) (by decide +kernel) rfl rfl rfl (Or.inr rfl) (Nat.le_of_ble_eq_true rfl)
theorem k100_4 : At 100 4 ls st I J Q ↔ At 100 5 ls (.int (-1) :: st) I J Q := A_iconst (ab_io ci100 (by decide +kernel)) ic_m1
theorem k100_5 : At 100 5 [a0, a1, a2, a3, a4] (.int x :: st) I J Q ↔ At 100 6 [ab_nv a0, some (.int x), a2, a3, a4] st I J Q := A_istore_n (q := 1) (ab_io ci100 (by decide +kernel)) (Nat.le_of_ble_eq_true rfl) rfl
theorem k100_6 : At 100 6 ls st I J Q ↔ At 100 9 ls (.long (-1) :: st) I J Q := A_ldc2_w (j := 269) (q := 723) (ab_io ci100 (by decide +kernel)) ow100 (by decide +kernel)
theorem k100_9 : At 100 9 [a0, a1, a2, a3, a4] (.long u :: st) I J Q ↔ At 100 10 [a0, ab_nv a1, some (.long u), none, a4] st I J Q := A_lstore_n (q := 2) (ab_io ci100 (by decide +kernel)) (Nat.le_of_ble_eq_true rfl) rfl
theorem k100_10 : At 100 10 ls st I J Q ↔ At 100 11 ls (.int (nI 0) :: st) I J Q := A_iconst (ab_io ci100 (by decide +kernel)) ic_0
theorem k100_11 : At 100 11 [a0, a1, a2, a3, a4] (.int x :: st) I J Q ↔ At 100 13 [a0, a1, a2, ab_nv a3, some (.int x)] st I J Q := A_istore (q := 4) (ab_io ci100 (by decide +kernel)) (Nat.le_of_ble_eq_true rfl) rfl
theorem k100_13 : At 100 13 [a0, a1, a2, a3, some (.int x)] st I J Q ↔ At 100 15 [a0, a1, a2, a3, some (.int x)] (.int x :: st) I J Q := A_iload (q := 4) (ab_io ci100 (by decide +kernel)) rfl
theorem k100_15 : At 100 15 ls st I J Q ↔ At 100 17 ls (.int (nI 48) :: st) I J Q := A_bipush (ab_io ci100 (by decide +kernel)) bc_48
theorem k100_17 : At 100 17 ls (.int x1 :: .int x :: st) I J Q ↔ if x1 ≤ x then At 100 73 ls st I J Q else At 100 20 ls st I J Q := A_if_icmp_ge (o := 56) (ab_io ci100 (by decide +kernel)) (by decide)
theorem k100_20 : At 100 20 [some (.ref r), a1, a2, a3, a4] st I J Q ↔ At 100 21 [some (.ref r), a1, a2, a3, a4] (.ref r :: st) I J Q := A_aload_n (q := 0) (ab_io ci100 (by decide +kernel)) rfl
theorem k100_21 : At 100 21 ls (.ref 0 :: st) I J Q ↔ At 100 24 ls (.ref 5 :: st) I J Q := A_getR (ab_io ci100 (by decide +kernel)) ow100 fq7_19_0
theorem k100_24_5 : At 100 24 ls (.ref 5 :: st) I J Q ↔ At 100 27 ls (.ref 6 :: st) I J Q := A_getR (ab_io ci100 (by decide +kernel)) ow100 fq7_124_5
theorem k100_24_17 : At 100 24 ls (.ref 17 :: st) I J Q ↔ At 100 27 ls (.ref 18 :: st) I J Q := A_getR (ab_io ci100 (by decide +kernel)) ow100 fq7_124_17
theorem k100_27 : At 100 27 [a0, a1, a2, a3, some (.int x)] st I J Q ↔ At 100 29 [a0, a1, a2, a3, some (.int x)] (.int x :: st) I J Q := A_iload (q := 4) (ab_io ci100 (by decide +kernel)) rfl
theorem k100_29 : At 100 29 ls (.int x :: .ref r :: st) I J Q ↔ ((ab_ly r).1 = 1 ∧ r < 75 ∧ 0 ≤ x.toInt ∧ x.toInt < (ab_ly r).2) ∧ At 100 30 ls (.int (I r x.toNatClampNeg) :: st) I J Q := A_iaload (ab_io ci100 (by decide +kernel))
theorem k100_30 : At 100 30 ls st I J Q ↔ At 100 31 ls (.int (-1) :: st) I J Q := A_iconst (ab_io ci100 (by decide +kernel)) ic_m1
theorem k100_31 : At 100 31 ls (.int x1 :: .int x :: st) I J Q ↔ if x = x1 then At 100 67 ls st I J Q else At 100 34 ls st I J Q := A_if_icmp_eq (o := 36) (ab_io ci100 (by decide +kernel)) (by decide)
theorem k100_34 : At 100 34 [some (.ref r), a1, a2, a3, a4] st I J Q ↔ At 100 35 [some (.ref r), a1, a2, a3, a4] (.ref r :: st) I J Q := A_aload_n (q := 0) (ab_io ci100 (by decide +kernel)) rfl
theorem k100_35 : At 100 35 ls (.ref 0 :: st) I J Q ↔ At 100 38 ls (.ref 5 :: st) I J Q := A_getR (ab_io ci100 (by decide +kernel)) ow100 fq7_19_0
theorem k100_38 : At 100 38 [a0, a1, a2, a3, some (.int x)] st I J Q ↔ At 100 40 [a0, a1, a2, a3, some (.int x)] (.int x :: st) I J Q := A_iload (q := 4) (ab_io ci100 (by decide +kernel)) rfl
theorem k100_40_5 : At 100 40 ls [.int p0, .ref 5] I J Q ↔ Cal 30 [.ref 5, .int p0] I J (fun v I' J' => At 100 43 ls (v.toList ++ []) I' J' Q) := A_cal (kd := 0) (j := 162) (na := 2) (ea := 2) (rk := 5) (by decide +kernel) rfl rfl rfl (Or.inr rfl) (Nat.le_of_ble_eq_true rfl)
theorem k100_40_17 : At 100 40 ls [.int p0, .ref 17] I J Q ↔ Cal 30 [.ref 17, .int p0] I J (fun v I' J' => At 100 43 ls (v.toList ++ []) I' J' Q) := A_cal (kd := 0) (j := 162) (na := 2) (ea := 2) (rk := 17) (by decide +kernel) rfl rfl rfl (Or.inr rfl) (Nat.le_of_ble_eq_true rfl)
theorem k100_43 : At 100 43 ls [.long u] I J Q ↔ At 100 46 ls [.long (if 0 < u then u else -u)] I J Q := A_abs (j := 271) (q0 := 0) (q1 := 489) (by decide +kernel) (Nat.le_of_ble_eq_true rfl)
theorem k100_46 : At 100 46 [a0, a1, some (.long u), a3, a4] st I J Q ↔ At 100 47 [a0, a1, some (.long u), a3, a4] (.long u :: st) I J Q := A_lload_n (q := 2) (ab_io ci100 (by decide +kernel)) rfl
theorem k100_47 : At 100 47 ls (.long u1 :: .long u :: st) I J Q ↔ At 100 48 ls (.int (lg_cmp u u1) :: st) I J Q := A_lcmp (ab_io ci100 (by decide +kernel))
theorem k100_48 : At 100 48 ls (.int x :: st) I J Q ↔ if x ≤ 0 then At 100 67 ls st I J Q else At 100 51 ls st I J Q := A_ifCond_le (o := 19) (ab_io ci100 (by decide +kernel)) (by decide)
theorem k100_51 : At 100 51 [some (.ref r), a1, a2, a3, a4] st I J Q ↔ At 100 52 [some (.ref r), a1, a2, a3, a4] (.ref r :: st) I J Q := A_aload_n (q := 0) (ab_io ci100 (by decide +kernel)) rfl
theorem k100_52 : At 100 52 ls (.ref 0 :: st) I J Q ↔ At 100 55 ls (.ref 5 :: st) I J Q := A_getR (ab_io ci100 (by decide +kernel)) ow100 fq7_19_0
theorem k100_55 : At 100 55 [a0, a1, a2, a3, some (.int x)] st I J Q ↔ At 100 57 [a0, a1, a2, a3, some (.int x)] (.int x :: st) I J Q := A_iload (q := 4) (ab_io ci100 (by decide +kernel)) rfl
theorem k100_57_5 : At 100 57 ls [.int p0, .ref 5] I J Q ↔ Cal 30 [.ref 5, .int p0] I J (fun v I' J' => At 100 60 ls (v.toList ++ []) I' J' Q) := A_cal (kd := 0) (j := 162) (na := 2) (ea := 2) (rk := 5) (by decide +kernel) rfl rfl rfl (Or.inr rfl) (Nat.le_of_ble_eq_true rfl)
theorem k100_57_17 : At 100 57 ls [.int p0, .ref 17] I J Q ↔ Cal 30 [.ref 17, .int p0] I J (fun v I' J' => At 100 60 ls (v.toList ++ []) I' J' Q) := A_cal (kd := 0) (j := 162) (na := 2) (ea := 2) (rk := 17) (by decide +kernel) rfl rfl rfl (Or.inr rfl) (Nat.le_of_ble_eq_true rfl)
theorem k100_60 : At 100 60 ls [.long u] I J Q ↔ At 100 63 ls [.long (if 0 < u then u else -u)] I J Q := A_abs (j := 271) (q0 := 0) (q1 := 489) (by decide +kernel) (Nat.le_of_ble_eq_true rfl)
theorem k100_63 : At 100 63 [a0, a1, a2, a3, a4] (.long u :: st) I J Q ↔ At 100 64 [a0, ab_nv a1, some (.long u), none, a4] st I J Q := A_lstore_n (q := 2) (ab_io ci100 (by decide +kernel)) (Nat.le_of_ble_eq_true rfl) rfl
theorem k100_64 : At 100 64 [a0, a1, a2, a3, some (.int x)] st I J Q ↔ At 100 66 [a0, a1, a2, a3, some (.int x)] (.int x :: st) I J Q := A_iload (q := 4) (ab_io ci100 (by decide +kernel)) rfl
theorem k100_66 : At 100 66 [a0, a1, a2, a3, a4] (.int x :: st) I J Q ↔ At 100 67 [ab_nv a0, some (.int x), a2, a3, a4] st I J Q := A_istore_n (q := 1) (ab_io ci100 (by decide +kernel)) (Nat.le_of_ble_eq_true rfl) rfl
theorem k100_67 : At 100 67 [a0, a1, a2, a3, some (.int x)] st I J Q ↔ At 100 70 [a0, a1, a2, ab_nv a3, some (.int (x + (nI 1)))] st I J Q := A_iinc (q := 4) (ab_io ci100 (by decide +kernel)) ic_1 (Nat.le_of_ble_eq_true rfl) rfl rfl
theorem k100_70 : At 100 70 ls st I J Q ↔ At 100 13 ls st I J Q := A_goto (o := (-57)) (ab_io ci100 (by decide +kernel)) (by decide)
theorem k100_73 : At 100 73 [a0, some (.int x), a2, a3, a4] st I J Q ↔ At 100 74 [a0, some (.int x), a2, a3, a4] (.int x :: st) I J Q := A_iload_n (q := 1) (ab_io ci100 (by decide +kernel)) rfl
theorem k100_74 : At 100 74 ls [.int x] I J Q ↔ Q (some (.int x)) I J := A_iret (ab_io ci100 (by decide +kernel)) rt100
theorem k101_0 : At 101 0 [a0, some (.int x), a2, a3, a4] st I J Q ↔ At 101 1 [a0, some (.int x), a2, a3, a4] (.int x :: st) I J Q := A_iload_n (q := 1) (ab_io ci101 (by decide +kernel)) rfl
theorem k101_1 : At 101 1 ls [.int p0] I J Q ↔ Cal 116 [.int p0] I J (fun v I' J' => At 101 4 ls (v.toList ++ []) I' J' Q) := A_cal (kd := 1) (j := 76) (na := 1) (ea := 1) (rk := 0) (by decide +kernel) rfl rfl rfl (Or.inl rfl) (Nat.le_of_ble_eq_true rfl)
theorem k101_4 : At 101 4 ls (.int x :: st) I J Q ↔ if x = 0 then At 101 21 ls st I J Q else At 101 7 ls st I J Q := A_ifCond_eq (o := 17) (ab_io ci101 (by decide +kernel)) (by decide)
theorem k101_7 : At 101 7 [a0, a1, some (.int x), a3, a4] st I J Q ↔ At 101 8 [a0, a1, some (.int x), a3, a4] (.int x :: st) I J Q := A_iload_n (q := 2) (ab_io ci101 (by decide +kernel)) rfl
theorem k101_8 : At 101 8 ls [.int p0] I J Q ↔ Cal 117 [.int p0] I J (fun v I' J' => At 101 11 ls (v.toList ++ []) I' J' Q) := A_cal (kd := 1) (j := 80) (na := 1) (ea := 1) (rk := 0) (by decide +kernel) rfl rfl rfl (Or.inl rfl) (Nat.le_of_ble_eq_true rfl)
theorem k101_11 : At 101 11 ls (.int x :: st) I J Q ↔ if x = 0 then At 101 21 ls st I J Q else At 101 14 ls st I J Q := A_ifCond_eq (o := 10) (ab_io ci101 (by decide +kernel)) (by decide)
theorem k101_14 : At 101 14 [a0, a1, a2, some (.int x), a4] st I J Q ↔ At 101 15 [a0, a1, a2, some (.int x), a4] (.int x :: st) I J Q := A_iload_n (q := 3) (ab_io ci101 (by decide +kernel)) rfl
theorem k101_15 : At 101 15 ls [.int p0] I J Q ↔ Cal 120 [.int p0] I J (fun v I' J' => At 101 18 ls (v.toList ++ []) I' J' Q) := A_cal (kd := 1) (j := 133) (na := 1) (ea := 1) (rk := 0) (by decide +kernel) rfl rfl rfl (Or.inl rfl) (Nat.le_of_ble_eq_true rfl)
theorem k101_18 : At 101 18 ls (.int x :: st) I J Q ↔ if ¬ x = 0 then At 101 27 ls st I J Q else At 101 21 ls st I J Q := A_ifCond_ne (o := 9) (ab_io ci101 (by decide +kernel)) (by decide)
theorem k101_21 : At 101 21 ls st I J Q ↔ At 101 23 ls (.int (-2) :: st) I J Q := A_bipush (ab_io ci101 (by decide +kernel)) bc_m2
theorem k101_23 : At 101 23 ls [.int p0] I J Q ↔ Cal 121 [.int p0] I J (fun v I' J' => At 101 26 ls (v.toList ++ []) I' J' Q) := A_cal (kd := 1) (j := 136) (na := 1) (ea := 1) (rk := 0) (by decide +kernel) rfl rfl rfl (Or.inl rfl) (Nat.le_of_ble_eq_true rfl)
theorem k101_26 : At 101 26 ls [.long u] I J Q ↔ Q (some (.long u)) I J := A_lret (ab_io ci101 (by decide +kernel)) rt101
theorem k101_27 : At 101 27 [some (.ref r), a1, a2, a3, a4] st I J Q ↔ At 101 28 [some (.ref r), a1, a2, a3, a4] (.ref r :: st) I J Q := A_aload_n (q := 0) (ab_io ci101 (by decide +kernel)) rfl
theorem k101_28 : At 101 28 ls [.ref 0] I J Q ↔ Cal 110 [.ref 0] I J (fun v I' J' => At 101 31 ls (v.toList ++ []) I' J' Q) := A_cal (kd := 0) (j := 121) (na := 1) (ea := 1) (rk := 0) (by decide +kernel) rfl rfl rfl (Or.inr rfl) (Nat.le_of_ble_eq_true rfl)
theorem k101_31 : At 101 31 ls st I J Q ↔ At 101 32 ls (.int (nI 4) :: st) I J Q := A_iconst (ab_io ci101 (by decide +kernel)) ic_4
theorem k101_32 : At 101 32 [a0, some (.int x), a2, a3, a4] st I J Q ↔ At 101 33 [a0, some (.int x), a2, a3, a4] (.int x :: st) I J Q := A_iload_n (q := 1) (ab_io ci101 (by decide +kernel)) rfl
theorem k101_33 : At 101 33 ls (.int x1 :: .int x :: st) I J Q ↔ At 101 34 ls (.int (x * x1) :: st) I J Q := A_imul (ab_io ci101 (by decide +kernel))
theorem k101_34 : At 101 34 [a0, a1, some (.int x), a3, a4] st I J Q ↔ At 101 35 [a0, a1, some (.int x), a3, a4] (.int x :: st) I J Q := A_iload_n (q := 2) (ab_io ci101 (by decide +kernel)) rfl
theorem k101_35 : At 101 35 ls (.int x1 :: .int x :: st) I J Q ↔ At 101 36 ls (.int (x + x1) :: st) I J Q := A_iadd (ab_io ci101 (by decide +kernel))
theorem k101_36 : At 101 36 [a0, a1, a2, a3, a4] (.int x :: st) I J Q ↔ At 101 38 [a0, a1, a2, ab_nv a3, some (.int x)] st I J Q := A_istore (q := 4) (ab_io ci101 (by decide +kernel)) (Nat.le_of_ble_eq_true rfl) rfl
theorem k101_38 : At 101 38 [some (.ref r), a1, a2, a3, a4] st I J Q ↔ At 101 39 [some (.ref r), a1, a2, a3, a4] (.ref r :: st) I J Q := A_aload_n (q := 0) (ab_io ci101 (by decide +kernel)) rfl
theorem k101_39 : At 101 39 ls (.ref 0 :: st) I J Q ↔ At 101 42 ls (.ref 5 :: st) I J Q := A_getR (ab_io ci101 (by decide +kernel)) ow101 fq7_19_0
theorem k101_42_5 : At 101 42 ls (.ref 5 :: st) I J Q ↔ At 101 45 ls (.ref 6 :: st) I J Q := A_getR (ab_io ci101 (by decide +kernel)) ow101 fq7_124_5
theorem k101_42_17 : At 101 42 ls (.ref 17 :: st) I J Q ↔ At 101 45 ls (.ref 18 :: st) I J Q := A_getR (ab_io ci101 (by decide +kernel)) ow101 fq7_124_17
theorem k101_45 : At 101 45 [a0, a1, a2, a3, some (.int x)] st I J Q ↔ At 101 47 [a0, a1, a2, a3, some (.int x)] (.int x :: st) I J Q := A_iload (q := 4) (ab_io ci101 (by decide +kernel)) rfl
theorem k101_47 : At 101 47 ls (.int x :: .ref r :: st) I J Q ↔ ((ab_ly r).1 = 1 ∧ r < 75 ∧ 0 ≤ x.toInt ∧ x.toInt < (ab_ly r).2) ∧ At 101 48 ls (.int (I r x.toNatClampNeg) :: st) I J Q := A_iaload (ab_io ci101 (by decide +kernel))
theorem k101_48 : At 101 48 ls st I J Q ↔ At 101 49 ls (.int (-1) :: st) I J Q := A_iconst (ab_io ci101 (by decide +kernel)) ic_m1
theorem k101_49 : At 101 49 ls (.int x1 :: .int x :: st) I J Q ↔ if ¬ x = x1 then At 101 58 ls st I J Q else At 101 52 ls st I J Q := A_if_icmp_ne (o := 9) (ab_io ci101 (by decide +kernel)) (by decide)
theorem k101_52 : At 101 52 ls st I J Q ↔ At 101 54 ls (.int (-3) :: st) I J Q := A_bipush (ab_io ci101 (by decide +kernel)) bc_m3
theorem k101_54 : At 101 54 ls [.int p0] I J Q ↔ Cal 121 [.int p0] I J (fun v I' J' => At 101 57 ls (v.toList ++ []) I' J' Q) := A_cal (kd := 1) (j := 136) (na := 1) (ea := 1) (rk := 0) (by decide +kernel) rfl rfl rfl (Or.inl rfl) (Nat.le_of_ble_eq_true rfl)
theorem k101_57 : At 101 57 ls [.long u] I J Q ↔ Q (some (.long u)) I J := A_lret (ab_io ci101 (by decide +kernel)) rt101
theorem k101_58 : At 101 58 [some (.ref r), a1, a2, a3, a4] st I J Q ↔ At 101 59 [some (.ref r), a1, a2, a3, a4] (.ref r :: st) I J Q := A_aload_n (q := 0) (ab_io ci101 (by decide +kernel)) rfl
theorem k101_59 : At 101 59 ls (.ref 0 :: st) I J Q ↔ At 101 62 ls (.ref 17 :: st) I J Q := A_getR (ab_io ci101 (by decide +kernel)) ow101 fq7_23_0
theorem k101_62 : At 101 62 [some (.ref r), a1, a2, a3, a4] st I J Q ↔ At 101 63 [some (.ref r), a1, a2, a3, a4] (.ref r :: st) I J Q := A_aload_n (q := 0) (ab_io ci101 (by decide +kernel)) rfl
theorem k101_63 : At 101 63 ls (.ref 0 :: st) I J Q ↔ At 101 66 ls (.ref 5 :: st) I J Q := A_getR (ab_io ci101 (by decide +kernel)) ow101 fq7_19_0
theorem k101_66 : At 101 66 [a0, a1, a2, a3, some (.int x)] st I J Q ↔ At 101 68 [a0, a1, a2, a3, some (.int x)] (.int x :: st) I J Q := A_iload (q := 4) (ab_io ci101 (by decide +kernel)) rfl
theorem k101_68 : At 101 68 ls st I J Q ↔ At 101 69 ls (.int (-1) :: st) I J Q := A_iconst (ab_io ci101 (by decide +kernel)) ic_m1
theorem k101_69_5 : At 101 69 ls [.int p0, .int p1, .ref pr2, .ref 5] I J Q ↔ Cal 16 [.ref 5, .ref pr2, .int p1, .int p0] I J (fun v I' J' => At 101 72 ls (v.toList ++ []) I' J' Q) := A_cal (kd := 0) (j := 277) (na := 4) (ea := 4) (rk := 5) (by decide +kernel) rfl rfl rfl (Or.inr rfl) (Nat.le_of_ble_eq_true rfl)
theorem k101_69_17 : At 101 69 ls [.int p0, .int p1, .ref pr2, .ref 17] I J Q ↔ Cal 16 [.ref 17, .ref pr2, .int p1, .int p0] I J (fun v I' J' => At 101 72 ls (v.toList ++ []) I' J' Q) := A_cal (kd := 0) (j := 277) (na := 4) (ea := 4) (rk := 17) (by decide +kernel) rfl rfl rfl (Or.inr rfl) (Nat.le_of_ble_eq_true rfl)
theorem k101_72 : At 101 72 [some (.ref r), a1, a2, a3, a4] st I J Q ↔ At 101 73 [some (.ref r), a1, a2, a3, a4] (.ref r :: st) I J Q := A_aload_n (q := 0) (ab_io ci101 (by decide +kernel)) rfl
theorem k101_73 : At 101 73 ls (.ref 0 :: st) I J Q ↔ At 101 76 ls (.ref 17 :: st) I J Q := A_getR (ab_io ci101 (by decide +kernel)) ow101 fq7_23_0
theorem k101_76_5 : At 101 76 ls [.ref 5] I J Q ↔ Cal 27 [.ref 5] I J (fun v I' J' => At 101 79 ls (v.toList ++ []) I' J' Q) := A_cal (kd := 0) (j := 280) (na := 1) (ea := 1) (rk := 5) (by decide +kernel) rfl rfl rfl (Or.inr rfl) (Nat.le_of_ble_eq_true rfl)
theorem k101_76_17 : At 101 76 ls [.ref 17] I J Q ↔ Cal 27 [.ref 17] I J (fun v I' J' => At 101 79 ls (v.toList ++ []) I' J' Q) := A_cal (kd := 0) (j := 280) (na := 1) (ea := 1) (rk := 17) (by decide +kernel) rfl rfl rfl (Or.inr rfl) (Nat.le_of_ble_eq_true rfl)
theorem k101_79 : At 101 79 [some (.ref r), a1, a2, a3, a4] st I J Q ↔ At 101 80 [some (.ref r), a1, a2, a3, a4] (.ref r :: st) I J Q := A_aload_n (q := 0) (ab_io ci101 (by decide +kernel)) rfl
theorem k101_80 : At 101 80 ls (.ref 0 :: st) I J Q ↔ At 101 83 ls (.ref 17 :: st) I J Q := A_getR (ab_io ci101 (by decide +kernel)) ow101 fq7_23_0
theorem k101_83 : At 101 83 [some (.ref r), a1, a2, a3, a4] st I J Q ↔ At 101 84 [some (.ref r), a1, a2, a3, a4] (.ref r :: st) I J Q := A_aload_n (q := 0) (ab_io ci101 (by decide +kernel)) rfl
theorem k101_84 : At 101 84 ls (.ref 0 :: st) I J Q ↔ At 101 87 ls (.ref 5 :: st) I J Q := A_getR (ab_io ci101 (by decide +kernel)) ow101 fq7_19_0
theorem k101_87_5 : At 101 87 ls (.ref 5 :: st) I J Q ↔ At 101 90 ls (.ref 9 :: st) I J Q := A_getR (ab_io ci101 (by decide +kernel)) ow101 fq7_165_5
theorem k101_87_17 : At 101 87 ls (.ref 17 :: st) I J Q ↔ At 101 90 ls (.ref 21 :: st) I J Q := A_getR (ab_io ci101 (by decide +kernel)) ow101 fq7_165_17
theorem k101_90 : At 101 90 [a0, a1, some (.int x), a3, a4] st I J Q ↔ At 101 91 [a0, a1, some (.int x), a3, a4] (.int x :: st) I J Q := A_iload_n (q := 2) (ab_io ci101 (by decide +kernel)) rfl
theorem k101_91 : At 101 91 ls (.int x :: .ref r :: st) I J Q ↔ ((ab_ly r).1 = 1 ∧ r < 75 ∧ 0 ≤ x.toInt ∧ x.toInt < (ab_ly r).2) ∧ At 101 92 ls (.int (I r x.toNatClampNeg) :: st) I J Q := A_iaload (ab_io ci101 (by decide +kernel))
theorem k101_92_5 : At 101 92 ls [.int p0, .ref 5] I J Q ↔ Cal 31 [.ref 5, .int p0] I J (fun v I' J' => At 101 95 ls (v.toList ++ []) I' J' Q) := A_cal (kd := 0) (j := 168) (na := 2) (ea := 2) (rk := 5) (by decide +kernel) rfl rfl rfl (Or.inr rfl) (Nat.le_of_ble_eq_true rfl)
theorem k101_92_17 : At 101 92 ls [.int p0, .ref 17] I J Q ↔ Cal 31 [.ref 17, .int p0] I J (fun v I' J' => At 101 95 ls (v.toList ++ []) I' J' Q) := A_cal (kd := 0) (j := 168) (na := 2) (ea := 2) (rk := 17) (by decide +kernel) rfl rfl rfl (Or.inr rfl) (Nat.le_of_ble_eq_true rfl)
theorem k101_95 : At 101 95 [some (.ref r), a1, a2, a3, a4] st I J Q ↔ At 101 96 [some (.ref r), a1, a2, a3, a4] (.ref r :: st) I J Q := A_aload_n (q := 0) (ab_io ci101 (by decide +kernel)) rfl
theorem k101_96 : At 101 96 ls (.ref 0 :: st) I J Q ↔ At 101 99 ls (.ref 17 :: st) I J Q := A_getR (ab_io ci101 (by decide +kernel)) ow101 fq7_23_0
theorem k101_99_5 : At 101 99 ls [.ref 5, .long qu0] I J Q ↔ Cal 15 [.ref 5] I J (fun v I' J' => At 101 102 ls (v.toList ++ [.long qu0]) I' J' Q) := A_cal (kd := 0) (j := 158) (na := 1) (ea := 1) (rk := 5) (by decide +kernel) rfl rfl rfl (Or.inr rfl) (Nat.le_of_ble_eq_true rfl)
theorem k101_99_17 : At 101 99 ls [.ref 17, .long qu0] I J Q ↔ Cal 15 [.ref 17] I J (fun v I' J' => At 101 102 ls (v.toList ++ [.long qu0]) I' J' Q) := A_cal (kd := 0) (j := 158) (na := 1) (ea := 1) (rk := 17) (by decide +kernel) rfl rfl rfl (Or.inr rfl) (Nat.le_of_ble_eq_true rfl)
theorem k101_102 : At 101 102 [a0, a1, a2, some (.int x), a4] st I J Q ↔ At 101 103 [a0, a1, a2, some (.int x), a4] (.int x :: st) I J Q := A_iload_n (q := 3) (ab_io ci101 (by decide +kernel)) rfl
theorem k101_103 : At 101 103 ls [.int p0, .long pu1, .long pu2] I J Q ↔ Cal 122 [.long pu2, .long pu1, .int p0] I J (fun v I' J' => At 101 106 ls (v.toList ++ []) I' J' Q) := A_cal (kd := 1) (j := 148) (na := 3) (ea := 5) (rk := 0) (by decide +kernel) rfl rfl rfl (Or.inl rfl) (Nat.le_of_ble_eq_true rfl)
theorem k101_106 : At 101 106 ls [.long u] I J Q ↔ Q (some (.long u)) I J := A_lret (ab_io ci101 (by decide +kernel)) rt101
theorem k102_0 : At 102 0 [a0, some (.int x), a2, a3] st I J Q ↔ At 102 1 [a0, some (.int x), a2, a3] (.int x :: st) I J Q := A_iload_n (q := 1) (ab_io ci102 (by decide +kernel)) rfl
theorem k102_1 : At 102 1 ls [.int p0] I J Q ↔ Cal 118 [.int p0] I J (fun v I' J' => At 102 4 ls (v.toList ++ []) I' J' Q) := A_cal (kd := 1) (j := 97) (na := 1) (ea := 1) (rk := 0) (by decide +kernel) rfl rfl rfl (Or.inl rfl) (Nat.le_of_ble_eq_true rfl)
theorem k102_4 : At 102 4 ls (.int x :: st) I J Q ↔ if x = 0 then At 102 20 ls st I J Q else At 102 7 ls st I J Q := A_ifCond_eq (o := 16) (ab_io ci102 (by decide +kernel)) (by decide)
theorem k102_7 : At 102 7 [a0, a1, some (.int x), a3] st I J Q ↔ At 102 8 [a0, a1, some (.int x), a3] (.int x :: st) I J Q := A_iload_n (q := 2) (ab_io ci102 (by decide +kernel)) rfl
theorem k102_8 : At 102 8 ls [.int p0] I J Q ↔ Cal 119 [.int p0] I J (fun v I' J' => At 102 11 ls (v.toList ++ []) I' J' Q) := A_cal (kd := 1) (j := 283) (na := 1) (ea := 1) (rk := 0) (by decide +kernel) rfl rfl rfl (Or.inl rfl) (Nat.le_of_ble_eq_true rfl)
theorem k102_11 : At 102 11 ls (.int x :: st) I J Q ↔ if x = 0 then At 102 20 ls st I J Q else At 102 14 ls st I J Q := A_ifCond_eq (o := 9) (ab_io ci102 (by decide +kernel)) (by decide)
theorem k102_14 : At 102 14 [a0, a1, a2, some (.int x)] st I J Q ↔ At 102 15 [a0, a1, a2, some (.int x)] (.int x :: st) I J Q := A_iload_n (q := 3) (ab_io ci102 (by decide +kernel)) rfl
theorem k102_15 : At 102 15 ls st I J Q ↔ At 102 17 ls (.int (nI 48) :: st) I J Q := A_bipush (ab_io ci102 (by decide +kernel)) bc_48
theorem k102_17 : At 102 17 ls (.int x1 :: .int x :: st) I J Q ↔ if x ≤ x1 then At 102 23 ls st I J Q else At 102 20 ls st I J Q := A_if_icmp_le (o := 6) (ab_io ci102 (by decide +kernel)) (by decide)
theorem k102_20 : At 102 20 ls st I J Q ↔ At 102 22 ls (.int (-2) :: st) I J Q := A_bipush (ab_io ci102 (by decide +kernel)) bc_m2
theorem k102_22 : At 102 22 ls [.int x] I J Q ↔ Q (some (.int x)) I J := A_iret (ab_io ci102 (by decide +kernel)) rt102
theorem k102_23 : At 102 23 [a0, a1, a2, some (.int x)] st I J Q ↔ At 102 24 [a0, a1, a2, some (.int x)] (.int x :: st) I J Q := A_iload_n (q := 3) (ab_io ci102 (by decide +kernel)) rfl
theorem k102_24 : At 102 24 ls (.int x :: st) I J Q ↔ if 0 ≤ x then At 102 33 ls st I J Q else At 102 27 ls st I J Q := A_ifCond_ge (o := 9) (ab_io ci102 (by decide +kernel)) (by decide)
theorem k102_27 : At 102 27 [some (.ref r), a1, a2, a3] st I J Q ↔ At 102 28 [some (.ref r), a1, a2, a3] (.ref r :: st) I J Q := A_aload_n (q := 0) (ab_io ci102 (by decide +kernel)) rfl
theorem k102_28 : At 102 28 ls st I J Q ↔ At 102 29 ls (.int (nI 5) :: st) I J Q := A_iconst (ab_io ci102 (by decide +kernel)) ic_5
theorem k102_29 : At 102 29 ls [.int p0, .ref 0] I J Q ↔ Cal 111 [.ref 0, .int p0] I J (fun v I' J' => At 102 32 ls (v.toList ++ []) I' J' Q) := A_cal (kd := 0) (j := 103) (na := 2) (ea := 2) (rk := 0) (by decide +kernel) rfl rfl rfl (Or.inr rfl) (Nat.le_of_ble_eq_true rfl)
theorem k102_32 : At 102 32 ls [.int x] I J Q ↔ Q (some (.int x)) I J := A_iret (ab_io ci102 (by decide +kernel)) rt102
theorem k102_33 : At 102 33 [some (.ref r), a1, a2, a3] st I J Q ↔ At 102 34 [some (.ref r), a1, a2, a3] (.ref r :: st) I J Q := A_aload_n (q := 0) (ab_io ci102 (by decide +kernel)) rfl
theorem k102_34 : At 102 34 ls (.ref 0 :: st) I J Q ↔ At 102 37 ls (.ref 43 :: st) I J Q := A_getR (ab_io ci102 (by decide +kernel)) ow102 fq7_57_0
theorem k102_37 : At 102 37 [a0, some (.int x), a2, a3] st I J Q ↔ At 102 38 [a0, some (.int x), a2, a3] (.int x :: st) I J Q := A_iload_n (q := 1) (ab_io ci102 (by decide +kernel)) rfl
theorem k102_38 : At 102 38 [a0, a1, some (.int x), a3] st I J Q ↔ At 102 39 [a0, a1, some (.int x), a3] (.int x :: st) I J Q := A_iload_n (q := 2) (ab_io ci102 (by decide +kernel)) rfl
theorem k102_39 : At 102 39 [a0, a1, a2, some (.int x)] st I J Q ↔ At 102 40 [a0, a1, a2, some (.int x)] (.int x :: st) I J Q := A_iload_n (q := 3) (ab_io ci102 (by decide +kernel)) rfl
theorem k102_40 : At 102 40 ls [.int p0, .int p1, .int p2, .ref 43] I J Q ↔ Cal 54 [.ref 43, .int p2, .int p1, .int p0] I J (fun v I' J' => At 102 43 ls (v.toList ++ []) I' J' Q) := A_cal (kd := 0) (j := 286) (na := 4) (ea := 4) (rk := 43) (by decide +kernel) rfl rfl rfl (Or.inr rfl) (Nat.le_of_ble_eq_true rfl)
theorem k102_43 : At 102 43 [a0, a1, a2, some (.int x)] st I J Q ↔ At 102 44 [a0, a1, a2, some (.int x)] (.int x :: st) I J Q := A_iload_n (q := 3) (ab_io ci102 (by decide +kernel)) rfl
theorem k102_44 : At 102 44 ls [.int x] I J Q ↔ Q (some (.int x)) I J := A_iret (ab_io ci102 (by decide +kernel)) rt102
theorem k103_0 : At 103 0 [a0, some (.int x), a2] st I J Q ↔ At 103 1 [a0, some (.int x), a2] (.int x :: st) I J Q := A_iload_n (q := 1) (ab_io ci103 (by decide +kernel)) rfl
theorem k103_1 : At 103 1 ls [.int p0] I J Q ↔ Cal 118 [.int p0] I J (fun v I' J' => At 103 4 ls (v.toList ++ []) I' J' Q) := A_cal (kd := 1) (j := 97) (na := 1) (ea := 1) (rk := 0) (by decide +kernel) rfl rfl rfl (Or.inl rfl) (Nat.le_of_ble_eq_true rfl)
theorem k103_4 : At 103 4 ls (.int x :: st) I J Q ↔ if ¬ x = 0 then At 103 10 ls st I J Q else At 103 7 ls st I J Q := A_ifCond_ne (o := 6) (ab_io ci103 (by decide +kernel)) (by decide)
theorem k103_7 : At 103 7 ls st I J Q ↔ At 103 9 ls (.int (-2) :: st) I J Q := A_bipush (ab_io ci103 (by decide +kernel)) bc_m2
theorem k103_9 : At 103 9 ls [.int x] I J Q ↔ Q (some (.int x)) I J := A_iret (ab_io ci103 (by decide +kernel)) rt103
theorem k103_10 : At 103 10 [some (.ref r), a1, a2] st I J Q ↔ At 103 11 [some (.ref r), a1, a2] (.ref r :: st) I J Q := A_aload_n (q := 0) (ab_io ci103 (by decide +kernel)) rfl
theorem k103_11 : At 103 11 ls (.ref 0 :: st) I J Q ↔ At 103 14 ls (.ref 43 :: st) I J Q := A_getR (ab_io ci103 (by decide +kernel)) ow103 fq7_57_0
theorem k103_14 : At 103 14 [a0, some (.int x), a2] st I J Q ↔ At 103 15 [a0, some (.int x), a2] (.int x :: st) I J Q := A_iload_n (q := 1) (ab_io ci103 (by decide +kernel)) rfl
theorem k103_15 : At 103 15 ls [.int p0, .ref 43] I J Q ↔ Cal 53 [.ref 43, .int p0] I J (fun v I' J' => At 103 18 ls (v.toList ++ []) I' J' Q) := A_cal (kd := 0) (j := 100) (na := 2) (ea := 2) (rk := 43) (by decide +kernel) rfl rfl rfl (Or.inr rfl) (Nat.le_of_ble_eq_true rfl)
theorem k103_18 : At 103 18 ls (.int x :: st) I J Q ↔ if x = 0 then At 103 27 ls st I J Q else At 103 21 ls st I J Q := A_ifCond_eq (o := 9) (ab_io ci103 (by decide +kernel)) (by decide)
theorem k103_21 : At 103 21 [some (.ref r), a1, a2] st I J Q ↔ At 103 22 [some (.ref r), a1, a2] (.ref r :: st) I J Q := A_aload_n (q := 0) (ab_io ci103 (by decide +kernel)) rfl
theorem k103_22 : At 103 22 ls st I J Q ↔ At 103 23 ls (.int (nI 1) :: st) I J Q := A_iconst (ab_io ci103 (by decide +kernel)) ic_1
theorem k103_23 : At 103 23 ls [.int p0, .ref 0] I J Q ↔ Cal 111 [.ref 0, .int p0] I J (fun v I' J' => At 103 26 ls (v.toList ++ []) I' J' Q) := A_cal (kd := 0) (j := 103) (na := 2) (ea := 2) (rk := 0) (by decide +kernel) rfl rfl rfl (Or.inr rfl) (Nat.le_of_ble_eq_true rfl)
theorem k103_26 : At 103 26 ls [.int x] I J Q ↔ Q (some (.int x)) I J := A_iret (ab_io ci103 (by decide +kernel)) rt103
theorem k103_27 : At 103 27 [some (.ref r), a1, a2] st I J Q ↔ At 103 28 [some (.ref r), a1, a2] (.ref r :: st) I J Q := A_aload_n (q := 0) (ab_io ci103 (by decide +kernel)) rfl
theorem k103_28 : At 103 28 ls (.ref 0 :: st) I J Q ↔ At 103 31 ls (.ref 43 :: st) I J Q := A_getR (ab_io ci103 (by decide +kernel)) ow103 fq7_57_0
theorem k103_31 : At 103 31 ls (.ref 43 :: st) I J Q ↔ At 103 34 ls (.ref 46 :: st) I J Q := A_getR (ab_io ci103 (by decide +kernel)) ow103 fq7_107_43
theorem k103_34 : At 103 34 [a0, some (.int x), a2] st I J Q ↔ At 103 35 [a0, some (.int x), a2] (.int x :: st) I J Q := A_iload_n (q := 1) (ab_io ci103 (by decide +kernel)) rfl
theorem k103_35 : At 103 35 ls (.int x :: .ref r :: st) I J Q ↔ ((ab_ly r).1 = 1 ∧ r < 75 ∧ 0 ≤ x.toInt ∧ x.toInt < (ab_ly r).2) ∧ At 103 36 ls (.int (I r x.toNatClampNeg) :: st) I J Q := A_iaload (ab_io ci103 (by decide +kernel))
theorem k103_36 : At 103 36 [a0, a1, a2] (.int x :: st) I J Q ↔ At 103 37 [a0, ab_nv a1, some (.int x)] st I J Q := A_istore_n (q := 2) (ab_io ci103 (by decide +kernel)) (Nat.le_of_ble_eq_true rfl) rfl
theorem k103_37 : At 103 37 [some (.ref r), a1, a2] st I J Q ↔ At 103 38 [some (.ref r), a1, a2] (.ref r :: st) I J Q := A_aload_n (q := 0) (ab_io ci103 (by decide +kernel)) rfl
theorem k103_38 : At 103 38 ls (.ref 0 :: st) I J Q ↔ At 103 41 ls (.ref 43 :: st) I J Q := A_getR (ab_io ci103 (by decide +kernel)) ow103 fq7_57_0
theorem k103_41 : At 103 41 [a0, some (.int x), a2] st I J Q ↔ At 103 42 [a0, some (.int x), a2] (.int x :: st) I J Q := A_iload_n (q := 1) (ab_io ci103 (by decide +kernel)) rfl
theorem k103_42 : At 103 42 ls [.int p0, .ref 43] I J Q ↔ Cal 55 [.ref 43, .int p0] I J (fun v I' J' => At 103 45 ls (v.toList ++ []) I' J' Q) := A_cal (kd := 0) (j := 289) (na := 2) (ea := 2) (rk := 43) (by decide +kernel) rfl rfl rfl (Or.inr rfl) (Nat.le_of_ble_eq_true rfl)
theorem k103_45 : At 103 45 [a0, a1, some (.int x)] st I J Q ↔ At 103 46 [a0, a1, some (.int x)] (.int x :: st) I J Q := A_iload_n (q := 2) (ab_io ci103 (by decide +kernel)) rfl
theorem k103_46 : At 103 46 ls [.int x] I J Q ↔ Q (some (.int x)) I J := A_iret (ab_io ci103 (by decide +kernel)) rt103
theorem k104_0 : At 104 0 [a0, some (.int x), a2, a3, a4, a5] st I J Q ↔ At 104 1 [a0, some (.int x), a2, a3, a4, a5] (.int x :: st) I J Q := A_iload_n (q := 1) (ab_io ci104 (by decide +kernel)) rfl
theorem k104_1 : At 104 1 ls [.int p0] I J Q ↔ Cal 118 [.int p0] I J (fun v I' J' => At 104 4 ls (v.toList ++ []) I' J' Q) := A_cal (kd := 1) (j := 97) (na := 1) (ea := 1) (rk := 0) (by decide +kernel) rfl rfl rfl (Or.inl rfl) (Nat.le_of_ble_eq_true rfl)
theorem k104_4 : At 104 4 ls (.int x :: st) I J Q ↔ if x = 0 then At 104 14 ls st I J Q else At 104 7 ls st I J Q := A_ifCond_eq (o := 10) (ab_io ci104 (by decide +kernel)) (by decide)
theorem k104_7 : At 104 7 [a0, a1, some (.int x), a3, a4, a5] st I J Q ↔ At 104 8 [a0, a1, some (.int x), a3, a4, a5] (.int x :: st) I J Q := A_iload_n (q := 2) (ab_io ci104 (by decide +kernel)) rfl
theorem k104_8 : At 104 8 ls [.int p0] I J Q ↔ Cal 119 [.int p0] I J (fun v I' J' => At 104 11 ls (v.toList ++ []) I' J' Q) := A_cal (kd := 1) (j := 283) (na := 1) (ea := 1) (rk := 0) (by decide +kernel) rfl rfl rfl (Or.inl rfl) (Nat.le_of_ble_eq_true rfl)
theorem k104_11 : At 104 11 ls (.int x :: st) I J Q ↔ if ¬ x = 0 then At 104 17 ls st I J Q else At 104 14 ls st I J Q := A_ifCond_ne (o := 6) (ab_io ci104 (by decide +kernel)) (by decide)
theorem k104_14 : At 104 14 ls st I J Q ↔ At 104 16 ls (.int (-2) :: st) I J Q := A_bipush (ab_io ci104 (by decide +kernel)) bc_m2
theorem k104_16 : At 104 16 ls [.int x] I J Q ↔ Q (some (.int x)) I J := A_iret (ab_io ci104 (by decide +kernel)) rt104
theorem k104_17 : At 104 17 [some (.ref r), a1, a2, a3, a4, a5] st I J Q ↔ At 104 18 [some (.ref r), a1, a2, a3, a4, a5] (.ref r :: st) I J Q := A_aload_n (q := 0) (ab_io ci104 (by decide +kernel)) rfl
theorem k104_18 : At 104 18 ls (.ref 0 :: st) I J Q ↔ At 104 21 ls (.ref 43 :: st) I J Q := A_getR (ab_io ci104 (by decide +kernel)) ow104 fq7_57_0
theorem k104_21 : At 104 21 [a0, some (.int x), a2, a3, a4, a5] st I J Q ↔ At 104 22 [a0, some (.int x), a2, a3, a4, a5] (.int x :: st) I J Q := A_iload_n (q := 1) (ab_io ci104 (by decide +kernel)) rfl
theorem k104_22 : At 104 22 [a0, a1, some (.int x), a3, a4, a5] st I J Q ↔ At 104 23 [a0, a1, some (.int x), a3, a4, a5] (.int x :: st) I J Q := A_iload_n (q := 2) (ab_io ci104 (by decide +kernel)) rfl
theorem k104_23 : At 104 23 [a0, a1, a2, some (.int x), a4, a5] st I J Q ↔ At 104 24 [a0, a1, a2, some (.int x), a4, a5] (.int x :: st) I J Q := A_iload_n (q := 3) (ab_io ci104 (by decide +kernel)) rfl
theorem k104_24 : At 104 24 ls [.int p0, .int p1, .int p2, .ref 43] I J Q ↔ Cal 56 [.ref 43, .int p2, .int p1, .int p0] I J (fun v I' J' => At 104 27 ls (v.toList ++ []) I' J' Q) := A_cal (kd := 0) (j := 292) (na := 4) (ea := 4) (rk := 43) (by decide +kernel) rfl rfl rfl (Or.inr rfl) (Nat.le_of_ble_eq_true rfl)
theorem k104_27 : At 104 27 [a0, a1, a2, a3, a4, a5] (.int x :: st) I J Q ↔ At 104 29 [a0, a1, a2, a3, ab_nv a4, some (.int x)] st I J Q := A_istore (q := 5) (ab_io ci104 (by decide +kernel)) (Nat.le_of_ble_eq_true rfl) rfl
theorem k104_29 : At 104 29 [a0, a1, a2, a3, a4, some (.int x)] st I J Q ↔ At 104 31 [a0, a1, a2, a3, a4, some (.int x)] (.int x :: st) I J Q := A_iload (q := 5) (ab_io ci104 (by decide +kernel)) rfl
theorem k104_31 : At 104 31 ls (.int x :: st) I J Q ↔ if x = 0 then At 104 41 ls st I J Q else At 104 34 ls st I J Q := A_ifCond_eq (o := 10) (ab_io ci104 (by decide +kernel)) (by decide)
theorem k104_34 : At 104 34 [some (.ref r), a1, a2, a3, a4, a5] st I J Q ↔ At 104 35 [some (.ref r), a1, a2, a3, a4, a5] (.ref r :: st) I J Q := A_aload_n (q := 0) (ab_io ci104 (by decide +kernel)) rfl
theorem k104_35 : At 104 35 [a0, a1, a2, a3, a4, some (.int x)] st I J Q ↔ At 104 37 [a0, a1, a2, a3, a4, some (.int x)] (.int x :: st) I J Q := A_iload (q := 5) (ab_io ci104 (by decide +kernel)) rfl
theorem k104_37 : At 104 37 ls [.int p0, .ref 0] I J Q ↔ Cal 111 [.ref 0, .int p0] I J (fun v I' J' => At 104 40 ls (v.toList ++ []) I' J' Q) := A_cal (kd := 0) (j := 103) (na := 2) (ea := 2) (rk := 0) (by decide +kernel) rfl rfl rfl (Or.inr rfl) (Nat.le_of_ble_eq_true rfl)
theorem k104_40 : At 104 40 ls [.int x] I J Q ↔ Q (some (.int x)) I J := A_iret (ab_io ci104 (by decide +kernel)) rt104
theorem k104_41 : At 104 41 [some (.ref r), a1, a2, a3, a4, a5] st I J Q ↔ At 104 42 [some (.ref r), a1, a2, a3, a4, a5] (.ref r :: st) I J Q := A_aload_n (q := 0) (ab_io ci104 (by decide +kernel)) rfl
theorem k104_42 : At 104 42 ls (.ref 0 :: st) I J Q ↔ At 104 45 ls (.ref 43 :: st) I J Q := A_getR (ab_io ci104 (by decide +kernel)) ow104 fq7_57_0
theorem k104_45 : At 104 45 [a0, some (.int x), a2, a3, a4, a5] st I J Q ↔ At 104 46 [a0, some (.int x), a2, a3, a4, a5] (.int x :: st) I J Q := A_iload_n (q := 1) (ab_io ci104 (by decide +kernel)) rfl
theorem k104_46 : At 104 46 [a0, a1, a2, some (.int x), a4, a5] st I J Q ↔ At 104 47 [a0, a1, a2, some (.int x), a4, a5] (.int x :: st) I J Q := A_iload_n (q := 3) (ab_io ci104 (by decide +kernel)) rfl
theorem k104_47 : At 104 47 [a0, a1, a2, a3, some (.int x), a5] st I J Q ↔ At 104 49 [a0, a1, a2, a3, some (.int x), a5] (.int x :: st) I J Q := A_iload (q := 4) (ab_io ci104 (by decide +kernel)) rfl
theorem k104_49 : At 104 49 ls [.int p0, .int p1, .int p2, .ref 43] I J Q ↔ Cal 59 [.ref 43, .int p2, .int p1, .int p0] I J (fun v I' J' => At 104 52 ls (v.toList ++ []) I' J' Q) := A_cal (kd := 0) (j := 296) (na := 4) (ea := 4) (rk := 43) (by decide +kernel) rfl rfl rfl (Or.inr rfl) (Nat.le_of_ble_eq_true rfl)
theorem k104_52 : At 104 52 ls st I J Q ↔ At 104 53 ls (.int (nI 1) :: st) I J Q := A_iconst (ab_io ci104 (by decide +kernel)) ic_1
theorem k104_53 : At 104 53 ls [.int x] I J Q ↔ Q (some (.int x)) I J := A_iret (ab_io ci104 (by decide +kernel)) rt104
theorem k105_0 : At 105 0 [a0, some (.int x), a2, a3, a4] st I J Q ↔ At 105 1 [a0, some (.int x), a2, a3, a4] (.int x :: st) I J Q := A_iload_n (q := 1) (ab_io ci105 (by decide +kernel)) rfl
theorem k105_1 : At 105 1 ls [.int p0] I J Q ↔ Cal 118 [.int p0] I J (fun v I' J' => At 105 4 ls (v.toList ++ []) I' J' Q) := A_cal (kd := 1) (j := 97) (na := 1) (ea := 1) (rk := 0) (by decide +kernel) rfl rfl rfl (Or.inl rfl) (Nat.le_of_ble_eq_true rfl)
theorem k105_4 : At 105 4 ls (.int x :: st) I J Q ↔ if x = 0 then At 105 14 ls st I J Q else At 105 7 ls st I J Q := A_ifCond_eq (o := 10) (ab_io ci105 (by decide +kernel)) (by decide)
theorem k105_7 : At 105 7 [a0, a1, some (.int x), a3, a4] st I J Q ↔ At 105 8 [a0, a1, some (.int x), a3, a4] (.int x :: st) I J Q := A_iload_n (q := 2) (ab_io ci105 (by decide +kernel)) rfl
theorem k105_8 : At 105 8 ls [.int p0] I J Q ↔ Cal 119 [.int p0] I J (fun v I' J' => At 105 11 ls (v.toList ++ []) I' J' Q) := A_cal (kd := 1) (j := 283) (na := 1) (ea := 1) (rk := 0) (by decide +kernel) rfl rfl rfl (Or.inl rfl) (Nat.le_of_ble_eq_true rfl)
theorem k105_11 : At 105 11 ls (.int x :: st) I J Q ↔ if ¬ x = 0 then At 105 18 ls st I J Q else At 105 14 ls st I J Q := A_ifCond_ne (o := 7) (ab_io ci105 (by decide +kernel)) (by decide)
theorem k105_14 : At 105 14 ls st I J Q ↔ At 105 17 ls (.int (-2147483648) :: st) I J Q := A_ldc_w (j := 299) (q := 772) (ab_io ci105 (by decide +kernel)) ow105 (by decide +kernel)
theorem k105_17 : At 105 17 ls [.int x] I J Q ↔ Q (some (.int x)) I J := A_iret (ab_io ci105 (by decide +kernel)) rt105
theorem k105_18 : At 105 18 [some (.ref r), a1, a2, a3, a4] st I J Q ↔ At 105 19 [some (.ref r), a1, a2, a3, a4] (.ref r :: st) I J Q := A_aload_n (q := 0) (ab_io ci105 (by decide +kernel)) rfl
theorem k105_19 : At 105 19 ls (.ref 0 :: st) I J Q ↔ At 105 22 ls (.ref 43 :: st) I J Q := A_getR (ab_io ci105 (by decide +kernel)) ow105 fq7_57_0
theorem k105_22 : At 105 22 [a0, some (.int x), a2, a3, a4] st I J Q ↔ At 105 23 [a0, some (.int x), a2, a3, a4] (.int x :: st) I J Q := A_iload_n (q := 1) (ab_io ci105 (by decide +kernel)) rfl
theorem k105_23 : At 105 23 [a0, a1, some (.int x), a3, a4] st I J Q ↔ At 105 24 [a0, a1, some (.int x), a3, a4] (.int x :: st) I J Q := A_iload_n (q := 2) (ab_io ci105 (by decide +kernel)) rfl
theorem k105_24 : At 105 24 [a0, a1, a2, some (.int x), a4] st I J Q ↔ At 105 25 [a0, a1, a2, some (.int x), a4] (.int x :: st) I J Q := A_iload_n (q := 3) (ab_io ci105 (by decide +kernel)) rfl
theorem k105_25 : At 105 25 ls [.int p0, .int p1, .int p2, .ref 43] I J Q ↔ Cal 56 [.ref 43, .int p2, .int p1, .int p0] I J (fun v I' J' => At 105 28 ls (v.toList ++ []) I' J' Q) := A_cal (kd := 0) (j := 292) (na := 4) (ea := 4) (rk := 43) (by decide +kernel) rfl rfl rfl (Or.inr rfl) (Nat.le_of_ble_eq_true rfl)
theorem k105_28 : At 105 28 [a0, a1, a2, a3, a4] (.int x :: st) I J Q ↔ At 105 30 [a0, a1, a2, ab_nv a3, some (.int x)] st I J Q := A_istore (q := 4) (ab_io ci105 (by decide +kernel)) (Nat.le_of_ble_eq_true rfl) rfl
theorem k105_30 : At 105 30 [a0, a1, a2, a3, some (.int x)] st I J Q ↔ At 105 32 [a0, a1, a2, a3, some (.int x)] (.int x :: st) I J Q := A_iload (q := 4) (ab_io ci105 (by decide +kernel)) rfl
theorem k105_32 : At 105 32 ls (.int x :: st) I J Q ↔ if x = 0 then At 105 45 ls st I J Q else At 105 35 ls st I J Q := A_ifCond_eq (o := 13) (ab_io ci105 (by decide +kernel)) (by decide)
theorem k105_35 : At 105 35 [some (.ref r), a1, a2, a3, a4] st I J Q ↔ At 105 36 [some (.ref r), a1, a2, a3, a4] (.ref r :: st) I J Q := A_aload_n (q := 0) (ab_io ci105 (by decide +kernel)) rfl
theorem k105_36 : At 105 36 [a0, a1, a2, a3, some (.int x)] st I J Q ↔ At 105 38 [a0, a1, a2, a3, some (.int x)] (.int x :: st) I J Q := A_iload (q := 4) (ab_io ci105 (by decide +kernel)) rfl
theorem k105_38 : At 105 38 ls (.int x :: .ref 0 :: st) I J Q ↔ At 105 41 ls st (va_up I 0 (va_up (I 0) 11 x)) J Q := A_putI (ab_io ci105 (by decide +kernel)) ow105 fq7_72_0
theorem k105_41 : At 105 41 ls st I J Q ↔ At 105 44 ls (.int (-2147483648) :: st) I J Q := A_ldc_w (j := 299) (q := 772) (ab_io ci105 (by decide +kernel)) ow105 (by decide +kernel)
theorem k105_44 : At 105 44 ls [.int x] I J Q ↔ Q (some (.int x)) I J := A_iret (ab_io ci105 (by decide +kernel)) rt105
theorem k105_45 : At 105 45 [some (.ref r), a1, a2, a3, a4] st I J Q ↔ At 105 46 [some (.ref r), a1, a2, a3, a4] (.ref r :: st) I J Q := A_aload_n (q := 0) (ab_io ci105 (by decide +kernel)) rfl
theorem k105_46 : At 105 46 ls (.ref 0 :: st) I J Q ↔ At 105 49 ls (.ref 43 :: st) I J Q := A_getR (ab_io ci105 (by decide +kernel)) ow105 fq7_57_0
theorem k105_49 : At 105 49 [a0, some (.int x), a2, a3, a4] st I J Q ↔ At 105 50 [a0, some (.int x), a2, a3, a4] (.int x :: st) I J Q := A_iload_n (q := 1) (ab_io ci105 (by decide +kernel)) rfl
theorem k105_50 : At 105 50 [a0, a1, a2, some (.int x), a4] st I J Q ↔ At 105 51 [a0, a1, a2, some (.int x), a4] (.int x :: st) I J Q := A_iload_n (q := 3) (ab_io ci105 (by decide +kernel)) rfl
theorem k105_51 : At 105 51 ls [.int p0, .int p1, .ref 43] I J Q ↔ Cal 58 [.ref 43, .int p1, .int p0] I J (fun v I' J' => At 105 54 ls (v.toList ++ []) I' J' Q) := A_cal (kd := 0) (j := 110) (na := 3) (ea := 3) (rk := 43) (by decide +kernel) rfl rfl rfl (Or.inr rfl) (Nat.le_of_ble_eq_true rfl)
theorem k105_54 : At 105 54 ls [.int x] I J Q ↔ Q (some (.int x)) I J := A_iret (ab_io ci105 (by decide +kernel)) rt105
theorem k106_0 : At 106 0 [a0, some (.int x), a2, a3, a4, a5] st I J Q ↔ At 106 1 [a0, some (.int x), a2, a3, a4, a5] (.int x :: st) I J Q := A_iload_n (q := 1) (ab_io ci106 (by decide +kernel)) rfl
theorem k106_1 : At 106 1 ls [.int p0] I J Q ↔ Cal 118 [.int p0] I J (fun v I' J' => At 106 4 ls (v.toList ++ []) I' J' Q) := A_cal (kd := 1) (j := 97) (na := 1) (ea := 1) (rk := 0) (by decide +kernel) rfl rfl rfl (Or.inl rfl) (Nat.le_of_ble_eq_true rfl)
theorem k106_4 : At 106 4 ls (.int x :: st) I J Q ↔ if x = 0 then At 106 14 ls st I J Q else At 106 7 ls st I J Q := A_ifCond_eq (o := 10) (ab_io ci106 (by decide +kernel)) (by decide)
theorem k106_7 : At 106 7 [a0, a1, a2, some (.int x), a4, a5] st I J Q ↔ At 106 8 [a0, a1, a2, some (.int x), a4, a5] (.int x :: st) I J Q := A_iload_n (q := 3) (ab_io ci106 (by decide +kernel)) rfl
theorem k106_8 : At 106 8 ls [.int p0] I J Q ↔ Cal 118 [.int p0] I J (fun v I' J' => At 106 11 ls (v.toList ++ []) I' J' Q) := A_cal (kd := 1) (j := 97) (na := 1) (ea := 1) (rk := 0) (by decide +kernel) rfl rfl rfl (Or.inl rfl) (Nat.le_of_ble_eq_true rfl)
theorem k106_11 : At 106 11 ls (.int x :: st) I J Q ↔ if ¬ x = 0 then At 106 17 ls st I J Q else At 106 14 ls st I J Q := A_ifCond_ne (o := 6) (ab_io ci106 (by decide +kernel)) (by decide)
theorem k106_14 : At 106 14 ls st I J Q ↔ At 106 16 ls (.int (-2) :: st) I J Q := A_bipush (ab_io ci106 (by decide +kernel)) bc_m2
theorem k106_16 : At 106 16 ls [.int x] I J Q ↔ Q (some (.int x)) I J := A_iret (ab_io ci106 (by decide +kernel)) rt106
theorem k106_17 : At 106 17 [some (.ref r), a1, a2, a3, a4, a5] st I J Q ↔ At 106 18 [some (.ref r), a1, a2, a3, a4, a5] (.ref r :: st) I J Q := A_aload_n (q := 0) (ab_io ci106 (by decide +kernel)) rfl
theorem k106_18 : At 106 18 ls (.ref 0 :: st) I J Q ↔ At 106 21 ls (.ref 43 :: st) I J Q := A_getR (ab_io ci106 (by decide +kernel)) ow106 fq7_57_0
theorem k106_21 : At 106 21 [a0, some (.int x), a2, a3, a4, a5] st I J Q ↔ At 106 22 [a0, some (.int x), a2, a3, a4, a5] (.int x :: st) I J Q := A_iload_n (q := 1) (ab_io ci106 (by decide +kernel)) rfl
theorem k106_22 : At 106 22 ls [.int p0, .ref 43] I J Q ↔ Cal 53 [.ref 43, .int p0] I J (fun v I' J' => At 106 25 ls (v.toList ++ []) I' J' Q) := A_cal (kd := 0) (j := 100) (na := 2) (ea := 2) (rk := 43) (by decide +kernel) rfl rfl rfl (Or.inr rfl) (Nat.le_of_ble_eq_true rfl)
theorem k106_25 : At 106 25 ls (.int x :: st) I J Q ↔ if ¬ x = 0 then At 106 39 ls st I J Q else At 106 28 ls st I J Q := A_ifCond_ne (o := 14) (ab_io ci106 (by decide +kernel)) (by decide)
theorem k106_28 : At 106 28 [some (.ref r), a1, a2, a3, a4, a5] st I J Q ↔ At 106 29 [some (.ref r), a1, a2, a3, a4, a5] (.ref r :: st) I J Q := A_aload_n (q := 0) (ab_io ci106 (by decide +kernel)) rfl
theorem k106_29 : At 106 29 ls (.ref 0 :: st) I J Q ↔ At 106 32 ls (.ref 43 :: st) I J Q := A_getR (ab_io ci106 (by decide +kernel)) ow106 fq7_57_0
theorem k106_32 : At 106 32 [a0, a1, a2, some (.int x), a4, a5] st I J Q ↔ At 106 33 [a0, a1, a2, some (.int x), a4, a5] (.int x :: st) I J Q := A_iload_n (q := 3) (ab_io ci106 (by decide +kernel)) rfl
theorem k106_33 : At 106 33 ls [.int p0, .ref 43] I J Q ↔ Cal 53 [.ref 43, .int p0] I J (fun v I' J' => At 106 36 ls (v.toList ++ []) I' J' Q) := A_cal (kd := 0) (j := 100) (na := 2) (ea := 2) (rk := 43) (by decide +kernel) rfl rfl rfl (Or.inr rfl) (Nat.le_of_ble_eq_true rfl)
theorem k106_36 : At 106 36 ls (.int x :: st) I J Q ↔ if x = 0 then At 106 45 ls st I J Q else At 106 39 ls st I J Q := A_ifCond_eq (o := 9) (ab_io ci106 (by decide +kernel)) (by decide)
theorem k106_39 : At 106 39 [some (.ref r), a1, a2, a3, a4, a5] st I J Q ↔ At 106 40 [some (.ref r), a1, a2, a3, a4, a5] (.ref r :: st) I J Q := A_aload_n (q := 0) (ab_io ci106 (by decide +kernel)) rfl
theorem k106_40 : At 106 40 ls st I J Q ↔ At 106 41 ls (.int (nI 1) :: st) I J Q := A_iconst (ab_io ci106 (by decide +kernel)) ic_1
theorem k106_41 : At 106 41 ls [.int p0, .ref 0] I J Q ↔ Cal 111 [.ref 0, .int p0] I J (fun v I' J' => At 106 44 ls (v.toList ++ []) I' J' Q) := A_cal (kd := 0) (j := 103) (na := 2) (ea := 2) (rk := 0) (by decide +kernel) rfl rfl rfl (Or.inr rfl) (Nat.le_of_ble_eq_true rfl)
theorem k106_44 : At 106 44 ls [.int x] I J Q ↔ Q (some (.int x)) I J := A_iret (ab_io ci106 (by decide +kernel)) rt106
theorem k106_45 : At 106 45 [some (.ref r), a1, a2, a3, a4, a5] st I J Q ↔ At 106 46 [some (.ref r), a1, a2, a3, a4, a5] (.ref r :: st) I J Q := A_aload_n (q := 0) (ab_io ci106 (by decide +kernel)) rfl
theorem k106_46 : At 106 46 ls (.ref 0 :: st) I J Q ↔ At 106 49 ls (.ref 43 :: st) I J Q := A_getR (ab_io ci106 (by decide +kernel)) ow106 fq7_57_0
theorem k106_49 : At 106 49 ls (.ref 43 :: st) I J Q ↔ At 106 52 ls (.ref 45 :: st) I J Q := A_getR (ab_io ci106 (by decide +kernel)) ow106 fq7_300_43
theorem k106_52 : At 106 52 [a0, some (.int x), a2, a3, a4, a5] st I J Q ↔ At 106 53 [a0, some (.int x), a2, a3, a4, a5] (.int x :: st) I J Q := A_iload_n (q := 1) (ab_io ci106 (by decide +kernel)) rfl
theorem k106_53 : At 106 53 ls (.int x :: .ref r :: st) I J Q ↔ ((ab_ly r).1 = 1 ∧ r < 75 ∧ 0 ≤ x.toInt ∧ x.toInt < (ab_ly r).2) ∧ At 106 54 ls (.int (I r x.toNatClampNeg) :: st) I J Q := A_iaload (ab_io ci106 (by decide +kernel))
theorem k106_54 : At 106 54 [some (.ref r), a1, a2, a3, a4, a5] st I J Q ↔ At 106 55 [some (.ref r), a1, a2, a3, a4, a5] (.ref r :: st) I J Q := A_aload_n (q := 0) (ab_io ci106 (by decide +kernel)) rfl
theorem k106_55 : At 106 55 ls (.ref 0 :: st) I J Q ↔ At 106 58 ls (.ref 43 :: st) I J Q := A_getR (ab_io ci106 (by decide +kernel)) ow106 fq7_57_0
theorem k106_58 : At 106 58 ls (.ref 43 :: st) I J Q ↔ At 106 61 ls (.ref 45 :: st) I J Q := A_getR (ab_io ci106 (by decide +kernel)) ow106 fq7_300_43
theorem k106_61 : At 106 61 [a0, a1, a2, some (.int x), a4, a5] st I J Q ↔ At 106 62 [a0, a1, a2, some (.int x), a4, a5] (.int x :: st) I J Q := A_iload_n (q := 3) (ab_io ci106 (by decide +kernel)) rfl
theorem k106_62 : At 106 62 ls (.int x :: .ref r :: st) I J Q ↔ ((ab_ly r).1 = 1 ∧ r < 75 ∧ 0 ≤ x.toInt ∧ x.toInt < (ab_ly r).2) ∧ At 106 63 ls (.int (I r x.toNatClampNeg) :: st) I J Q := A_iaload (ab_io ci106 (by decide +kernel))
theorem k106_63 : At 106 63 ls (.int x1 :: .int x :: st) I J Q ↔ if x = x1 then At 106 72 ls st I J Q else At 106 66 ls st I J Q := A_if_icmp_eq (o := 9) (ab_io ci106 (by decide +kernel)) (by decide)
theorem k106_66 : At 106 66 [some (.ref r), a1, a2, a3, a4, a5] st I J Q ↔ At 106 67 [some (.ref r), a1, a2, a3, a4, a5] (.ref r :: st) I J Q := A_aload_n (q := 0) (ab_io ci106 (by decide +kernel)) rfl
theorem k106_67 : At 106 67 ls st I J Q ↔ At 106 68 ls (.int (nI 4) :: st) I J Q := A_iconst (ab_io ci106 (by decide +kernel)) ic_4
theorem k106_68 : At 106 68 ls [.int p0, .ref 0] I J Q ↔ Cal 111 [.ref 0, .int p0] I J (fun v I' J' => At 106 71 ls (v.toList ++ []) I' J' Q) := A_cal (kd := 0) (j := 103) (na := 2) (ea := 2) (rk := 0) (by decide +kernel) rfl rfl rfl (Or.inr rfl) (Nat.le_of_ble_eq_true rfl)
theorem k106_71 : At 106 71 ls [.int x] I J Q ↔ Q (some (.int x)) I J := A_iret (ab_io ci106 (by decide +kernel)) rt106
theorem k106_72 : At 106 72 [some (.ref r), a1, a2, a3, a4, a5] st I J Q ↔ At 106 73 [some (.ref r), a1, a2, a3, a4, a5] (.ref r :: st) I J Q := A_aload_n (q := 0) (ab_io ci106 (by decide +kernel)) rfl
theorem k106_73 : At 106 73 ls (.ref 0 :: st) I J Q ↔ At 106 76 ls (.ref 43 :: st) I J Q := A_getR (ab_io ci106 (by decide +kernel)) ow106 fq7_57_0
theorem k106_76 : At 106 76 [a0, some (.int x), a2, a3, a4, a5] st I J Q ↔ At 106 77 [a0, some (.int x), a2, a3, a4, a5] (.int x :: st) I J Q := A_iload_n (q := 1) (ab_io ci106 (by decide +kernel)) rfl
theorem k106_77 : At 106 77 [a0, a1, some (.int x), a3, a4, a5] st I J Q ↔ At 106 78 [a0, a1, some (.int x), a3, a4, a5] (.int x :: st) I J Q := A_iload_n (q := 2) (ab_io ci106 (by decide +kernel)) rfl
theorem k106_78 : At 106 78 [a0, a1, a2, a3, a4, some (.int x)] st I J Q ↔ At 106 80 [a0, a1, a2, a3, a4, some (.int x)] (.int x :: st) I J Q := A_iload (q := 5) (ab_io ci106 (by decide +kernel)) rfl
theorem k106_80 : At 106 80 ls [.int p0, .int p1, .int p2, .ref 43] I J Q ↔ Cal 57 [.ref 43, .int p2, .int p1, .int p0] I J (fun v I' J' => At 106 83 ls (v.toList ++ []) I' J' Q) := A_cal (kd := 0) (j := 303) (na := 4) (ea := 4) (rk := 43) (by decide +kernel) rfl rfl rfl (Or.inr rfl) (Nat.le_of_ble_eq_true rfl)
theorem k106_83 : At 106 83 ls (.int x :: st) I J Q ↔ if x = 0 then At 106 101 ls st I J Q else At 106 86 ls st I J Q := A_ifCond_eq (o := 18) (ab_io ci106 (by decide +kernel)) (by decide)
theorem k106_86 : At 106 86 [some (.ref r), a1, a2, a3, a4, a5] st I J Q ↔ At 106 87 [some (.ref r), a1, a2, a3, a4, a5] (.ref r :: st) I J Q := A_aload_n (q := 0) (ab_io ci106 (by decide +kernel)) rfl
theorem k106_87 : At 106 87 ls (.ref 0 :: st) I J Q ↔ At 106 90 ls (.ref 43 :: st) I J Q := A_getR (ab_io ci106 (by decide +kernel)) ow106 fq7_57_0
theorem k106_90 : At 106 90 [a0, a1, a2, some (.int x), a4, a5] st I J Q ↔ At 106 91 [a0, a1, a2, some (.int x), a4, a5] (.int x :: st) I J Q := A_iload_n (q := 3) (ab_io ci106 (by decide +kernel)) rfl
theorem k106_91 : At 106 91 [a0, a1, a2, a3, some (.int x), a5] st I J Q ↔ At 106 93 [a0, a1, a2, a3, some (.int x), a5] (.int x :: st) I J Q := A_iload (q := 4) (ab_io ci106 (by decide +kernel)) rfl
theorem k106_93 : At 106 93 [a0, a1, a2, a3, a4, some (.int x)] st I J Q ↔ At 106 95 [a0, a1, a2, a3, a4, some (.int x)] (.int x :: st) I J Q := A_iload (q := 5) (ab_io ci106 (by decide +kernel)) rfl
theorem k106_95 : At 106 95 ls [.int p0, .int p1, .int p2, .ref 43] I J Q ↔ Cal 57 [.ref 43, .int p2, .int p1, .int p0] I J (fun v I' J' => At 106 98 ls (v.toList ++ []) I' J' Q) := A_cal (kd := 0) (j := 303) (na := 4) (ea := 4) (rk := 43) (by decide +kernel) rfl rfl rfl (Or.inr rfl) (Nat.le_of_ble_eq_true rfl)
theorem k106_98 : At 106 98 ls (.int x :: st) I J Q ↔ if ¬ x = 0 then At 106 107 ls st I J Q else At 106 101 ls st I J Q := A_ifCond_ne (o := 9) (ab_io ci106 (by decide +kernel)) (by decide)
theorem k106_101 : At 106 101 [some (.ref r), a1, a2, a3, a4, a5] st I J Q ↔ At 106 102 [some (.ref r), a1, a2, a3, a4, a5] (.ref r :: st) I J Q := A_aload_n (q := 0) (ab_io ci106 (by decide +kernel)) rfl
theorem k106_102 : At 106 102 ls st I J Q ↔ At 106 103 ls (.int (nI 2) :: st) I J Q := A_iconst (ab_io ci106 (by decide +kernel)) ic_2
theorem k106_103 : At 106 103 ls [.int p0, .ref 0] I J Q ↔ Cal 111 [.ref 0, .int p0] I J (fun v I' J' => At 106 106 ls (v.toList ++ []) I' J' Q) := A_cal (kd := 0) (j := 103) (na := 2) (ea := 2) (rk := 0) (by decide +kernel) rfl rfl rfl (Or.inr rfl) (Nat.le_of_ble_eq_true rfl)
theorem k106_106 : At 106 106 ls [.int x] I J Q ↔ Q (some (.int x)) I J := A_iret (ab_io ci106 (by decide +kernel)) rt106
theorem k106_107 : At 106 107 [some (.ref r), a1, a2, a3, a4, a5] st I J Q ↔ At 106 108 [some (.ref r), a1, a2, a3, a4, a5] (.ref r :: st) I J Q := A_aload_n (q := 0) (ab_io ci106 (by decide +kernel)) rfl
theorem k106_108 : At 106 108 ls (.ref 0 :: st) I J Q ↔ At 106 111 ls (.ref 43 :: st) I J Q := A_getR (ab_io ci106 (by decide +kernel)) ow106 fq7_57_0
theorem k106_111 : At 106 111 [a0, some (.int x), a2, a3, a4, a5] st I J Q ↔ At 106 112 [a0, some (.int x), a2, a3, a4, a5] (.int x :: st) I J Q := A_iload_n (q := 1) (ab_io ci106 (by decide +kernel)) rfl
theorem k106_112 : At 106 112 [a0, a1, some (.int x), a3, a4, a5] st I J Q ↔ At 106 113 [a0, a1, some (.int x), a3, a4, a5] (.int x :: st) I J Q := A_iload_n (q := 2) (ab_io ci106 (by decide +kernel)) rfl
theorem k106_113 : At 106 113 [a0, a1, a2, some (.int x), a4, a5] st I J Q ↔ At 106 114 [a0, a1, a2, some (.int x), a4, a5] (.int x :: st) I J Q := A_iload_n (q := 3) (ab_io ci106 (by decide +kernel)) rfl
theorem k106_114 : At 106 114 [a0, a1, a2, a3, some (.int x), a5] st I J Q ↔ At 106 116 [a0, a1, a2, a3, some (.int x), a5] (.int x :: st) I J Q := A_iload (q := 4) (ab_io ci106 (by decide +kernel)) rfl
theorem k106_116 : At 106 116 [a0, a1, a2, a3, a4, some (.int x)] st I J Q ↔ At 106 118 [a0, a1, a2, a3, a4, some (.int x)] (.int x :: st) I J Q := A_iload (q := 5) (ab_io ci106 (by decide +kernel)) rfl
theorem k106_118 : At 106 118 ls [.int p0, .int p1, .int p2, .int p3, .int p4, .ref 43] I J Q ↔ Cal 61 [.ref 43, .int p4, .int p3, .int p2, .int p1, .int p0] I J (fun v I' J' => At 106 121 ls (v.toList ++ []) I' J' Q) := A_cal (kd := 0) (j := 306) (na := 6) (ea := 6) (rk := 43) (by decide +kernel) rfl rfl rfl (Or.inr rfl) (Nat.le_of_ble_eq_true rfl)
theorem k106_121 : At 106 121 ls st I J Q ↔ At 106 122 ls (.int (nI 1) :: st) I J Q := A_iconst (ab_io ci106 (by decide +kernel)) ic_1
theorem k106_122 : At 106 122 ls [.int x] I J Q ↔ Q (some (.int x)) I J := A_iret (ab_io ci106 (by decide +kernel)) rt106
theorem k107_0 : At 107 0 [a0, some (.int x), a2, a3, a4] st I J Q ↔ At 107 1 [a0, some (.int x), a2, a3, a4] (.int x :: st) I J Q := A_iload_n (q := 1) (ab_io ci107 (by decide +kernel)) rfl
theorem k107_1 : At 107 1 ls [.int p0] I J Q ↔ Cal 117 [.int p0] I J (fun v I' J' => At 107 4 ls (v.toList ++ []) I' J' Q) := A_cal (kd := 1) (j := 80) (na := 1) (ea := 1) (rk := 0) (by decide +kernel) rfl rfl rfl (Or.inl rfl) (Nat.le_of_ble_eq_true rfl)
theorem k107_4 : At 107 4 ls (.int x :: st) I J Q ↔ if x = 0 then At 107 14 ls st I J Q else At 107 7 ls st I J Q := A_ifCond_eq (o := 10) (ab_io ci107 (by decide +kernel)) (by decide)
theorem k107_7 : At 107 7 [a0, a1, some (.int x), a3, a4] st I J Q ↔ At 107 8 [a0, a1, some (.int x), a3, a4] (.int x :: st) I J Q := A_iload_n (q := 2) (ab_io ci107 (by decide +kernel)) rfl
theorem k107_8 : At 107 8 ls [.int p0] I J Q ↔ Cal 118 [.int p0] I J (fun v I' J' => At 107 11 ls (v.toList ++ []) I' J' Q) := A_cal (kd := 1) (j := 97) (na := 1) (ea := 1) (rk := 0) (by decide +kernel) rfl rfl rfl (Or.inl rfl) (Nat.le_of_ble_eq_true rfl)
theorem k107_11 : At 107 11 ls (.int x :: st) I J Q ↔ if ¬ x = 0 then At 107 17 ls st I J Q else At 107 14 ls st I J Q := A_ifCond_ne (o := 6) (ab_io ci107 (by decide +kernel)) (by decide)
theorem k107_14 : At 107 14 ls st I J Q ↔ At 107 16 ls (.int (-2) :: st) I J Q := A_bipush (ab_io ci107 (by decide +kernel)) bc_m2
theorem k107_16 : At 107 16 ls [.int x] I J Q ↔ Q (some (.int x)) I J := A_iret (ab_io ci107 (by decide +kernel)) rt107
theorem k107_17 : At 107 17 [some (.ref r), a1, a2, a3, a4] st I J Q ↔ At 107 18 [some (.ref r), a1, a2, a3, a4] (.ref r :: st) I J Q := A_aload_n (q := 0) (ab_io ci107 (by decide +kernel)) rfl
theorem k107_18 : At 107 18 ls (.ref 0 :: st) I J Q ↔ At 107 21 ls (.ref 43 :: st) I J Q := A_getR (ab_io ci107 (by decide +kernel)) ow107 fq7_57_0
theorem k107_21 : At 107 21 [a0, a1, some (.int x), a3, a4] st I J Q ↔ At 107 22 [a0, a1, some (.int x), a3, a4] (.int x :: st) I J Q := A_iload_n (q := 2) (ab_io ci107 (by decide +kernel)) rfl
theorem k107_22 : At 107 22 ls [.int p0, .ref 43] I J Q ↔ Cal 53 [.ref 43, .int p0] I J (fun v I' J' => At 107 25 ls (v.toList ++ []) I' J' Q) := A_cal (kd := 0) (j := 100) (na := 2) (ea := 2) (rk := 43) (by decide +kernel) rfl rfl rfl (Or.inr rfl) (Nat.le_of_ble_eq_true rfl)
theorem k107_25 : At 107 25 ls (.int x :: st) I J Q ↔ if x = 0 then At 107 34 ls st I J Q else At 107 28 ls st I J Q := A_ifCond_eq (o := 9) (ab_io ci107 (by decide +kernel)) (by decide)
theorem k107_28 : At 107 28 [some (.ref r), a1, a2, a3, a4] st I J Q ↔ At 107 29 [some (.ref r), a1, a2, a3, a4] (.ref r :: st) I J Q := A_aload_n (q := 0) (ab_io ci107 (by decide +kernel)) rfl
theorem k107_29 : At 107 29 ls st I J Q ↔ At 107 30 ls (.int (nI 1) :: st) I J Q := A_iconst (ab_io ci107 (by decide +kernel)) ic_1
theorem k107_30 : At 107 30 ls [.int p0, .ref 0] I J Q ↔ Cal 111 [.ref 0, .int p0] I J (fun v I' J' => At 107 33 ls (v.toList ++ []) I' J' Q) := A_cal (kd := 0) (j := 103) (na := 2) (ea := 2) (rk := 0) (by decide +kernel) rfl rfl rfl (Or.inr rfl) (Nat.le_of_ble_eq_true rfl)
theorem k107_33 : At 107 33 ls [.int x] I J Q ↔ Q (some (.int x)) I J := A_iret (ab_io ci107 (by decide +kernel)) rt107
theorem k107_34 : At 107 34 [some (.ref r), a1, a2, a3, a4] st I J Q ↔ At 107 35 [some (.ref r), a1, a2, a3, a4] (.ref r :: st) I J Q := A_aload_n (q := 0) (ab_io ci107 (by decide +kernel)) rfl
theorem k107_35 : At 107 35 ls [.ref 0] I J Q ↔ Cal 110 [.ref 0] I J (fun v I' J' => At 107 38 ls (v.toList ++ []) I' J' Q) := A_cal (kd := 0) (j := 121) (na := 1) (ea := 1) (rk := 0) (by decide +kernel) rfl rfl rfl (Or.inr rfl) (Nat.le_of_ble_eq_true rfl)
theorem k107_38 : At 107 38 [some (.ref r), a1, a2, a3, a4] st I J Q ↔ At 107 39 [some (.ref r), a1, a2, a3, a4] (.ref r :: st) I J Q := A_aload_n (q := 0) (ab_io ci107 (by decide +kernel)) rfl
theorem k107_39 : At 107 39 ls (.ref 0 :: st) I J Q ↔ At 107 42 ls (.ref 43 :: st) I J Q := A_getR (ab_io ci107 (by decide +kernel)) ow107 fq7_57_0
theorem k107_42 : At 107 42 ls (.ref 43 :: st) I J Q ↔ At 107 45 ls (.ref 46 :: st) I J Q := A_getR (ab_io ci107 (by decide +kernel)) ow107 fq7_107_43
theorem k107_45 : At 107 45 [a0, a1, some (.int x), a3, a4] st I J Q ↔ At 107 46 [a0, a1, some (.int x), a3, a4] (.int x :: st) I J Q := A_iload_n (q := 2) (ab_io ci107 (by decide +kernel)) rfl
theorem k107_46 : At 107 46 ls (.int x :: .ref r :: st) I J Q ↔ ((ab_ly r).1 = 1 ∧ r < 75 ∧ 0 ≤ x.toInt ∧ x.toInt < (ab_ly r).2) ∧ At 107 47 ls (.int (I r x.toNatClampNeg) :: st) I J Q := A_iaload (ab_io ci107 (by decide +kernel))
theorem k107_47 : At 107 47 ls st I J Q ↔ At 107 49 ls (.int (nI 12) :: st) I J Q := A_bipush (ab_io ci107 (by decide +kernel)) bc_12
theorem k107_49 : At 107 49 ls [.int x1, .int x] I J Q ↔ At 107 52 ls [.int (if x1 < x then x1 else x)] I J Q := A_min (j := 310) (q0 := 0) (q1 := 789) (by decide +kernel) (Nat.le_of_ble_eq_true rfl)
theorem k107_52 : At 107 52 [a0, a1, a2, a3, a4] (.int x :: st) I J Q ↔ At 107 53 [a0, a1, ab_nv a2, some (.int x), a4] st I J Q := A_istore_n (q := 3) (ab_io ci107 (by decide +kernel)) (Nat.le_of_ble_eq_true rfl) rfl
theorem k107_53 : At 107 53 ls st I J Q ↔ At 107 54 ls (.int (nI 0) :: st) I J Q := A_iconst (ab_io ci107 (by decide +kernel)) ic_0
theorem k107_54 : At 107 54 [a0, a1, a2, a3, a4] (.int x :: st) I J Q ↔ At 107 56 [a0, a1, a2, ab_nv a3, some (.int x)] st I J Q := A_istore (q := 4) (ab_io ci107 (by decide +kernel)) (Nat.le_of_ble_eq_true rfl) rfl
theorem k107_56 : At 107 56 [a0, a1, a2, a3, some (.int x)] st I J Q ↔ At 107 58 [a0, a1, a2, a3, some (.int x)] (.int x :: st) I J Q := A_iload (q := 4) (ab_io ci107 (by decide +kernel)) rfl
theorem k107_58 : At 107 58 [a0, a1, a2, some (.int x), a4] st I J Q ↔ At 107 59 [a0, a1, a2, some (.int x), a4] (.int x :: st) I J Q := A_iload_n (q := 3) (ab_io ci107 (by decide +kernel)) rfl
theorem k107_59 : At 107 59 ls (.int x1 :: .int x :: st) I J Q ↔ if x1 ≤ x then At 107 92 ls st I J Q else At 107 62 ls st I J Q := A_if_icmp_ge (o := 33) (ab_io ci107 (by decide +kernel)) (by decide)
theorem k107_62 : At 107 62 [some (.ref r), a1, a2, a3, a4] st I J Q ↔ At 107 63 [some (.ref r), a1, a2, a3, a4] (.ref r :: st) I J Q := A_aload_n (q := 0) (ab_io ci107 (by decide +kernel)) rfl
theorem k107_63 : At 107 63 ls (.ref 0 :: st) I J Q ↔ At 107 66 ls (.ref 43 :: st) I J Q := A_getR (ab_io ci107 (by decide +kernel)) ow107 fq7_57_0
theorem k107_66 : At 107 66 [a0, a1, some (.int x), a3, a4] st I J Q ↔ At 107 67 [a0, a1, some (.int x), a3, a4] (.int x :: st) I J Q := A_iload_n (q := 2) (ab_io ci107 (by decide +kernel)) rfl
theorem k107_67 : At 107 67 [a0, a1, a2, a3, some (.int x)] st I J Q ↔ At 107 69 [a0, a1, a2, a3, some (.int x)] (.int x :: st) I J Q := A_iload (q := 4) (ab_io ci107 (by decide +kernel)) rfl
theorem k107_69 : At 107 69 [some (.ref r), a1, a2, a3, a4] st I J Q ↔ At 107 70 [some (.ref r), a1, a2, a3, a4] (.ref r :: st) I J Q := A_aload_n (q := 0) (ab_io ci107 (by decide +kernel)) rfl
theorem k107_70 : At 107 70 ls (.ref 0 :: st) I J Q ↔ At 107 73 ls (.ref 5 :: st) I J Q := A_getR (ab_io ci107 (by decide +kernel)) ow107 fq7_19_0
theorem k107_73_5 : At 107 73 ls (.ref 5 :: st) I J Q ↔ At 107 76 ls (.ref 6 :: st) I J Q := A_getR (ab_io ci107 (by decide +kernel)) ow107 fq7_124_5
theorem k107_73_17 : At 107 73 ls (.ref 17 :: st) I J Q ↔ At 107 76 ls (.ref 18 :: st) I J Q := A_getR (ab_io ci107 (by decide +kernel)) ow107 fq7_124_17
theorem k107_76 : At 107 76 ls st I J Q ↔ At 107 77 ls (.int (nI 4) :: st) I J Q := A_iconst (ab_io ci107 (by decide +kernel)) ic_4
theorem k107_77 : At 107 77 [a0, a1, a2, a3, some (.int x)] st I J Q ↔ At 107 79 [a0, a1, a2, a3, some (.int x)] (.int x :: st) I J Q := A_iload (q := 4) (ab_io ci107 (by decide +kernel)) rfl
theorem k107_79 : At 107 79 ls (.int x1 :: .int x :: st) I J Q ↔ At 107 80 ls (.int (x * x1) :: st) I J Q := A_imul (ab_io ci107 (by decide +kernel))
theorem k107_80 : At 107 80 [a0, some (.int x), a2, a3, a4] st I J Q ↔ At 107 81 [a0, some (.int x), a2, a3, a4] (.int x :: st) I J Q := A_iload_n (q := 1) (ab_io ci107 (by decide +kernel)) rfl
theorem k107_81 : At 107 81 ls (.int x1 :: .int x :: st) I J Q ↔ At 107 82 ls (.int (x + x1) :: st) I J Q := A_iadd (ab_io ci107 (by decide +kernel))
theorem k107_82 : At 107 82 ls (.int x :: .ref r :: st) I J Q ↔ ((ab_ly r).1 = 1 ∧ r < 75 ∧ 0 ≤ x.toInt ∧ x.toInt < (ab_ly r).2) ∧ At 107 83 ls (.int (I r x.toNatClampNeg) :: st) I J Q := A_iaload (ab_io ci107 (by decide +kernel))
theorem k107_83 : At 107 83 ls [.int p0, .int p1, .int p2, .ref 43] I J Q ↔ Cal 59 [.ref 43, .int p2, .int p1, .int p0] I J (fun v I' J' => At 107 86 ls (v.toList ++ []) I' J' Q) := A_cal (kd := 0) (j := 296) (na := 4) (ea := 4) (rk := 43) (by decide +kernel) rfl rfl rfl (Or.inr rfl) (Nat.le_of_ble_eq_true rfl)
theorem k107_86 : At 107 86 [a0, a1, a2, a3, some (.int x)] st I J Q ↔ At 107 89 [a0, a1, a2, ab_nv a3, some (.int (x + (nI 1)))] st I J Q := A_iinc (q := 4) (ab_io ci107 (by decide +kernel)) ic_1 (Nat.le_of_ble_eq_true rfl) rfl rfl
theorem k107_89 : At 107 89 ls st I J Q ↔ At 107 56 ls st I J Q := A_goto (o := (-33)) (ab_io ci107 (by decide +kernel)) (by decide)
theorem k107_92 : At 107 92 [a0, a1, a2, some (.int x), a4] st I J Q ↔ At 107 93 [a0, a1, a2, some (.int x), a4] (.int x :: st) I J Q := A_iload_n (q := 3) (ab_io ci107 (by decide +kernel)) rfl
theorem k107_93 : At 107 93 ls [.int x] I J Q ↔ Q (some (.int x)) I J := A_iret (ab_io ci107 (by decide +kernel)) rt107
theorem k108_0 : At 108 0 [some (.ref r), a1] st I J Q ↔ At 108 1 [some (.ref r), a1] (.ref r :: st) I J Q := A_aload_n (q := 0) (ab_io ci108 (by decide +kernel)) rfl
theorem k108_1 : At 108 1 ls [.ref 0] I J Q ↔ Cal 110 [.ref 0] I J (fun v I' J' => At 108 4 ls (v.toList ++ []) I' J' Q) := A_cal (kd := 0) (j := 121) (na := 1) (ea := 1) (rk := 0) (by decide +kernel) rfl rfl rfl (Or.inr rfl) (Nat.le_of_ble_eq_true rfl)
theorem k108_4 : At 108 4 [a0, some (.int x)] st I J Q ↔ At 108 5 [a0, some (.int x)] (.int x :: st) I J Q := A_iload_n (q := 1) (ab_io ci108 (by decide +kernel)) rfl
theorem k108_56 : At 108 56 [some (.ref r), a1] st I J Q ↔ At 108 57 [some (.ref r), a1] (.ref r :: st) I J Q := A_aload_n (q := 0) (ab_io ci108 (by decide +kernel)) rfl
theorem k108_57 : At 108 57 ls (.ref 0 :: st) I J Q ↔ At 108 60 ls (.ref 5 :: st) I J Q := A_getR (ab_io ci108 (by decide +kernel)) ow108 fq7_19_0
theorem k108_60_5 : At 108 60 ls [.ref 5] I J Q ↔ Cal 39 [.ref 5] I J (fun v I' J' => At 108 63 ls (v.toList ++ []) I' J' Q) := A_cal (kd := 0) (j := 313) (na := 1) (ea := 1) (rk := 5) (by decide +kernel) rfl rfl rfl (Or.inr rfl) (Nat.le_of_ble_eq_true rfl)
theorem k108_60_17 : At 108 60 ls [.ref 17] I J Q ↔ Cal 39 [.ref 17] I J (fun v I' J' => At 108 63 ls (v.toList ++ []) I' J' Q) := A_cal (kd := 0) (j := 313) (na := 1) (ea := 1) (rk := 17) (by decide +kernel) rfl rfl rfl (Or.inr rfl) (Nat.le_of_ble_eq_true rfl)
theorem k108_63 : At 108 63 ls [.int x] I J Q ↔ Q (some (.int x)) I J := A_iret (ab_io ci108 (by decide +kernel)) rt108
theorem k108_64 : At 108 64 [some (.ref r), a1] st I J Q ↔ At 108 65 [some (.ref r), a1] (.ref r :: st) I J Q := A_aload_n (q := 0) (ab_io ci108 (by decide +kernel)) rfl
theorem k108_65 : At 108 65 ls (.ref 0 :: st) I J Q ↔ At 108 68 ls (.ref 1 :: st) I J Q := A_getR (ab_io ci108 (by decide +kernel)) ow108 fq7_10_0
theorem k108_68 : At 108 68 ls (.ref 1 :: st) I J Q ↔ At 108 71 ls (.int (I 1 3) :: st) I J Q := A_getI (ab_io ci108 (by decide +kernel)) ow108 fq7_94_1
theorem k108_71 : At 108 71 ls [.int x] I J Q ↔ Q (some (.int x)) I J := A_iret (ab_io ci108 (by decide +kernel)) rt108
theorem k108_72 : At 108 72 [some (.ref r), a1] st I J Q ↔ At 108 73 [some (.ref r), a1] (.ref r :: st) I J Q := A_aload_n (q := 0) (ab_io ci108 (by decide +kernel)) rfl
theorem k108_73 : At 108 73 ls (.ref 0 :: st) I J Q ↔ At 108 76 ls (.ref 1 :: st) I J Q := A_getR (ab_io ci108 (by decide +kernel)) ow108 fq7_10_0
theorem k108_76 : At 108 76 ls (.ref 1 :: st) I J Q ↔ At 108 79 ls (.int (I 1 5) :: st) I J Q := A_getI (ab_io ci108 (by decide +kernel)) ow108 fq7_118_1
theorem k108_79 : At 108 79 ls [.int x] I J Q ↔ Q (some (.int x)) I J := A_iret (ab_io ci108 (by decide +kernel)) rt108
theorem k108_80 : At 108 80 [some (.ref r), a1] st I J Q ↔ At 108 81 [some (.ref r), a1] (.ref r :: st) I J Q := A_aload_n (q := 0) (ab_io ci108 (by decide +kernel)) rfl
theorem k108_81 : At 108 81 ls (.ref 0 :: st) I J Q ↔ At 108 84 ls (.ref 1 :: st) I J Q := A_getR (ab_io ci108 (by decide +kernel)) ow108 fq7_10_0
theorem k108_84 : At 108 84 ls (.ref 1 :: st) I J Q ↔ At 108 87 ls (.int (I 1 4) :: st) I J Q := A_getI (ab_io ci108 (by decide +kernel)) ow108 fq7_316_1
theorem k108_87 : At 108 87 ls [.int x] I J Q ↔ Q (some (.int x)) I J := A_iret (ab_io ci108 (by decide +kernel)) rt108
theorem k108_88 : At 108 88 [some (.ref r), a1] st I J Q ↔ At 108 89 [some (.ref r), a1] (.ref r :: st) I J Q := A_aload_n (q := 0) (ab_io ci108 (by decide +kernel)) rfl
theorem k108_89 : At 108 89 ls (.ref 0 :: st) I J Q ↔ At 108 92 ls (.ref 5 :: st) I J Q := A_getR (ab_io ci108 (by decide +kernel)) ow108 fq7_19_0
theorem k108_92_5 : At 108 92 ls [.ref 5] I J Q ↔ Cal 37 [.ref 5] I J (fun v I' J' => At 108 95 ls (v.toList ++ []) I' J' Q) := A_cal (kd := 0) (j := 319) (na := 1) (ea := 1) (rk := 5) (by decide +kernel) rfl rfl rfl (Or.inr rfl) (Nat.le_of_ble_eq_true rfl)
theorem k108_92_17 : At 108 92 ls [.ref 17] I J Q ↔ Cal 37 [.ref 17] I J (fun v I' J' => At 108 95 ls (v.toList ++ []) I' J' Q) := A_cal (kd := 0) (j := 319) (na := 1) (ea := 1) (rk := 17) (by decide +kernel) rfl rfl rfl (Or.inr rfl) (Nat.le_of_ble_eq_true rfl)
theorem k108_95 : At 108 95 ls [.int x] I J Q ↔ Q (some (.int x)) I J := A_iret (ab_io ci108 (by decide +kernel)) rt108
theorem k108_96 : At 108 96 [some (.ref r), a1] st I J Q ↔ At 108 97 [some (.ref r), a1] (.ref r :: st) I J Q := A_aload_n (q := 0) (ab_io ci108 (by decide +kernel)) rfl
theorem k108_97 : At 108 97 ls (.ref 0 :: st) I J Q ↔ At 108 100 ls (.ref 39 :: st) I J Q := A_getR (ab_io ci108 (by decide +kernel)) ow108 fq7_50_0
theorem k108_100 : At 108 100 ls (.ref 39 :: st) I J Q ↔ At 108 103 ls (.int (I 39 3) :: st) I J Q := A_getI (ab_io ci108 (by decide +kernel)) ow108 fq7_179_39
theorem k108_103 : At 108 103 ls [.int x] I J Q ↔ Q (some (.int x)) I J := A_iret (ab_io ci108 (by decide +kernel)) rt108
theorem k108_104 : At 108 104 [some (.ref r), a1] st I J Q ↔ At 108 105 [some (.ref r), a1] (.ref r :: st) I J Q := A_aload_n (q := 0) (ab_io ci108 (by decide +kernel)) rfl
theorem k108_105 : At 108 105 ls (.ref 0 :: st) I J Q ↔ At 108 108 ls (.ref 5 :: st) I J Q := A_getR (ab_io ci108 (by decide +kernel)) ow108 fq7_19_0
theorem k108_108_5 : At 108 108 ls [.ref 5] I J Q ↔ Cal 36 [.ref 5] I J (fun v I' J' => At 108 111 ls (v.toList ++ []) I' J' Q) := A_cal (kd := 0) (j := 322) (na := 1) (ea := 1) (rk := 5) (by decide +kernel) rfl rfl rfl (Or.inr rfl) (Nat.le_of_ble_eq_true rfl)
theorem k108_108_17 : At 108 108 ls [.ref 17] I J Q ↔ Cal 36 [.ref 17] I J (fun v I' J' => At 108 111 ls (v.toList ++ []) I' J' Q) := A_cal (kd := 0) (j := 322) (na := 1) (ea := 1) (rk := 17) (by decide +kernel) rfl rfl rfl (Or.inr rfl) (Nat.le_of_ble_eq_true rfl)
theorem k108_111 : At 108 111 ls [.int x] I J Q ↔ Q (some (.int x)) I J := A_iret (ab_io ci108 (by decide +kernel)) rt108
theorem k108_112 : At 108 112 [some (.ref r), a1] st I J Q ↔ At 108 113 [some (.ref r), a1] (.ref r :: st) I J Q := A_aload_n (q := 0) (ab_io ci108 (by decide +kernel)) rfl
theorem k108_113 : At 108 113 ls (.ref 0 :: st) I J Q ↔ At 108 116 ls (.ref 5 :: st) I J Q := A_getR (ab_io ci108 (by decide +kernel)) ow108 fq7_19_0
theorem k108_116_5 : At 108 116 ls [.ref 5] I J Q ↔ Cal 40 [.ref 5] I J (fun v I' J' => At 108 119 ls (v.toList ++ []) I' J' Q) := A_cal (kd := 0) (j := 325) (na := 1) (ea := 1) (rk := 5) (by decide +kernel) rfl rfl rfl (Or.inr rfl) (Nat.le_of_ble_eq_true rfl)
theorem k108_116_17 : At 108 116 ls [.ref 17] I J Q ↔ Cal 40 [.ref 17] I J (fun v I' J' => At 108 119 ls (v.toList ++ []) I' J' Q) := A_cal (kd := 0) (j := 325) (na := 1) (ea := 1) (rk := 17) (by decide +kernel) rfl rfl rfl (Or.inr rfl) (Nat.le_of_ble_eq_true rfl)
theorem k108_119 : At 108 119 ls [.int x] I J Q ↔ Q (some (.int x)) I J := A_iret (ab_io ci108 (by decide +kernel)) rt108
theorem k108_120 : At 108 120 [some (.ref r), a1] st I J Q ↔ At 108 121 [some (.ref r), a1] (.ref r :: st) I J Q := A_aload_n (q := 0) (ab_io ci108 (by decide +kernel)) rfl
theorem k108_121 : At 108 121 ls (.ref 0 :: st) I J Q ↔ At 108 124 ls (.int (I 0 11) :: st) I J Q := A_getI (ab_io ci108 (by decide +kernel)) ow108 fq7_72_0
theorem k108_124 : At 108 124 ls [.int x] I J Q ↔ Q (some (.int x)) I J := A_iret (ab_io ci108 (by decide +kernel)) rt108
theorem k108_125 : At 108 125 ls st I J Q ↔ At 108 127 ls (.int (-2) :: st) I J Q := A_bipush (ab_io ci108 (by decide +kernel)) bc_m2
theorem k108_127 : At 108 127 ls [.int x] I J Q ↔ Q (some (.int x)) I J := A_iret (ab_io ci108 (by decide +kernel)) rt108
theorem k109_0 : At 109 0 ls st I J Q ↔ At 109 3 ls (.long 17 :: st) I J Q := A_ldc2_w (j := 328) (q := 817) (ab_io ci109 (by decide +kernel)) ow109 (by decide +kernel)
theorem k109_3 : At 109 3 [a0, a1, a2, a3, a4] (.long u :: st) I J Q ↔ At 109 4 [ab_nv a0, some (.long u), none, a3, a4] st I J Q := A_lstore_n (q := 1) (ab_io ci109 (by decide +kernel)) (Nat.le_of_ble_eq_true rfl) rfl
theorem k109_4 : At 109 4 ls st I J Q ↔ At 109 5 ls (.int (nI 0) :: st) I J Q := A_iconst (ab_io ci109 (by decide +kernel)) ic_0
theorem k109_5 : At 109 5 [a0, a1, a2, a3, a4] (.int x :: st) I J Q ↔ At 109 6 [a0, a1, ab_nv a2, some (.int x), a4] st I J Q := A_istore_n (q := 3) (ab_io ci109 (by decide +kernel)) (Nat.le_of_ble_eq_true rfl) rfl
theorem k109_6 : At 109 6 [a0, a1, a2, some (.int x), a4] st I J Q ↔ At 109 7 [a0, a1, a2, some (.int x), a4] (.int x :: st) I J Q := A_iload_n (q := 3) (ab_io ci109 (by decide +kernel)) rfl
theorem k109_7 : At 109 7 ls st I J Q ↔ At 109 9 ls (.int (nI 7) :: st) I J Q := A_bipush (ab_io ci109 (by decide +kernel)) bc_7
theorem k109_9 : At 109 9 ls (.int x1 :: .int x :: st) I J Q ↔ if x1 < x then At 109 31 ls st I J Q else At 109 12 ls st I J Q := A_if_icmp_gt (o := 22) (ab_io ci109 (by decide +kernel)) (by decide)
theorem k109_12 : At 109 12 ls st I J Q ↔ At 109 15 ls (.long 31 :: st) I J Q := A_ldc2_w (j := 330) (q := 818) (ab_io ci109 (by decide +kernel)) ow109 (by decide +kernel)
theorem k109_15 : At 109 15 [a0, some (.long u), a2, a3, a4] st I J Q ↔ At 109 16 [a0, some (.long u), a2, a3, a4] (.long u :: st) I J Q := A_lload_n (q := 1) (ab_io ci109 (by decide +kernel)) rfl
theorem k109_16 : At 109 16 ls (.long u1 :: .long u :: st) I J Q ↔ At 109 17 ls (.long (u * u1) :: st) I J Q := A_lmul (ab_io ci109 (by decide +kernel))
theorem k109_17 : At 109 17 [some (.ref r), a1, a2, a3, a4] st I J Q ↔ At 109 18 [some (.ref r), a1, a2, a3, a4] (.ref r :: st) I J Q := A_aload_n (q := 0) (ab_io ci109 (by decide +kernel)) rfl
theorem k109_18 : At 109 18 [a0, a1, a2, some (.int x), a4] st I J Q ↔ At 109 19 [a0, a1, a2, some (.int x), a4] (.int x :: st) I J Q := A_iload_n (q := 3) (ab_io ci109 (by decide +kernel)) rfl
theorem k109_19 : At 109 19 ls [.int p0, .ref 0, .long qu0] I J Q ↔ Cal 108 [.ref 0, .int p0] I J (fun v I' J' => At 109 22 ls (v.toList ++ [.long qu0]) I' J' Q) := A_cal (kd := 0) (j := 332) (na := 2) (ea := 2) (rk := 0) (by decide +kernel) rfl rfl rfl (Or.inr rfl) (Nat.le_of_ble_eq_true rfl)
theorem k109_22 : At 109 22 ls (.int x :: st) I J Q ↔ At 109 23 ls (.long x.toInt64 :: st) I J Q := A_i2l (ab_io ci109 (by decide +kernel))
theorem k109_23 : At 109 23 ls (.long u1 :: .long u :: st) I J Q ↔ At 109 24 ls (.long (u + u1) :: st) I J Q := A_ladd (ab_io ci109 (by decide +kernel))
theorem k109_24 : At 109 24 [a0, a1, a2, a3, a4] (.long u :: st) I J Q ↔ At 109 25 [ab_nv a0, some (.long u), none, a3, a4] st I J Q := A_lstore_n (q := 1) (ab_io ci109 (by decide +kernel)) (Nat.le_of_ble_eq_true rfl) rfl
theorem k109_25 : At 109 25 [a0, a1, a2, some (.int x), a4] st I J Q ↔ At 109 28 [a0, a1, ab_nv a2, some (.int (x + (nI 1))), a4] st I J Q := A_iinc (q := 3) (ab_io ci109 (by decide +kernel)) ic_1 (Nat.le_of_ble_eq_true rfl) rfl rfl
theorem k109_28 : At 109 28 ls st I J Q ↔ At 109 6 ls st I J Q := A_goto (o := (-22)) (ab_io ci109 (by decide +kernel)) (by decide)
theorem k109_31 : At 109 31 ls st I J Q ↔ At 109 32 ls (.int (nI 0) :: st) I J Q := A_iconst (ab_io ci109 (by decide +kernel)) ic_0
theorem k109_32 : At 109 32 [a0, a1, a2, a3, a4] (.int x :: st) I J Q ↔ At 109 33 [a0, a1, ab_nv a2, some (.int x), a4] st I J Q := A_istore_n (q := 3) (ab_io ci109 (by decide +kernel)) (Nat.le_of_ble_eq_true rfl) rfl
theorem k109_33 : At 109 33 [a0, a1, a2, some (.int x), a4] st I J Q ↔ At 109 34 [a0, a1, a2, some (.int x), a4] (.int x :: st) I J Q := A_iload_n (q := 3) (ab_io ci109 (by decide +kernel)) rfl
theorem k109_34 : At 109 34 ls st I J Q ↔ At 109 36 ls (.int (nI 12) :: st) I J Q := A_bipush (ab_io ci109 (by decide +kernel)) bc_12
theorem k109_36 : At 109 36 ls (.int x1 :: .int x :: st) I J Q ↔ if x1 ≤ x then At 109 101 ls st I J Q else At 109 39 ls st I J Q := A_if_icmp_ge (o := 65) (ab_io ci109 (by decide +kernel)) (by decide)
theorem k109_39 : At 109 39 ls st I J Q ↔ At 109 40 ls (.int (nI 0) :: st) I J Q := A_iconst (ab_io ci109 (by decide +kernel)) ic_0
theorem k109_40 : At 109 40 [a0, a1, a2, a3, a4] (.int x :: st) I J Q ↔ At 109 42 [a0, a1, a2, ab_nv a3, some (.int x)] st I J Q := A_istore (q := 4) (ab_io ci109 (by decide +kernel)) (Nat.le_of_ble_eq_true rfl) rfl
theorem k109_42 : At 109 42 [a0, a1, a2, a3, some (.int x)] st I J Q ↔ At 109 44 [a0, a1, a2, a3, some (.int x)] (.int x :: st) I J Q := A_iload (q := 4) (ab_io ci109 (by decide +kernel)) rfl
theorem k109_44 : At 109 44 ls st I J Q ↔ At 109 45 ls (.int (nI 4) :: st) I J Q := A_iconst (ab_io ci109 (by decide +kernel)) ic_4
theorem k109_45 : At 109 45 ls (.int x1 :: .int x :: st) I J Q ↔ if x1 ≤ x then At 109 69 ls st I J Q else At 109 48 ls st I J Q := A_if_icmp_ge (o := 24) (ab_io ci109 (by decide +kernel)) (by decide)
theorem k109_48 : At 109 48 ls st I J Q ↔ At 109 51 ls (.long 31 :: st) I J Q := A_ldc2_w (j := 330) (q := 818) (ab_io ci109 (by decide +kernel)) ow109 (by decide +kernel)
theorem k109_51 : At 109 51 [a0, some (.long u), a2, a3, a4] st I J Q ↔ At 109 52 [a0, some (.long u), a2, a3, a4] (.long u :: st) I J Q := A_lload_n (q := 1) (ab_io ci109 (by decide +kernel)) rfl
theorem k109_52 : At 109 52 ls (.long u1 :: .long u :: st) I J Q ↔ At 109 53 ls (.long (u * u1) :: st) I J Q := A_lmul (ab_io ci109 (by decide +kernel))
theorem k109_53 : At 109 53 [some (.ref r), a1, a2, a3, a4] st I J Q ↔ At 109 54 [some (.ref r), a1, a2, a3, a4] (.ref r :: st) I J Q := A_aload_n (q := 0) (ab_io ci109 (by decide +kernel)) rfl
theorem k109_54 : At 109 54 [a0, a1, a2, some (.int x), a4] st I J Q ↔ At 109 55 [a0, a1, a2, some (.int x), a4] (.int x :: st) I J Q := A_iload_n (q := 3) (ab_io ci109 (by decide +kernel)) rfl
theorem k109_55 : At 109 55 [a0, a1, a2, a3, some (.int x)] st I J Q ↔ At 109 57 [a0, a1, a2, a3, some (.int x)] (.int x :: st) I J Q := A_iload (q := 4) (ab_io ci109 (by decide +kernel)) rfl
theorem k109_57 : At 109 57 ls [.int p0, .int p1, .ref 0, .long qu0] I J Q ↔ Cal 79 [.ref 0, .int p1, .int p0] I J (fun v I' J' => At 109 60 ls (v.toList ++ [.long qu0]) I' J' Q) := A_cal (kd := 0) (j := 335) (na := 3) (ea := 3) (rk := 0) (by decide +kernel) rfl rfl rfl (Or.inr rfl) (Nat.le_of_ble_eq_true rfl)
theorem k109_60 : At 109 60 ls (.int x :: st) I J Q ↔ At 109 61 ls (.long x.toInt64 :: st) I J Q := A_i2l (ab_io ci109 (by decide +kernel))
theorem k109_61 : At 109 61 ls (.long u1 :: .long u :: st) I J Q ↔ At 109 62 ls (.long (u + u1) :: st) I J Q := A_ladd (ab_io ci109 (by decide +kernel))
theorem k109_62 : At 109 62 [a0, a1, a2, a3, a4] (.long u :: st) I J Q ↔ At 109 63 [ab_nv a0, some (.long u), none, a3, a4] st I J Q := A_lstore_n (q := 1) (ab_io ci109 (by decide +kernel)) (Nat.le_of_ble_eq_true rfl) rfl
theorem k109_63 : At 109 63 [a0, a1, a2, a3, some (.int x)] st I J Q ↔ At 109 66 [a0, a1, a2, ab_nv a3, some (.int (x + (nI 1)))] st I J Q := A_iinc (q := 4) (ab_io ci109 (by decide +kernel)) ic_1 (Nat.le_of_ble_eq_true rfl) rfl rfl
theorem k109_66 : At 109 66 ls st I J Q ↔ At 109 42 ls st I J Q := A_goto (o := (-24)) (ab_io ci109 (by decide +kernel)) (by decide)
theorem k109_69 : At 109 69 ls st I J Q ↔ At 109 72 ls (.long 31 :: st) I J Q := A_ldc2_w (j := 330) (q := 818) (ab_io ci109 (by decide +kernel)) ow109 (by decide +kernel)
theorem k109_72 : At 109 72 [a0, some (.long u), a2, a3, a4] st I J Q ↔ At 109 73 [a0, some (.long u), a2, a3, a4] (.long u :: st) I J Q := A_lload_n (q := 1) (ab_io ci109 (by decide +kernel)) rfl
theorem k109_73 : At 109 73 ls (.long u1 :: .long u :: st) I J Q ↔ At 109 74 ls (.long (u * u1) :: st) I J Q := A_lmul (ab_io ci109 (by decide +kernel))
theorem k109_74 : At 109 74 [some (.ref r), a1, a2, a3, a4] st I J Q ↔ At 109 75 [some (.ref r), a1, a2, a3, a4] (.ref r :: st) I J Q := A_aload_n (q := 0) (ab_io ci109 (by decide +kernel)) rfl
theorem k109_75 : At 109 75 [a0, a1, a2, some (.int x), a4] st I J Q ↔ At 109 76 [a0, a1, a2, some (.int x), a4] (.int x :: st) I J Q := A_iload_n (q := 3) (ab_io ci109 (by decide +kernel)) rfl
theorem k109_76 : At 109 76 ls st I J Q ↔ At 109 77 ls (.int (nI 0) :: st) I J Q := A_iconst (ab_io ci109 (by decide +kernel)) ic_0
theorem k109_77 : At 109 77 ls [.int p0, .int p1, .ref 0, .long qu0] I J Q ↔ Cal 82 [.ref 0, .int p1, .int p0] I J (fun v I' J' => At 109 80 ls (v.toList ++ [.long qu0]) I' J' Q) := A_cal (kd := 0) (j := 338) (na := 3) (ea := 3) (rk := 0) (by decide +kernel) rfl rfl rfl (Or.inr rfl) (Nat.le_of_ble_eq_true rfl)
theorem k109_80 : At 109 80 ls (.long u1 :: .long u :: st) I J Q ↔ At 109 81 ls (.long (u + u1) :: st) I J Q := A_ladd (ab_io ci109 (by decide +kernel))
theorem k109_81 : At 109 81 [a0, a1, a2, a3, a4] (.long u :: st) I J Q ↔ At 109 82 [ab_nv a0, some (.long u), none, a3, a4] st I J Q := A_lstore_n (q := 1) (ab_io ci109 (by decide +kernel)) (Nat.le_of_ble_eq_true rfl) rfl
theorem k109_82 : At 109 82 ls st I J Q ↔ At 109 85 ls (.long 31 :: st) I J Q := A_ldc2_w (j := 330) (q := 818) (ab_io ci109 (by decide +kernel)) ow109 (by decide +kernel)
theorem k109_85 : At 109 85 [a0, some (.long u), a2, a3, a4] st I J Q ↔ At 109 86 [a0, some (.long u), a2, a3, a4] (.long u :: st) I J Q := A_lload_n (q := 1) (ab_io ci109 (by decide +kernel)) rfl
theorem k109_86 : At 109 86 ls (.long u1 :: .long u :: st) I J Q ↔ At 109 87 ls (.long (u * u1) :: st) I J Q := A_lmul (ab_io ci109 (by decide +kernel))
theorem k109_87 : At 109 87 [some (.ref r), a1, a2, a3, a4] st I J Q ↔ At 109 88 [some (.ref r), a1, a2, a3, a4] (.ref r :: st) I J Q := A_aload_n (q := 0) (ab_io ci109 (by decide +kernel)) rfl
theorem k109_88 : At 109 88 [a0, a1, a2, some (.int x), a4] st I J Q ↔ At 109 89 [a0, a1, a2, some (.int x), a4] (.int x :: st) I J Q := A_iload_n (q := 3) (ab_io ci109 (by decide +kernel)) rfl
theorem k109_89 : At 109 89 ls st I J Q ↔ At 109 90 ls (.int (nI 1) :: st) I J Q := A_iconst (ab_io ci109 (by decide +kernel)) ic_1
theorem k109_90 : At 109 90 ls [.int p0, .int p1, .ref 0, .long qu0] I J Q ↔ Cal 82 [.ref 0, .int p1, .int p0] I J (fun v I' J' => At 109 93 ls (v.toList ++ [.long qu0]) I' J' Q) := A_cal (kd := 0) (j := 338) (na := 3) (ea := 3) (rk := 0) (by decide +kernel) rfl rfl rfl (Or.inr rfl) (Nat.le_of_ble_eq_true rfl)
theorem k109_93 : At 109 93 ls (.long u1 :: .long u :: st) I J Q ↔ At 109 94 ls (.long (u + u1) :: st) I J Q := A_ladd (ab_io ci109 (by decide +kernel))
theorem k109_94 : At 109 94 [a0, a1, a2, a3, a4] (.long u :: st) I J Q ↔ At 109 95 [ab_nv a0, some (.long u), none, a3, a4] st I J Q := A_lstore_n (q := 1) (ab_io ci109 (by decide +kernel)) (Nat.le_of_ble_eq_true rfl) rfl
theorem k109_95 : At 109 95 [a0, a1, a2, some (.int x), a4] st I J Q ↔ At 109 98 [a0, a1, ab_nv a2, some (.int (x + (nI 1))), a4] st I J Q := A_iinc (q := 3) (ab_io ci109 (by decide +kernel)) ic_1 (Nat.le_of_ble_eq_true rfl) rfl rfl
theorem k109_98 : At 109 98 ls st I J Q ↔ At 109 33 ls st I J Q := A_goto (o := (-65)) (ab_io ci109 (by decide +kernel)) (by decide)
theorem k109_101 : At 109 101 ls st I J Q ↔ At 109 102 ls (.int (nI 0) :: st) I J Q := A_iconst (ab_io ci109 (by decide +kernel)) ic_0
theorem k109_102 : At 109 102 [a0, a1, a2, a3, a4] (.int x :: st) I J Q ↔ At 109 103 [a0, a1, ab_nv a2, some (.int x), a4] st I J Q := A_istore_n (q := 3) (ab_io ci109 (by decide +kernel)) (Nat.le_of_ble_eq_true rfl) rfl
theorem k109_103 : At 109 103 [a0, a1, a2, some (.int x), a4] st I J Q ↔ At 109 104 [a0, a1, a2, some (.int x), a4] (.int x :: st) I J Q := A_iload_n (q := 3) (ab_io ci109 (by decide +kernel)) rfl
theorem k109_104 : At 109 104 ls st I J Q ↔ At 109 105 ls (.int (nI 4) :: st) I J Q := A_iconst (ab_io ci109 (by decide +kernel)) ic_4
theorem k109_105 : At 109 105 ls (.int x1 :: .int x :: st) I J Q ↔ if x1 ≤ x then At 109 140 ls st I J Q else At 109 108 ls st I J Q := A_if_icmp_ge (o := 35) (ab_io ci109 (by decide +kernel)) (by decide)
theorem k109_108 : At 109 108 ls st I J Q ↔ At 109 111 ls (.long 31 :: st) I J Q := A_ldc2_w (j := 330) (q := 818) (ab_io ci109 (by decide +kernel)) ow109 (by decide +kernel)
theorem k109_111 : At 109 111 [a0, some (.long u), a2, a3, a4] st I J Q ↔ At 109 112 [a0, some (.long u), a2, a3, a4] (.long u :: st) I J Q := A_lload_n (q := 1) (ab_io ci109 (by decide +kernel)) rfl
theorem k109_112 : At 109 112 ls (.long u1 :: .long u :: st) I J Q ↔ At 109 113 ls (.long (u * u1) :: st) I J Q := A_lmul (ab_io ci109 (by decide +kernel))
theorem k109_113 : At 109 113 [some (.ref r), a1, a2, a3, a4] st I J Q ↔ At 109 114 [some (.ref r), a1, a2, a3, a4] (.ref r :: st) I J Q := A_aload_n (q := 0) (ab_io ci109 (by decide +kernel)) rfl
theorem k109_114 : At 109 114 [a0, a1, a2, some (.int x), a4] st I J Q ↔ At 109 115 [a0, a1, a2, some (.int x), a4] (.int x :: st) I J Q := A_iload_n (q := 3) (ab_io ci109 (by decide +kernel)) rfl
theorem k109_115 : At 109 115 ls st I J Q ↔ At 109 116 ls (.int (nI 0) :: st) I J Q := A_iconst (ab_io ci109 (by decide +kernel)) ic_0
theorem k109_116 : At 109 116 ls [.int p0, .int p1, .ref 0, .long qu0] I J Q ↔ Cal 81 [.ref 0, .int p1, .int p0] I J (fun v I' J' => At 109 119 ls (v.toList ++ [.long qu0]) I' J' Q) := A_cal (kd := 0) (j := 341) (na := 3) (ea := 3) (rk := 0) (by decide +kernel) rfl rfl rfl (Or.inr rfl) (Nat.le_of_ble_eq_true rfl)
theorem k109_119 : At 109 119 ls (.long u1 :: .long u :: st) I J Q ↔ At 109 120 ls (.long (u + u1) :: st) I J Q := A_ladd (ab_io ci109 (by decide +kernel))
theorem k109_120 : At 109 120 [a0, a1, a2, a3, a4] (.long u :: st) I J Q ↔ At 109 121 [ab_nv a0, some (.long u), none, a3, a4] st I J Q := A_lstore_n (q := 1) (ab_io ci109 (by decide +kernel)) (Nat.le_of_ble_eq_true rfl) rfl
theorem k109_121 : At 109 121 ls st I J Q ↔ At 109 124 ls (.long 31 :: st) I J Q := A_ldc2_w (j := 330) (q := 818) (ab_io ci109 (by decide +kernel)) ow109 (by decide +kernel)
theorem k109_124 : At 109 124 [a0, some (.long u), a2, a3, a4] st I J Q ↔ At 109 125 [a0, some (.long u), a2, a3, a4] (.long u :: st) I J Q := A_lload_n (q := 1) (ab_io ci109 (by decide +kernel)) rfl
theorem k109_125 : At 109 125 ls (.long u1 :: .long u :: st) I J Q ↔ At 109 126 ls (.long (u * u1) :: st) I J Q := A_lmul (ab_io ci109 (by decide +kernel))
theorem k109_126 : At 109 126 [some (.ref r), a1, a2, a3, a4] st I J Q ↔ At 109 127 [some (.ref r), a1, a2, a3, a4] (.ref r :: st) I J Q := A_aload_n (q := 0) (ab_io ci109 (by decide +kernel)) rfl
theorem k109_127 : At 109 127 [a0, a1, a2, some (.int x), a4] st I J Q ↔ At 109 128 [a0, a1, a2, some (.int x), a4] (.int x :: st) I J Q := A_iload_n (q := 3) (ab_io ci109 (by decide +kernel)) rfl
theorem k109_128 : At 109 128 ls st I J Q ↔ At 109 129 ls (.int (nI 1) :: st) I J Q := A_iconst (ab_io ci109 (by decide +kernel)) ic_1
theorem k109_129 : At 109 129 ls [.int p0, .int p1, .ref 0, .long qu0] I J Q ↔ Cal 81 [.ref 0, .int p1, .int p0] I J (fun v I' J' => At 109 132 ls (v.toList ++ [.long qu0]) I' J' Q) := A_cal (kd := 0) (j := 341) (na := 3) (ea := 3) (rk := 0) (by decide +kernel) rfl rfl rfl (Or.inr rfl) (Nat.le_of_ble_eq_true rfl)
theorem k109_132 : At 109 132 ls (.long u1 :: .long u :: st) I J Q ↔ At 109 133 ls (.long (u + u1) :: st) I J Q := A_ladd (ab_io ci109 (by decide +kernel))
theorem k109_133 : At 109 133 [a0, a1, a2, a3, a4] (.long u :: st) I J Q ↔ At 109 134 [ab_nv a0, some (.long u), none, a3, a4] st I J Q := A_lstore_n (q := 1) (ab_io ci109 (by decide +kernel)) (Nat.le_of_ble_eq_true rfl) rfl
theorem k109_134 : At 109 134 [a0, a1, a2, some (.int x), a4] st I J Q ↔ At 109 137 [a0, a1, ab_nv a2, some (.int (x + (nI 1))), a4] st I J Q := A_iinc (q := 3) (ab_io ci109 (by decide +kernel)) ic_1 (Nat.le_of_ble_eq_true rfl) rfl rfl
theorem k109_137 : At 109 137 ls st I J Q ↔ At 109 103 ls st I J Q := A_goto (o := (-34)) (ab_io ci109 (by decide +kernel)) (by decide)
theorem k109_140 : At 109 140 ls st I J Q ↔ At 109 141 ls (.int (nI 0) :: st) I J Q := A_iconst (ab_io ci109 (by decide +kernel)) ic_0
theorem k109_141 : At 109 141 [a0, a1, a2, a3, a4] (.int x :: st) I J Q ↔ At 109 142 [a0, a1, ab_nv a2, some (.int x), a4] st I J Q := A_istore_n (q := 3) (ab_io ci109 (by decide +kernel)) (Nat.le_of_ble_eq_true rfl) rfl
theorem k109_142 : At 109 142 [a0, a1, a2, some (.int x), a4] st I J Q ↔ At 109 143 [a0, a1, a2, some (.int x), a4] (.int x :: st) I J Q := A_iload_n (q := 3) (ab_io ci109 (by decide +kernel)) rfl
theorem k109_143 : At 109 143 ls st I J Q ↔ At 109 144 ls (.int (nI 3) :: st) I J Q := A_iconst (ab_io ci109 (by decide +kernel)) ic_3
theorem k109_144 : At 109 144 ls (.int x1 :: .int x :: st) I J Q ↔ if x1 < x then At 109 165 ls st I J Q else At 109 147 ls st I J Q := A_if_icmp_gt (o := 21) (ab_io ci109 (by decide +kernel)) (by decide)
theorem k109_147 : At 109 147 ls st I J Q ↔ At 109 150 ls (.long 31 :: st) I J Q := A_ldc2_w (j := 330) (q := 818) (ab_io ci109 (by decide +kernel)) ow109 (by decide +kernel)
theorem k109_150 : At 109 150 [a0, some (.long u), a2, a3, a4] st I J Q ↔ At 109 151 [a0, some (.long u), a2, a3, a4] (.long u :: st) I J Q := A_lload_n (q := 1) (ab_io ci109 (by decide +kernel)) rfl
theorem k109_151 : At 109 151 ls (.long u1 :: .long u :: st) I J Q ↔ At 109 152 ls (.long (u * u1) :: st) I J Q := A_lmul (ab_io ci109 (by decide +kernel))
theorem k109_152 : At 109 152 [some (.ref r), a1, a2, a3, a4] st I J Q ↔ At 109 153 [some (.ref r), a1, a2, a3, a4] (.ref r :: st) I J Q := A_aload_n (q := 0) (ab_io ci109 (by decide +kernel)) rfl
theorem k109_153 : At 109 153 [a0, a1, a2, some (.int x), a4] st I J Q ↔ At 109 154 [a0, a1, a2, some (.int x), a4] (.int x :: st) I J Q := A_iload_n (q := 3) (ab_io ci109 (by decide +kernel)) rfl
theorem k109_154 : At 109 154 ls [.int p0, .ref 0, .long qu0] I J Q ↔ Cal 93 [.ref 0, .int p0] I J (fun v I' J' => At 109 157 ls (v.toList ++ [.long qu0]) I' J' Q) := A_cal (kd := 0) (j := 344) (na := 2) (ea := 2) (rk := 0) (by decide +kernel) rfl rfl rfl (Or.inr rfl) (Nat.le_of_ble_eq_true rfl)
theorem k109_157 : At 109 157 ls (.long u1 :: .long u :: st) I J Q ↔ At 109 158 ls (.long (u + u1) :: st) I J Q := A_ladd (ab_io ci109 (by decide +kernel))
theorem k109_158 : At 109 158 [a0, a1, a2, a3, a4] (.long u :: st) I J Q ↔ At 109 159 [ab_nv a0, some (.long u), none, a3, a4] st I J Q := A_lstore_n (q := 1) (ab_io ci109 (by decide +kernel)) (Nat.le_of_ble_eq_true rfl) rfl
theorem k109_159 : At 109 159 [a0, a1, a2, some (.int x), a4] st I J Q ↔ At 109 162 [a0, a1, ab_nv a2, some (.int (x + (nI 1))), a4] st I J Q := A_iinc (q := 3) (ab_io ci109 (by decide +kernel)) ic_1 (Nat.le_of_ble_eq_true rfl) rfl rfl
theorem k109_162 : At 109 162 ls st I J Q ↔ At 109 142 ls st I J Q := A_goto (o := (-20)) (ab_io ci109 (by decide +kernel)) (by decide)
theorem k109_165 : At 109 165 ls st I J Q ↔ At 109 168 ls (.long 31 :: st) I J Q := A_ldc2_w (j := 330) (q := 818) (ab_io ci109 (by decide +kernel)) ow109 (by decide +kernel)
theorem k109_168 : At 109 168 [a0, some (.long u), a2, a3, a4] st I J Q ↔ At 109 169 [a0, some (.long u), a2, a3, a4] (.long u :: st) I J Q := A_lload_n (q := 1) (ab_io ci109 (by decide +kernel)) rfl
theorem k109_169 : At 109 169 ls (.long u1 :: .long u :: st) I J Q ↔ At 109 170 ls (.long (u * u1) :: st) I J Q := A_lmul (ab_io ci109 (by decide +kernel))
theorem k109_170 : At 109 170 [some (.ref r), a1, a2, a3, a4] st I J Q ↔ At 109 171 [some (.ref r), a1, a2, a3, a4] (.ref r :: st) I J Q := A_aload_n (q := 0) (ab_io ci109 (by decide +kernel)) rfl
theorem k109_171 : At 109 171 ls [.ref 0, .long qu0] I J Q ↔ Cal 88 [.ref 0] I J (fun v I' J' => At 109 174 ls (v.toList ++ [.long qu0]) I' J' Q) := A_cal (kd := 0) (j := 347) (na := 1) (ea := 1) (rk := 0) (by decide +kernel) rfl rfl rfl (Or.inr rfl) (Nat.le_of_ble_eq_true rfl)
theorem k109_174 : At 109 174 ls (.int x :: st) I J Q ↔ At 109 175 ls (.long x.toInt64 :: st) I J Q := A_i2l (ab_io ci109 (by decide +kernel))
theorem k109_175 : At 109 175 ls (.long u1 :: .long u :: st) I J Q ↔ At 109 176 ls (.long (u + u1) :: st) I J Q := A_ladd (ab_io ci109 (by decide +kernel))
theorem k109_176 : At 109 176 [a0, a1, a2, a3, a4] (.long u :: st) I J Q ↔ At 109 177 [ab_nv a0, some (.long u), none, a3, a4] st I J Q := A_lstore_n (q := 1) (ab_io ci109 (by decide +kernel)) (Nat.le_of_ble_eq_true rfl) rfl
theorem k109_177 : At 109 177 ls st I J Q ↔ At 109 180 ls (.long 31 :: st) I J Q := A_ldc2_w (j := 330) (q := 818) (ab_io ci109 (by decide +kernel)) ow109 (by decide +kernel)
theorem k109_180 : At 109 180 [a0, some (.long u), a2, a3, a4] st I J Q ↔ At 109 181 [a0, some (.long u), a2, a3, a4] (.long u :: st) I J Q := A_lload_n (q := 1) (ab_io ci109 (by decide +kernel)) rfl
theorem k109_181 : At 109 181 ls (.long u1 :: .long u :: st) I J Q ↔ At 109 182 ls (.long (u * u1) :: st) I J Q := A_lmul (ab_io ci109 (by decide +kernel))
theorem k109_182 : At 109 182 [some (.ref r), a1, a2, a3, a4] st I J Q ↔ At 109 183 [some (.ref r), a1, a2, a3, a4] (.ref r :: st) I J Q := A_aload_n (q := 0) (ab_io ci109 (by decide +kernel)) rfl
theorem k109_183 : At 109 183 ls [.ref 0, .long qu0] I J Q ↔ Cal 100 [.ref 0] I J (fun v I' J' => At 109 186 ls (v.toList ++ [.long qu0]) I' J' Q) := A_cal (kd := 0) (j := 350) (na := 1) (ea := 1) (rk := 0) (by decide +kernel) rfl rfl rfl (Or.inr rfl) (Nat.le_of_ble_eq_true rfl)
theorem k109_186 : At 109 186 ls (.int x :: st) I J Q ↔ At 109 187 ls (.long x.toInt64 :: st) I J Q := A_i2l (ab_io ci109 (by decide +kernel))
theorem k109_187 : At 109 187 ls (.long u1 :: .long u :: st) I J Q ↔ At 109 188 ls (.long (u + u1) :: st) I J Q := A_ladd (ab_io ci109 (by decide +kernel))
theorem k109_188 : At 109 188 ls [.long u] I J Q ↔ Q (some (.long u)) I J := A_lret (ab_io ci109 (by decide +kernel)) rt109
theorem k110_0 : At 110 0 [some (.ref r)] st I J Q ↔ At 110 1 [some (.ref r)] (.ref r :: st) I J Q := A_aload_n (q := 0) (ab_io ci110 (by decide +kernel)) rfl
theorem k110_1 : At 110 1 ls (.ref 0 :: st) I J Q ↔ At 110 4 ls (.int (I 0 10) :: st) I J Q := A_getZ (ab_io ci110 (by decide +kernel)) ow110 fq7_68_0
theorem k110_4 : At 110 4 ls (.int x :: st) I J Q ↔ if ¬ x = 0 then At 110 8 ls st I J Q else At 110 7 ls st I J Q := A_ifCond_ne (o := 4) (ab_io ci110 (by decide +kernel)) (by decide)
theorem k110_7 : At 110 7 ls [] I J Q ↔ Q none I J := A_vret (ab_io ci110 (by decide +kernel)) rt110
theorem k110_8 : At 110 8 [some (.ref r)] st I J Q ↔ At 110 9 [some (.ref r)] (.ref r :: st) I J Q := A_aload_n (q := 0) (ab_io ci110 (by decide +kernel)) rfl
theorem k110_9 : At 110 9 ls st I J Q ↔ At 110 10 ls (.int (nI 0) :: st) I J Q := A_iconst (ab_io ci110 (by decide +kernel)) ic_0
theorem k110_10v0 : At 110 10 ls (.int (nI 0) :: .ref 0 :: st) I J Q ↔ At 110 13 ls st (va_up I 0 (va_up (I 0) 10 (nI 0))) J Q := A_putZ (ab_io ci110 (by decide +kernel)) ow110 ⟨fq7_68_0.1, fq7_68_0.2, Or.inl rfl⟩
theorem k110_10v1 : At 110 10 ls (.int (nI 1) :: .ref 0 :: st) I J Q ↔ At 110 13 ls st (va_up I 0 (va_up (I 0) 10 (nI 1))) J Q := A_putZ (ab_io ci110 (by decide +kernel)) ow110 ⟨fq7_68_0.1, fq7_68_0.2, Or.inr rfl⟩
theorem k110_13 : At 110 13 [some (.ref r)] st I J Q ↔ At 110 14 [some (.ref r)] (.ref r :: st) I J Q := A_aload_n (q := 0) (ab_io ci110 (by decide +kernel)) rfl
theorem k110_14 : At 110 14 ls (.ref 0 :: st) I J Q ↔ At 110 17 ls (.ref 29 :: st) I J Q := A_getR (ab_io ci110 (by decide +kernel)) ow110 fq7_29_0
theorem k110_17 : At 110 17 ls st I J Q ↔ At 110 18 ls (.int (nI 0) :: st) I J Q := A_iconst (ab_io ci110 (by decide +kernel)) ic_0
theorem k110_18v0 : At 110 18 ls (.int (nI 0) :: .ref 29 :: st) I J Q ↔ At 110 21 ls st (va_up I 29 (va_up (I 29) 0 (nI 0))) J Q := A_putZ (ab_io ci110 (by decide +kernel)) ow110 ⟨fq7_353_29.1, fq7_353_29.2, Or.inl rfl⟩
theorem k110_18v1 : At 110 18 ls (.int (nI 1) :: .ref 29 :: st) I J Q ↔ At 110 21 ls st (va_up I 29 (va_up (I 29) 0 (nI 1))) J Q := A_putZ (ab_io ci110 (by decide +kernel)) ow110 ⟨fq7_353_29.1, fq7_353_29.2, Or.inr rfl⟩
theorem k110_21 : At 110 21 [some (.ref r)] st I J Q ↔ At 110 22 [some (.ref r)] (.ref r :: st) I J Q := A_aload_n (q := 0) (ab_io ci110 (by decide +kernel)) rfl
theorem k110_22 : At 110 22 ls (.ref 0 :: st) I J Q ↔ At 110 25 ls (.ref 1 :: st) I J Q := A_getR (ab_io ci110 (by decide +kernel)) ow110 fq7_10_0
theorem k110_25 : At 110 25 [some (.ref r)] st I J Q ↔ At 110 26 [some (.ref r)] (.ref r :: st) I J Q := A_aload_n (q := 0) (ab_io ci110 (by decide +kernel)) rfl
theorem k110_26 : At 110 26 ls (.ref 0 :: st) I J Q ↔ At 110 29 ls (.ref 5 :: st) I J Q := A_getR (ab_io ci110 (by decide +kernel)) ow110 fq7_19_0
theorem k110_29_5 : At 110 29 ls (.ref 5 :: st) I J Q ↔ At 110 32 ls (.ref 6 :: st) I J Q := A_getR (ab_io ci110 (by decide +kernel)) ow110 fq7_124_5
theorem k110_29_17 : At 110 29 ls (.ref 17 :: st) I J Q ↔ At 110 32 ls (.ref 18 :: st) I J Q := A_getR (ab_io ci110 (by decide +kernel)) ow110 fq7_124_17
theorem k110_32 : At 110 32 [some (.ref r)] st I J Q ↔ At 110 33 [some (.ref r)] (.ref r :: st) I J Q := A_aload_n (q := 0) (ab_io ci110 (by decide +kernel)) rfl
theorem k110_33 : At 110 33 ls (.ref 0 :: st) I J Q ↔ At 110 36 ls (.ref 47 :: st) I J Q := A_getR (ab_io ci110 (by decide +kernel)) ow110 fq7_61_0
theorem k110_36 : At 110 36 ls [.ref pr0, .ref pr1, .ref 1] I J Q ↔ Cal 70 [.ref 1, .ref pr1, .ref pr0] I J (fun v I' J' => At 110 39 ls (v.toList ++ []) I' J' Q) := A_cal (kd := 0) (j := 356) (na := 3) (ea := 3) (rk := 1) (by decide +kernel) rfl rfl rfl (Or.inr rfl) (Nat.le_of_ble_eq_true rfl)
theorem k110_39 : At 110 39 [some (.ref r)] st I J Q ↔ At 110 40 [some (.ref r)] (.ref r :: st) I J Q := A_aload_n (q := 0) (ab_io ci110 (by decide +kernel)) rfl
theorem k110_40 : At 110 40 ls (.ref 0 :: st) I J Q ↔ At 110 43 ls (.ref 5 :: st) I J Q := A_getR (ab_io ci110 (by decide +kernel)) ow110 fq7_19_0
theorem k110_43_5 : At 110 43 ls [.ref 5] I J Q ↔ Cal 17 [.ref 5] I J (fun v I' J' => At 110 46 ls (v.toList ++ []) I' J' Q) := A_cal (kd := 0) (j := 359) (na := 1) (ea := 1) (rk := 5) (by decide +kernel) rfl rfl rfl (Or.inr rfl) (Nat.le_of_ble_eq_true rfl)
theorem k110_43_17 : At 110 43 ls [.ref 17] I J Q ↔ Cal 17 [.ref 17] I J (fun v I' J' => At 110 46 ls (v.toList ++ []) I' J' Q) := A_cal (kd := 0) (j := 359) (na := 1) (ea := 1) (rk := 17) (by decide +kernel) rfl rfl rfl (Or.inr rfl) (Nat.le_of_ble_eq_true rfl)
theorem k110_46 : At 110 46 [some (.ref r)] st I J Q ↔ At 110 47 [some (.ref r)] (.ref r :: st) I J Q := A_aload_n (q := 0) (ab_io ci110 (by decide +kernel)) rfl
theorem k110_47 : At 110 47 ls (.ref 0 :: st) I J Q ↔ At 110 50 ls (.ref 5 :: st) I J Q := A_getR (ab_io ci110 (by decide +kernel)) ow110 fq7_19_0
theorem k110_50_5 : At 110 50 ls [.ref 5] I J Q ↔ Cal 27 [.ref 5] I J (fun v I' J' => At 110 53 ls (v.toList ++ []) I' J' Q) := A_cal (kd := 0) (j := 280) (na := 1) (ea := 1) (rk := 5) (by decide +kernel) rfl rfl rfl (Or.inr rfl) (Nat.le_of_ble_eq_true rfl)
theorem k110_50_17 : At 110 50 ls [.ref 17] I J Q ↔ Cal 27 [.ref 17] I J (fun v I' J' => At 110 53 ls (v.toList ++ []) I' J' Q) := A_cal (kd := 0) (j := 280) (na := 1) (ea := 1) (rk := 17) (by decide +kernel) rfl rfl rfl (Or.inr rfl) (Nat.le_of_ble_eq_true rfl)
theorem k110_53 : At 110 53 ls [] I J Q ↔ Q none I J := A_vret (ab_io ci110 (by decide +kernel)) rt110
theorem k111_0 : At 111 0 [some (.ref r), a1] st I J Q ↔ At 111 1 [some (.ref r), a1] (.ref r :: st) I J Q := A_aload_n (q := 0) (ab_io ci111 (by decide +kernel)) rfl
theorem k111_1 : At 111 1 [a0, some (.int x)] st I J Q ↔ At 111 2 [a0, some (.int x)] (.int x :: st) I J Q := A_iload_n (q := 1) (ab_io ci111 (by decide +kernel)) rfl
theorem k111_2 : At 111 2 ls (.int x :: .ref 0 :: st) I J Q ↔ At 111 5 ls st (va_up I 0 (va_up (I 0) 11 x)) J Q := A_putI (ab_io ci111 (by decide +kernel)) ow111 fq7_72_0
theorem k111_5 : At 111 5 ls st I J Q ↔ At 111 7 ls (.int (-10) :: st) I J Q := A_bipush (ab_io ci111 (by decide +kernel)) bc_m10
theorem k111_7 : At 111 7 [a0, some (.int x)] st I J Q ↔ At 111 8 [a0, some (.int x)] (.int x :: st) I J Q := A_iload_n (q := 1) (ab_io ci111 (by decide +kernel)) rfl
theorem k111_8 : At 111 8 ls (.int x1 :: .int x :: st) I J Q ↔ At 111 9 ls (.int (x - x1) :: st) I J Q := A_isub (ab_io ci111 (by decide +kernel))
theorem k111_9 : At 111 9 ls [.int x] I J Q ↔ Q (some (.int x)) I J := A_iret (ab_io ci111 (by decide +kernel)) rt111
theorem k112_0 : At 112 0 [some (.ref r), a1, a2] st I J Q ↔ At 112 1 [some (.ref r), a1, a2] (.ref r :: st) I J Q := A_aload_n (q := 0) (ab_io ci112 (by decide +kernel)) rfl
theorem k112_1 : At 112 1 ls (.ref 0 :: st) I J Q ↔ At 112 4 ls (.ref 39 :: st) I J Q := A_getR (ab_io ci112 (by decide +kernel)) ow112 fq7_50_0
theorem k112_4 : At 112 4 [some (.ref r), a1, a2] st I J Q ↔ At 112 5 [some (.ref r), a1, a2] (.ref r :: st) I J Q := A_aload_n (q := 0) (ab_io ci112 (by decide +kernel)) rfl
theorem k112_5 : At 112 5 ls (.ref 0 :: st) I J Q ↔ At 112 8 ls (.ref 5 :: st) I J Q := A_getR (ab_io ci112 (by decide +kernel)) ow112 fq7_19_0
theorem k112_8_5 : At 112 8 ls (.ref 5 :: st) I J Q ↔ At 112 11 ls (.ref 16 :: st) I J Q := A_getR (ab_io ci112 (by decide +kernel)) ow112 fq7_155_5
theorem k112_8_17 : At 112 8 ls (.ref 17 :: st) I J Q ↔ At 112 11 ls (.ref 28 :: st) I J Q := A_getR (ab_io ci112 (by decide +kernel)) ow112 fq7_155_17
theorem k112_11 : At 112 11 [a0, some (.int x), a2] st I J Q ↔ At 112 12 [a0, some (.int x), a2] (.int x :: st) I J Q := A_iload_n (q := 1) (ab_io ci112 (by decide +kernel)) rfl
theorem k112_12 : At 112 12 ls (.int x :: .ref r :: st) I J Q ↔ ((ab_ly r).1 = 2 ∧ r < 75 ∧ 0 ≤ x.toInt ∧ x.toInt < (ab_ly r).2) ∧ At 112 13 ls (.long (J r x.toNatClampNeg) :: st) I J Q := A_laload (ab_io ci112 (by decide +kernel))
theorem k112_13 : At 112 13 [some (.ref r), a1, a2] st I J Q ↔ At 112 14 [some (.ref r), a1, a2] (.ref r :: st) I J Q := A_aload_n (q := 0) (ab_io ci112 (by decide +kernel)) rfl
theorem k112_14 : At 112 14 ls (.ref 0 :: st) I J Q ↔ At 112 17 ls (.ref 5 :: st) I J Q := A_getR (ab_io ci112 (by decide +kernel)) ow112 fq7_19_0
theorem k112_17_5 : At 112 17 ls [.ref 5, .long qu0, .ref qr1] I J Q ↔ Cal 15 [.ref 5] I J (fun v I' J' => At 112 20 ls (v.toList ++ [.long qu0, .ref qr1]) I' J' Q) := A_cal (kd := 0) (j := 158) (na := 1) (ea := 1) (rk := 5) (by decide +kernel) rfl rfl rfl (Or.inr rfl) (Nat.le_of_ble_eq_true rfl)
theorem k112_17_17 : At 112 17 ls [.ref 17, .long qu0, .ref qr1] I J Q ↔ Cal 15 [.ref 17] I J (fun v I' J' => At 112 20 ls (v.toList ++ [.long qu0, .ref qr1]) I' J' Q) := A_cal (kd := 0) (j := 158) (na := 1) (ea := 1) (rk := 17) (by decide +kernel) rfl rfl rfl (Or.inr rfl) (Nat.le_of_ble_eq_true rfl)
theorem k112_20 : At 112 20 [a0, a1, some (.int x)] st I J Q ↔ At 112 21 [a0, a1, some (.int x)] (.int x :: st) I J Q := A_iload_n (q := 2) (ab_io ci112 (by decide +kernel)) rfl
theorem k112_21 : At 112 21 ls [.int p0, .long pu1, .long pu2, .ref 39] I J Q ↔ Cal 51 [.ref 39, .long pu2, .long pu1, .int p0] I J (fun v I' J' => At 112 24 ls (v.toList ++ []) I' J' Q) := A_cal (kd := 0) (j := 203) (na := 4) (ea := 6) (rk := 39) (by decide +kernel) rfl rfl rfl (Or.inr rfl) (Nat.le_of_ble_eq_true rfl)
theorem k112_24 : At 112 24 ls [.int x] I J Q ↔ Q (some (.int x)) I J := A_iret (ab_io ci112 (by decide +kernel)) rt112
theorem k113_0 : At 113 0 [a0, a1, a2, some (.int x)] st I J Q ↔ At 113 1 [a0, a1, a2, some (.int x)] (.int x :: st) I J Q := A_iload_n (q := 3) (ab_io ci113 (by decide +kernel)) rfl
theorem k113_1 : At 113 1 ls (.int x :: st) I J Q ↔ if ¬ x = 0 then At 113 32 ls st I J Q else At 113 4 ls st I J Q := A_ifCond_ne (o := 31) (ab_io ci113 (by decide +kernel)) (by decide)
theorem k113_4 : At 113 4 [some (.ref r), a1, a2, a3] st I J Q ↔ At 113 5 [some (.ref r), a1, a2, a3] (.ref r :: st) I J Q := A_aload_n (q := 0) (ab_io ci113 (by decide +kernel)) rfl
theorem k113_5 : At 113 5 ls (.ref 0 :: st) I J Q ↔ At 113 8 ls (.ref 5 :: st) I J Q := A_getR (ab_io ci113 (by decide +kernel)) ow113 fq7_19_0
theorem k113_8_5 : At 113 8 ls (.ref 5 :: st) I J Q ↔ At 113 11 ls (.ref 16 :: st) I J Q := A_getR (ab_io ci113 (by decide +kernel)) ow113 fq7_155_5
theorem k113_8_17 : At 113 8 ls (.ref 17 :: st) I J Q ↔ At 113 11 ls (.ref 28 :: st) I J Q := A_getR (ab_io ci113 (by decide +kernel)) ow113 fq7_155_17
theorem k113_11 : At 113 11 [a0, some (.int x), a2, a3] st I J Q ↔ At 113 12 [a0, some (.int x), a2, a3] (.int x :: st) I J Q := A_iload_n (q := 1) (ab_io ci113 (by decide +kernel)) rfl
theorem k113_12 : At 113 12 ls (.int x :: .ref r :: st) I J Q ↔ ((ab_ly r).1 = 2 ∧ r < 75 ∧ 0 ≤ x.toInt ∧ x.toInt < (ab_ly r).2) ∧ At 113 13 ls (.long (J r x.toNatClampNeg) :: st) I J Q := A_laload (ab_io ci113 (by decide +kernel))
theorem k113_13 : At 113 13 [some (.ref r), a1, a2, a3] st I J Q ↔ At 113 14 [some (.ref r), a1, a2, a3] (.ref r :: st) I J Q := A_aload_n (q := 0) (ab_io ci113 (by decide +kernel)) rfl
theorem k113_14 : At 113 14 ls (.ref 0 :: st) I J Q ↔ At 113 17 ls (.ref 5 :: st) I J Q := A_getR (ab_io ci113 (by decide +kernel)) ow113 fq7_19_0
theorem k113_17_5 : At 113 17 ls (.ref 5 :: st) I J Q ↔ At 113 20 ls (.ref 16 :: st) I J Q := A_getR (ab_io ci113 (by decide +kernel)) ow113 fq7_155_5
theorem k113_17_17 : At 113 17 ls (.ref 17 :: st) I J Q ↔ At 113 20 ls (.ref 28 :: st) I J Q := A_getR (ab_io ci113 (by decide +kernel)) ow113 fq7_155_17
theorem k113_20 : At 113 20 [a0, a1, some (.int x), a3] st I J Q ↔ At 113 21 [a0, a1, some (.int x), a3] (.int x :: st) I J Q := A_iload_n (q := 2) (ab_io ci113 (by decide +kernel)) rfl
theorem k113_21 : At 113 21 ls (.int x :: .ref r :: st) I J Q ↔ ((ab_ly r).1 = 2 ∧ r < 75 ∧ 0 ≤ x.toInt ∧ x.toInt < (ab_ly r).2) ∧ At 113 22 ls (.long (J r x.toNatClampNeg) :: st) I J Q := A_laload (ab_io ci113 (by decide +kernel))
theorem k113_22 : At 113 22 ls (.long u1 :: .long u :: st) I J Q ↔ At 113 23 ls (.int (lg_cmp u u1) :: st) I J Q := A_lcmp (ab_io ci113 (by decide +kernel))
theorem k113_23 : At 113 23 ls (.int x :: st) I J Q ↔ if x ≤ 0 then At 113 30 ls st I J Q else At 113 26 ls st I J Q := A_ifCond_le (o := 7) (ab_io ci113 (by decide +kernel)) (by decide)
theorem k113_26 : At 113 26 ls st I J Q ↔ At 113 27 ls (.int (nI 1) :: st) I J Q := A_iconst (ab_io ci113 (by decide +kernel)) ic_1
theorem k113_27 : At 113 27 ls st I J Q ↔ At 113 31 ls st I J Q := A_goto (o := 4) (ab_io ci113 (by decide +kernel)) (by decide)
theorem k113_30 : At 113 30 ls st I J Q ↔ At 113 31 ls (.int (nI 0) :: st) I J Q := A_iconst (ab_io ci113 (by decide +kernel)) ic_0
theorem k113_31 : At 113 31 ls [.int x] I J Q ↔ (x = 0 ∨ x = 1) ∧ Q (some (.int x)) I J := A_zret (ab_io ci113 (by decide +kernel)) rt113
theorem k113_32 : At 113 32 [some (.ref r), a1, a2, a3] st I J Q ↔ At 113 33 [some (.ref r), a1, a2, a3] (.ref r :: st) I J Q := A_aload_n (q := 0) (ab_io ci113 (by decide +kernel)) rfl
theorem k113_33 : At 113 33 ls (.ref 0 :: st) I J Q ↔ At 113 36 ls (.ref 5 :: st) I J Q := A_getR (ab_io ci113 (by decide +kernel)) ow113 fq7_19_0
theorem k113_36 : At 113 36 [a0, some (.int x), a2, a3] st I J Q ↔ At 113 37 [a0, some (.int x), a2, a3] (.int x :: st) I J Q := A_iload_n (q := 1) (ab_io ci113 (by decide +kernel)) rfl
theorem k113_37_5 : At 113 37 ls [.int p0, .ref 5] I J Q ↔ Cal 29 [.ref 5, .int p0] I J (fun v I' J' => At 113 40 ls (v.toList ++ []) I' J' Q) := A_cal (kd := 0) (j := 195) (na := 2) (ea := 2) (rk := 5) (by decide +kernel) rfl rfl rfl (Or.inr rfl) (Nat.le_of_ble_eq_true rfl)
theorem k113_37_17 : At 113 37 ls [.int p0, .ref 17] I J Q ↔ Cal 29 [.ref 17, .int p0] I J (fun v I' J' => At 113 40 ls (v.toList ++ []) I' J' Q) := A_cal (kd := 0) (j := 195) (na := 2) (ea := 2) (rk := 17) (by decide +kernel) rfl rfl rfl (Or.inr rfl) (Nat.le_of_ble_eq_true rfl)
theorem k113_40 : At 113 40 [some (.ref r), a1, a2, a3] st I J Q ↔ At 113 41 [some (.ref r), a1, a2, a3] (.ref r :: st) I J Q := A_aload_n (q := 0) (ab_io ci113 (by decide +kernel)) rfl
theorem k113_41 : At 113 41 ls (.ref 0 :: st) I J Q ↔ At 113 44 ls (.ref 5 :: st) I J Q := A_getR (ab_io ci113 (by decide +kernel)) ow113 fq7_19_0
theorem k113_44_5 : At 113 44 ls (.ref 5 :: st) I J Q ↔ At 113 47 ls (.ref 7 :: st) I J Q := A_getR (ab_io ci113 (by decide +kernel)) ow113 fq7_152_5
theorem k113_44_17 : At 113 44 ls (.ref 17 :: st) I J Q ↔ At 113 47 ls (.ref 19 :: st) I J Q := A_getR (ab_io ci113 (by decide +kernel)) ow113 fq7_152_17
theorem k113_47 : At 113 47 [a0, a1, some (.int x), a3] st I J Q ↔ At 113 48 [a0, a1, some (.int x), a3] (.int x :: st) I J Q := A_iload_n (q := 2) (ab_io ci113 (by decide +kernel)) rfl
theorem k113_48 : At 113 48 ls (.int x :: .ref r :: st) I J Q ↔ ((ab_ly r).1 = 1 ∧ r < 75 ∧ 0 ≤ x.toInt ∧ x.toInt < (ab_ly r).2) ∧ At 113 49 ls (.int (I r x.toNatClampNeg) :: st) I J Q := A_iaload (ab_io ci113 (by decide +kernel))
theorem k113_49 : At 113 49 ls [.int p0, .long qu0] I J Q ↔ Cal 202 [.int p0] I J (fun v I' J' => At 113 52 ls (v.toList ++ [.long qu0]) I' J' Q) := A_cal (kd := 1) (j := 198) (na := 1) (ea := 1) (rk := 0) (by decide +kernel) rfl rfl rfl (Or.inl rfl) (Nat.le_of_ble_eq_true rfl)
theorem k113_52 : At 113 52 ls (.int x :: st) I J Q ↔ At 113 53 ls (.long x.toInt64 :: st) I J Q := A_i2l (ab_io ci113 (by decide +kernel))
theorem k113_53 : At 113 53 ls (.long u1 :: .long u :: st) I J Q ↔ At 113 54 ls (.long (u * u1) :: st) I J Q := A_lmul (ab_io ci113 (by decide +kernel))
theorem k113_54 : At 113 54 [some (.ref r), a1, a2, a3] st I J Q ↔ At 113 55 [some (.ref r), a1, a2, a3] (.ref r :: st) I J Q := A_aload_n (q := 0) (ab_io ci113 (by decide +kernel)) rfl
theorem k113_55 : At 113 55 ls (.ref 0 :: st) I J Q ↔ At 113 58 ls (.ref 5 :: st) I J Q := A_getR (ab_io ci113 (by decide +kernel)) ow113 fq7_19_0
theorem k113_58 : At 113 58 [a0, a1, some (.int x), a3] st I J Q ↔ At 113 59 [a0, a1, some (.int x), a3] (.int x :: st) I J Q := A_iload_n (q := 2) (ab_io ci113 (by decide +kernel)) rfl
theorem k113_59_5 : At 113 59 ls [.int p0, .ref 5, .long qu0] I J Q ↔ Cal 29 [.ref 5, .int p0] I J (fun v I' J' => At 113 62 ls (v.toList ++ [.long qu0]) I' J' Q) := A_cal (kd := 0) (j := 195) (na := 2) (ea := 2) (rk := 5) (by decide +kernel) rfl rfl rfl (Or.inr rfl) (Nat.le_of_ble_eq_true rfl)
theorem k113_59_17 : At 113 59 ls [.int p0, .ref 17, .long qu0] I J Q ↔ Cal 29 [.ref 17, .int p0] I J (fun v I' J' => At 113 62 ls (v.toList ++ [.long qu0]) I' J' Q) := A_cal (kd := 0) (j := 195) (na := 2) (ea := 2) (rk := 17) (by decide +kernel) rfl rfl rfl (Or.inr rfl) (Nat.le_of_ble_eq_true rfl)
theorem k113_62 : At 113 62 [some (.ref r), a1, a2, a3] st I J Q ↔ At 113 63 [some (.ref r), a1, a2, a3] (.ref r :: st) I J Q := A_aload_n (q := 0) (ab_io ci113 (by decide +kernel)) rfl
theorem k113_63 : At 113 63 ls (.ref 0 :: st) I J Q ↔ At 113 66 ls (.ref 5 :: st) I J Q := A_getR (ab_io ci113 (by decide +kernel)) ow113 fq7_19_0
theorem k113_66_5 : At 113 66 ls (.ref 5 :: st) I J Q ↔ At 113 69 ls (.ref 7 :: st) I J Q := A_getR (ab_io ci113 (by decide +kernel)) ow113 fq7_152_5
theorem k113_66_17 : At 113 66 ls (.ref 17 :: st) I J Q ↔ At 113 69 ls (.ref 19 :: st) I J Q := A_getR (ab_io ci113 (by decide +kernel)) ow113 fq7_152_17
theorem k113_69 : At 113 69 [a0, some (.int x), a2, a3] st I J Q ↔ At 113 70 [a0, some (.int x), a2, a3] (.int x :: st) I J Q := A_iload_n (q := 1) (ab_io ci113 (by decide +kernel)) rfl
theorem k113_70 : At 113 70 ls (.int x :: .ref r :: st) I J Q ↔ ((ab_ly r).1 = 1 ∧ r < 75 ∧ 0 ≤ x.toInt ∧ x.toInt < (ab_ly r).2) ∧ At 113 71 ls (.int (I r x.toNatClampNeg) :: st) I J Q := A_iaload (ab_io ci113 (by decide +kernel))
theorem k113_71 : At 113 71 ls [.int p0, .long qu0, .long qu1] I J Q ↔ Cal 202 [.int p0] I J (fun v I' J' => At 113 74 ls (v.toList ++ [.long qu0, .long qu1]) I' J' Q) := A_cal (kd := 1) (j := 198) (na := 1) (ea := 1) (rk := 0) (by decide +kernel) rfl rfl rfl (Or.inl rfl) (Nat.le_of_ble_eq_true rfl)
theorem k113_74 : At 113 74 ls (.int x :: st) I J Q ↔ At 113 75 ls (.long x.toInt64 :: st) I J Q := A_i2l (ab_io ci113 (by decide +kernel))
theorem k113_75 : At 113 75 ls (.long u1 :: .long u :: st) I J Q ↔ At 113 76 ls (.long (u * u1) :: st) I J Q := A_lmul (ab_io ci113 (by decide +kernel))
theorem k113_76 : At 113 76 ls (.long u1 :: .long u :: st) I J Q ↔ At 113 77 ls (.int (lg_cmp u u1) :: st) I J Q := A_lcmp (ab_io ci113 (by decide +kernel))
theorem k113_77 : At 113 77 ls (.int x :: st) I J Q ↔ if x ≤ 0 then At 113 84 ls st I J Q else At 113 80 ls st I J Q := A_ifCond_le (o := 7) (ab_io ci113 (by decide +kernel)) (by decide)
theorem k113_80 : At 113 80 ls st I J Q ↔ At 113 81 ls (.int (nI 1) :: st) I J Q := A_iconst (ab_io ci113 (by decide +kernel)) ic_1
theorem k113_81 : At 113 81 ls st I J Q ↔ At 113 85 ls st I J Q := A_goto (o := 4) (ab_io ci113 (by decide +kernel)) (by decide)
theorem k113_84 : At 113 84 ls st I J Q ↔ At 113 85 ls (.int (nI 0) :: st) I J Q := A_iconst (ab_io ci113 (by decide +kernel)) ic_0
theorem k113_85 : At 113 85 ls [.int x] I J Q ↔ (x = 0 ∨ x = 1) ∧ Q (some (.int x)) I J := A_zret (ab_io ci113 (by decide +kernel)) rt113
theorem k114_0 : At 114 0 [some (.ref r), a1, a2, a3, a4, a5, a6, a7] st I J Q ↔ At 114 1 [some (.ref r), a1, a2, a3, a4, a5, a6, a7] (.ref r :: st) I J Q := A_aload_n (q := 0) (ab_io ci114 (by decide +kernel)) rfl
theorem k114_1 : At 114 1 ls (.ref 0 :: st) I J Q ↔ At 114 4 ls (.ref 5 :: st) I J Q := A_getR (ab_io ci114 (by decide +kernel)) ow114 fq7_19_0
theorem k114_4 : At 114 4 [a0, some (.int x), a2, a3, a4, a5, a6, a7] st I J Q ↔ At 114 5 [a0, some (.int x), a2, a3, a4, a5, a6, a7] (.int x :: st) I J Q := A_iload_n (q := 1) (ab_io ci114 (by decide +kernel)) rfl
theorem k114_5_5 : At 114 5 ls [.int p0, .ref 5] I J Q ↔ Cal 38 [.ref 5, .int p0] I J (fun v I' J' => At 114 8 ls (v.toList ++ []) I' J' Q) := A_cal (kd := 0) (j := 252) (na := 2) (ea := 2) (rk := 5) (by decide +kernel) rfl rfl rfl (Or.inr rfl) (Nat.le_of_ble_eq_true rfl)
theorem k114_5_17 : At 114 5 ls [.int p0, .ref 17] I J Q ↔ Cal 38 [.ref 17, .int p0] I J (fun v I' J' => At 114 8 ls (v.toList ++ []) I' J' Q) := A_cal (kd := 0) (j := 252) (na := 2) (ea := 2) (rk := 17) (by decide +kernel) rfl rfl rfl (Or.inr rfl) (Nat.le_of_ble_eq_true rfl)
theorem k114_8 : At 114 8 [a0, a1, a2, a3, a4, a5, a6, a7] (.int x :: st) I J Q ↔ At 114 9 [a0, a1, ab_nv a2, some (.int x), a4, a5, a6, a7] st I J Q := A_istore_n (q := 3) (ab_io ci114 (by decide +kernel)) (Nat.le_of_ble_eq_true rfl) rfl
theorem k114_9 : At 114 9 ls st I J Q ↔ At 114 10 ls (.long 0 :: st) I J Q := A_lconst (n := 0) (ab_io ci114 (by decide +kernel)) rfl
theorem k114_10 : At 114 10 [a0, a1, a2, a3, a4, a5, a6, a7] (.long u :: st) I J Q ↔ At 114 12 [a0, a1, a2, ab_nv a3, some (.long u), none, a6, a7] st I J Q := A_lstore (q := 4) (ab_io ci114 (by decide +kernel)) (Nat.le_of_ble_eq_true rfl) rfl
theorem k114_12 : At 114 12 [a0, some (.int x), a2, a3, a4, a5, a6, a7] st I J Q ↔ At 114 13 [a0, some (.int x), a2, a3, a4, a5, a6, a7] (.int x :: st) I J Q := A_iload_n (q := 1) (ab_io ci114 (by decide +kernel)) rfl
theorem k114_13 : At 114 13 [a0, a1, a2, a3, a4, a5, a6, a7] (.int x :: st) I J Q ↔ At 114 15 [a0, a1, a2, a3, a4, ab_nv a5, some (.int x), a7] st I J Q := A_istore (q := 6) (ab_io ci114 (by decide +kernel)) (Nat.le_of_ble_eq_true rfl) rfl
theorem k114_15 : At 114 15 [a0, a1, a2, a3, a4, a5, some (.int x), a7] st I J Q ↔ At 114 17 [a0, a1, a2, a3, a4, a5, some (.int x), a7] (.int x :: st) I J Q := A_iload (q := 6) (ab_io ci114 (by decide +kernel)) rfl
theorem k114_17 : At 114 17 ls st I J Q ↔ At 114 19 ls (.int (nI 48) :: st) I J Q := A_bipush (ab_io ci114 (by decide +kernel)) bc_48
theorem k114_19 : At 114 19 ls (.int x1 :: .int x :: st) I J Q ↔ if x1 ≤ x then At 114 96 ls st I J Q else At 114 22 ls st I J Q := A_if_icmp_ge (o := 77) (ab_io ci114 (by decide +kernel)) (by decide)
theorem k114_22 : At 114 22 [some (.ref r), a1, a2, a3, a4, a5, a6, a7] st I J Q ↔ At 114 23 [some (.ref r), a1, a2, a3, a4, a5, a6, a7] (.ref r :: st) I J Q := A_aload_n (q := 0) (ab_io ci114 (by decide +kernel)) rfl
theorem k114_23 : At 114 23 ls (.ref 0 :: st) I J Q ↔ At 114 26 ls (.ref 5 :: st) I J Q := A_getR (ab_io ci114 (by decide +kernel)) ow114 fq7_19_0
theorem k114_26_5 : At 114 26 ls (.ref 5 :: st) I J Q ↔ At 114 29 ls (.ref 6 :: st) I J Q := A_getR (ab_io ci114 (by decide +kernel)) ow114 fq7_124_5
theorem k114_26_17 : At 114 26 ls (.ref 17 :: st) I J Q ↔ At 114 29 ls (.ref 18 :: st) I J Q := A_getR (ab_io ci114 (by decide +kernel)) ow114 fq7_124_17
theorem k114_29 : At 114 29 [a0, a1, a2, a3, a4, a5, some (.int x), a7] st I J Q ↔ At 114 31 [a0, a1, a2, a3, a4, a5, some (.int x), a7] (.int x :: st) I J Q := A_iload (q := 6) (ab_io ci114 (by decide +kernel)) rfl
theorem k114_31 : At 114 31 ls (.int x :: .ref r :: st) I J Q ↔ ((ab_ly r).1 = 1 ∧ r < 75 ∧ 0 ≤ x.toInt ∧ x.toInt < (ab_ly r).2) ∧ At 114 32 ls (.int (I r x.toNatClampNeg) :: st) I J Q := A_iaload (ab_io ci114 (by decide +kernel))
theorem k114_32 : At 114 32 ls st I J Q ↔ At 114 33 ls (.int (-1) :: st) I J Q := A_iconst (ab_io ci114 (by decide +kernel)) ic_m1
theorem k114_33 : At 114 33 ls (.int x1 :: .int x :: st) I J Q ↔ if ¬ x = x1 then At 114 39 ls st I J Q else At 114 36 ls st I J Q := A_if_icmp_ne (o := 6) (ab_io ci114 (by decide +kernel)) (by decide)
theorem k114_36 : At 114 36 ls st I J Q ↔ At 114 90 ls st I J Q := A_goto (o := 54) (ab_io ci114 (by decide +kernel)) (by decide)
theorem k114_39 : At 114 39 [some (.ref r), a1, a2, a3, a4, a5, a6, a7] st I J Q ↔ At 114 40 [some (.ref r), a1, a2, a3, a4, a5, a6, a7] (.ref r :: st) I J Q := A_aload_n (q := 0) (ab_io ci114 (by decide +kernel)) rfl
theorem k114_40 : At 114 40 [a0, a1, a2, a3, a4, a5, some (.int x), a7] st I J Q ↔ At 114 42 [a0, a1, a2, a3, a4, a5, some (.int x), a7] (.int x :: st) I J Q := A_iload (q := 6) (ab_io ci114 (by decide +kernel)) rfl
theorem k114_42 : At 114 42 [a0, some (.int x), a2, a3, a4, a5, a6, a7] st I J Q ↔ At 114 43 [a0, some (.int x), a2, a3, a4, a5, a6, a7] (.int x :: st) I J Q := A_iload_n (q := 1) (ab_io ci114 (by decide +kernel)) rfl
theorem k114_43 : At 114 43 ls [.int p0, .int p1, .ref 0] I J Q ↔ Cal 115 [.ref 0, .int p1, .int p0] I J (fun v I' J' => At 114 46 ls (v.toList ++ []) I' J' Q) := A_cal (kd := 0) (j := 362) (na := 3) (ea := 3) (rk := 0) (by decide +kernel) rfl rfl rfl (Or.inr rfl) (Nat.le_of_ble_eq_true rfl)
theorem k114_46 : At 114 46 [a0, a1, a2, a3, a4, a5, a6, a7] (.int x :: st) I J Q ↔ At 114 48 [a0, a1, a2, a3, a4, a5, ab_nv a6, some (.int x)] st I J Q := A_istore (q := 7) (ab_io ci114 (by decide +kernel)) (Nat.le_of_ble_eq_true rfl) rfl
theorem k114_48 : At 114 48 [a0, a1, a2, a3, a4, a5, a6, some (.int x)] st I J Q ↔ At 114 50 [a0, a1, a2, a3, a4, a5, a6, some (.int x)] (.int x :: st) I J Q := A_iload (q := 7) (ab_io ci114 (by decide +kernel)) rfl
theorem k114_50 : At 114 50 [a0, a1, some (.int x), a3, a4, a5, a6, a7] st I J Q ↔ At 114 51 [a0, a1, some (.int x), a3, a4, a5, a6, a7] (.int x :: st) I J Q := A_iload_n (q := 2) (ab_io ci114 (by decide +kernel)) rfl
theorem k114_51 : At 114 51 ls (.int x1 :: .int x :: st) I J Q ↔ if x1 ≤ x then At 114 68 ls st I J Q else At 114 54 ls st I J Q := A_if_icmp_ge (o := 17) (ab_io ci114 (by decide +kernel)) (by decide)
theorem k114_54 : At 114 54 [a0, a1, a2, a3, some (.long u), a5, a6, a7] st I J Q ↔ At 114 56 [a0, a1, a2, a3, some (.long u), a5, a6, a7] (.long u :: st) I J Q := A_lload (q := 4) (ab_io ci114 (by decide +kernel)) rfl
theorem k114_56 : At 114 56 [some (.ref r), a1, a2, a3, a4, a5, a6, a7] st I J Q ↔ At 114 57 [some (.ref r), a1, a2, a3, a4, a5, a6, a7] (.ref r :: st) I J Q := A_aload_n (q := 0) (ab_io ci114 (by decide +kernel)) rfl
theorem k114_57 : At 114 57 ls (.ref 0 :: st) I J Q ↔ At 114 60 ls (.ref 5 :: st) I J Q := A_getR (ab_io ci114 (by decide +kernel)) ow114 fq7_19_0
theorem k114_60 : At 114 60 [a0, a1, a2, a3, a4, a5, some (.int x), a7] st I J Q ↔ At 114 62 [a0, a1, a2, a3, a4, a5, some (.int x), a7] (.int x :: st) I J Q := A_iload (q := 6) (ab_io ci114 (by decide +kernel)) rfl
theorem k114_62_5 : At 114 62 ls [.int p0, .ref 5, .long qu0] I J Q ↔ Cal 30 [.ref 5, .int p0] I J (fun v I' J' => At 114 65 ls (v.toList ++ [.long qu0]) I' J' Q) := A_cal (kd := 0) (j := 162) (na := 2) (ea := 2) (rk := 5) (by decide +kernel) rfl rfl rfl (Or.inr rfl) (Nat.le_of_ble_eq_true rfl)
theorem k114_62_17 : At 114 62 ls [.int p0, .ref 17, .long qu0] I J Q ↔ Cal 30 [.ref 17, .int p0] I J (fun v I' J' => At 114 65 ls (v.toList ++ [.long qu0]) I' J' Q) := A_cal (kd := 0) (j := 162) (na := 2) (ea := 2) (rk := 17) (by decide +kernel) rfl rfl rfl (Or.inr rfl) (Nat.le_of_ble_eq_true rfl)
theorem k114_65 : At 114 65 ls (.long u1 :: .long u :: st) I J Q ↔ At 114 66 ls (.long (u - u1) :: st) I J Q := A_lsub (ab_io ci114 (by decide +kernel))
theorem k114_66 : At 114 66 [a0, a1, a2, a3, a4, a5, a6, a7] (.long u :: st) I J Q ↔ At 114 68 [a0, a1, a2, ab_nv a3, some (.long u), none, a6, a7] st I J Q := A_lstore (q := 4) (ab_io ci114 (by decide +kernel)) (Nat.le_of_ble_eq_true rfl) rfl
theorem k114_68 : At 114 68 [a0, a1, a2, a3, a4, a5, a6, some (.int x)] st I J Q ↔ At 114 70 [a0, a1, a2, a3, a4, a5, a6, some (.int x)] (.int x :: st) I J Q := A_iload (q := 7) (ab_io ci114 (by decide +kernel)) rfl
theorem k114_70 : At 114 70 [a0, a1, a2, some (.int x), a4, a5, a6, a7] st I J Q ↔ At 114 71 [a0, a1, a2, some (.int x), a4, a5, a6, a7] (.int x :: st) I J Q := A_iload_n (q := 3) (ab_io ci114 (by decide +kernel)) rfl
theorem k114_71 : At 114 71 [a0, a1, some (.int x), a3, a4, a5, a6, a7] st I J Q ↔ At 114 72 [a0, a1, some (.int x), a3, a4, a5, a6, a7] (.int x :: st) I J Q := A_iload_n (q := 2) (ab_io ci114 (by decide +kernel)) rfl
theorem k114_72 : At 114 72 ls (.int x1 :: .int x :: st) I J Q ↔ At 114 73 ls (.int (x - x1) :: st) I J Q := A_isub (ab_io ci114 (by decide +kernel))
theorem k114_73 : At 114 73 ls (.int x1 :: .int x :: st) I J Q ↔ if x < x1 then At 114 90 ls st I J Q else At 114 76 ls st I J Q := A_if_icmp_lt (o := 17) (ab_io ci114 (by decide +kernel)) (by decide)
theorem k114_76 : At 114 76 [a0, a1, a2, a3, some (.long u), a5, a6, a7] st I J Q ↔ At 114 78 [a0, a1, a2, a3, some (.long u), a5, a6, a7] (.long u :: st) I J Q := A_lload (q := 4) (ab_io ci114 (by decide +kernel)) rfl
theorem k114_78 : At 114 78 [some (.ref r), a1, a2, a3, a4, a5, a6, a7] st I J Q ↔ At 114 79 [some (.ref r), a1, a2, a3, a4, a5, a6, a7] (.ref r :: st) I J Q := A_aload_n (q := 0) (ab_io ci114 (by decide +kernel)) rfl
theorem k114_79 : At 114 79 ls (.ref 0 :: st) I J Q ↔ At 114 82 ls (.ref 5 :: st) I J Q := A_getR (ab_io ci114 (by decide +kernel)) ow114 fq7_19_0
theorem k114_82 : At 114 82 [a0, a1, a2, a3, a4, a5, some (.int x), a7] st I J Q ↔ At 114 84 [a0, a1, a2, a3, a4, a5, some (.int x), a7] (.int x :: st) I J Q := A_iload (q := 6) (ab_io ci114 (by decide +kernel)) rfl
theorem k114_84_5 : At 114 84 ls [.int p0, .ref 5, .long qu0] I J Q ↔ Cal 30 [.ref 5, .int p0] I J (fun v I' J' => At 114 87 ls (v.toList ++ [.long qu0]) I' J' Q) := A_cal (kd := 0) (j := 162) (na := 2) (ea := 2) (rk := 5) (by decide +kernel) rfl rfl rfl (Or.inr rfl) (Nat.le_of_ble_eq_true rfl)
theorem k114_84_17 : At 114 84 ls [.int p0, .ref 17, .long qu0] I J Q ↔ Cal 30 [.ref 17, .int p0] I J (fun v I' J' => At 114 87 ls (v.toList ++ [.long qu0]) I' J' Q) := A_cal (kd := 0) (j := 162) (na := 2) (ea := 2) (rk := 17) (by decide +kernel) rfl rfl rfl (Or.inr rfl) (Nat.le_of_ble_eq_true rfl)
theorem k114_87 : At 114 87 ls (.long u1 :: .long u :: st) I J Q ↔ At 114 88 ls (.long (u + u1) :: st) I J Q := A_ladd (ab_io ci114 (by decide +kernel))
theorem k114_88 : At 114 88 [a0, a1, a2, a3, a4, a5, a6, a7] (.long u :: st) I J Q ↔ At 114 90 [a0, a1, a2, ab_nv a3, some (.long u), none, a6, a7] st I J Q := A_lstore (q := 4) (ab_io ci114 (by decide +kernel)) (Nat.le_of_ble_eq_true rfl) rfl
theorem k114_90 : At 114 90 [a0, a1, a2, a3, a4, a5, some (.int x), a7] st I J Q ↔ At 114 93 [a0, a1, a2, a3, a4, ab_nv a5, some (.int (x + (nI 4))), a7] st I J Q := A_iinc (q := 6) (ab_io ci114 (by decide +kernel)) ic_4 (Nat.le_of_ble_eq_true rfl) rfl rfl
theorem k114_93 : At 114 93 ls st I J Q ↔ At 114 15 ls st I J Q := A_goto (o := (-78)) (ab_io ci114 (by decide +kernel)) (by decide)
theorem k114_96 : At 114 96 [a0, a1, a2, a3, some (.long u), a5, a6, a7] st I J Q ↔ At 114 98 [a0, a1, a2, a3, some (.long u), a5, a6, a7] (.long u :: st) I J Q := A_lload (q := 4) (ab_io ci114 (by decide +kernel)) rfl
theorem k114_98 : At 114 98 ls [.long u] I J Q ↔ Q (some (.long u)) I J := A_lret (ab_io ci114 (by decide +kernel)) rt114
theorem k115_0 : At 115 0 ls st I J Q ↔ At 115 1 ls (.int (nI 0) :: st) I J Q := A_iconst (ab_io ci115 (by decide +kernel)) ic_0
theorem k115_1 : At 115 1 [a0, a1, a2, a3, a4] (.int x :: st) I J Q ↔ At 115 2 [a0, a1, ab_nv a2, some (.int x), a4] st I J Q := A_istore_n (q := 3) (ab_io ci115 (by decide +kernel)) (Nat.le_of_ble_eq_true rfl) rfl
theorem k115_2 : At 115 2 [a0, a1, some (.int x), a3, a4] st I J Q ↔ At 115 3 [a0, a1, some (.int x), a3, a4] (.int x :: st) I J Q := A_iload_n (q := 2) (ab_io ci115 (by decide +kernel)) rfl
theorem k115_3 : At 115 3 [a0, a1, a2, a3, a4] (.int x :: st) I J Q ↔ At 115 5 [a0, a1, a2, ab_nv a3, some (.int x)] st I J Q := A_istore (q := 4) (ab_io ci115 (by decide +kernel)) (Nat.le_of_ble_eq_true rfl) rfl
theorem k115_5 : At 115 5 [a0, a1, a2, a3, some (.int x)] st I J Q ↔ At 115 7 [a0, a1, a2, a3, some (.int x)] (.int x :: st) I J Q := A_iload (q := 4) (ab_io ci115 (by decide +kernel)) rfl
theorem k115_7 : At 115 7 ls st I J Q ↔ At 115 9 ls (.int (nI 48) :: st) I J Q := A_bipush (ab_io ci115 (by decide +kernel)) bc_48
theorem k115_9 : At 115 9 ls (.int x1 :: .int x :: st) I J Q ↔ if x1 ≤ x then At 115 51 ls st I J Q else At 115 12 ls st I J Q := A_if_icmp_ge (o := 42) (ab_io ci115 (by decide +kernel)) (by decide)
theorem k115_12 : At 115 12 [some (.ref r), a1, a2, a3, a4] st I J Q ↔ At 115 13 [some (.ref r), a1, a2, a3, a4] (.ref r :: st) I J Q := A_aload_n (q := 0) (ab_io ci115 (by decide +kernel)) rfl
theorem k115_13 : At 115 13 ls (.ref 0 :: st) I J Q ↔ At 115 16 ls (.ref 5 :: st) I J Q := A_getR (ab_io ci115 (by decide +kernel)) ow115 fq7_19_0
theorem k115_16_5 : At 115 16 ls (.ref 5 :: st) I J Q ↔ At 115 19 ls (.ref 6 :: st) I J Q := A_getR (ab_io ci115 (by decide +kernel)) ow115 fq7_124_5
theorem k115_16_17 : At 115 16 ls (.ref 17 :: st) I J Q ↔ At 115 19 ls (.ref 18 :: st) I J Q := A_getR (ab_io ci115 (by decide +kernel)) ow115 fq7_124_17
theorem k115_19 : At 115 19 [a0, a1, a2, a3, some (.int x)] st I J Q ↔ At 115 21 [a0, a1, a2, a3, some (.int x)] (.int x :: st) I J Q := A_iload (q := 4) (ab_io ci115 (by decide +kernel)) rfl
theorem k115_21 : At 115 21 ls (.int x :: .ref r :: st) I J Q ↔ ((ab_ly r).1 = 1 ∧ r < 75 ∧ 0 ≤ x.toInt ∧ x.toInt < (ab_ly r).2) ∧ At 115 22 ls (.int (I r x.toNatClampNeg) :: st) I J Q := A_iaload (ab_io ci115 (by decide +kernel))
theorem k115_22 : At 115 22 ls st I J Q ↔ At 115 23 ls (.int (-1) :: st) I J Q := A_iconst (ab_io ci115 (by decide +kernel)) ic_m1
theorem k115_23 : At 115 23 ls (.int x1 :: .int x :: st) I J Q ↔ if x = x1 then At 115 45 ls st I J Q else At 115 26 ls st I J Q := A_if_icmp_eq (o := 22) (ab_io ci115 (by decide +kernel)) (by decide)
theorem k115_26 : At 115 26 [some (.ref r), a1, a2, a3, a4] st I J Q ↔ At 115 27 [some (.ref r), a1, a2, a3, a4] (.ref r :: st) I J Q := A_aload_n (q := 0) (ab_io ci115 (by decide +kernel)) rfl
theorem k115_27 : At 115 27 ls (.ref 0 :: st) I J Q ↔ At 115 30 ls (.ref 47 :: st) I J Q := A_getR (ab_io ci115 (by decide +kernel)) ow115 fq7_61_0
theorem k115_30 : At 115 30 [a0, a1, a2, a3, some (.int x)] st I J Q ↔ At 115 32 [a0, a1, a2, a3, some (.int x)] (.int x :: st) I J Q := A_iload (q := 4) (ab_io ci115 (by decide +kernel)) rfl
theorem k115_32 : At 115 32 ls (.int x :: .ref r :: st) I J Q ↔ ((ab_ly r).1 = 1 ∧ r < 75 ∧ 0 ≤ x.toInt ∧ x.toInt < (ab_ly r).2) ∧ At 115 33 ls (.int (I r x.toNatClampNeg) :: st) I J Q := A_iaload (ab_io ci115 (by decide +kernel))
theorem k115_33 : At 115 33 [some (.ref r), a1, a2, a3, a4] st I J Q ↔ At 115 34 [some (.ref r), a1, a2, a3, a4] (.ref r :: st) I J Q := A_aload_n (q := 0) (ab_io ci115 (by decide +kernel)) rfl
theorem k115_34 : At 115 34 ls (.ref 0 :: st) I J Q ↔ At 115 37 ls (.ref 47 :: st) I J Q := A_getR (ab_io ci115 (by decide +kernel)) ow115 fq7_61_0
theorem k115_37 : At 115 37 [a0, some (.int x), a2, a3, a4] st I J Q ↔ At 115 38 [a0, some (.int x), a2, a3, a4] (.int x :: st) I J Q := A_iload_n (q := 1) (ab_io ci115 (by decide +kernel)) rfl
theorem k115_38 : At 115 38 ls (.int x :: .ref r :: st) I J Q ↔ ((ab_ly r).1 = 1 ∧ r < 75 ∧ 0 ≤ x.toInt ∧ x.toInt < (ab_ly r).2) ∧ At 115 39 ls (.int (I r x.toNatClampNeg) :: st) I J Q := A_iaload (ab_io ci115 (by decide +kernel))
theorem k115_39 : At 115 39 ls (.int x1 :: .int x :: st) I J Q ↔ if x1 ≤ x then At 115 45 ls st I J Q else At 115 42 ls st I J Q := A_if_icmp_ge (o := 6) (ab_io ci115 (by decide +kernel)) (by decide)
theorem k115_42 : At 115 42 [a0, a1, a2, some (.int x), a4] st I J Q ↔ At 115 45 [a0, a1, ab_nv a2, some (.int (x + (nI 1))), a4] st I J Q := A_iinc (q := 3) (ab_io ci115 (by decide +kernel)) ic_1 (Nat.le_of_ble_eq_true rfl) rfl rfl
theorem k115_45 : At 115 45 [a0, a1, a2, a3, some (.int x)] st I J Q ↔ At 115 48 [a0, a1, a2, ab_nv a3, some (.int (x + (nI 4)))] st I J Q := A_iinc (q := 4) (ab_io ci115 (by decide +kernel)) ic_4 (Nat.le_of_ble_eq_true rfl) rfl rfl
theorem k115_48 : At 115 48 ls st I J Q ↔ At 115 5 ls st I J Q := A_goto (o := (-43)) (ab_io ci115 (by decide +kernel)) (by decide)
theorem k115_51 : At 115 51 [a0, a1, a2, some (.int x), a4] st I J Q ↔ At 115 52 [a0, a1, a2, some (.int x), a4] (.int x :: st) I J Q := A_iload_n (q := 3) (ab_io ci115 (by decide +kernel)) rfl
theorem k115_52 : At 115 52 ls [.int x] I J Q ↔ Q (some (.int x)) I J := A_iret (ab_io ci115 (by decide +kernel)) rt115
theorem k116_0 : At 116 0 [some (.int x)] st I J Q ↔ At 116 1 [some (.int x)] (.int x :: st) I J Q := A_iload_n (q := 0) (ab_io ci116 (by decide +kernel)) rfl
theorem k116_1 : At 116 1 ls (.int x :: st) I J Q ↔ if x < 0 then At 116 14 ls st I J Q else At 116 4 ls st I J Q := A_ifCond_lt (o := 13) (ab_io ci116 (by decide +kernel)) (by decide)
theorem k116_4 : At 116 4 [some (.int x)] st I J Q ↔ At 116 5 [some (.int x)] (.int x :: st) I J Q := A_iload_n (q := 0) (ab_io ci116 (by decide +kernel)) rfl
theorem k116_5 : At 116 5 ls st I J Q ↔ At 116 7 ls (.int (nI 12) :: st) I J Q := A_bipush (ab_io ci116 (by decide +kernel)) bc_12
theorem k116_7 : At 116 7 ls (.int x1 :: .int x :: st) I J Q ↔ if x1 ≤ x then At 116 14 ls st I J Q else At 116 10 ls st I J Q := A_if_icmp_ge (o := 7) (ab_io ci116 (by decide +kernel)) (by decide)
theorem k116_10 : At 116 10 ls st I J Q ↔ At 116 11 ls (.int (nI 1) :: st) I J Q := A_iconst (ab_io ci116 (by decide +kernel)) ic_1
theorem k116_11 : At 116 11 ls st I J Q ↔ At 116 15 ls st I J Q := A_goto (o := 4) (ab_io ci116 (by decide +kernel)) (by decide)
theorem k116_14 : At 116 14 ls st I J Q ↔ At 116 15 ls (.int (nI 0) :: st) I J Q := A_iconst (ab_io ci116 (by decide +kernel)) ic_0
theorem k116_15 : At 116 15 ls [.int x] I J Q ↔ (x = 0 ∨ x = 1) ∧ Q (some (.int x)) I J := A_zret (ab_io ci116 (by decide +kernel)) rt116
theorem k117_0 : At 117 0 [some (.int x)] st I J Q ↔ At 117 1 [some (.int x)] (.int x :: st) I J Q := A_iload_n (q := 0) (ab_io ci117 (by decide +kernel)) rfl
theorem k117_1 : At 117 1 ls (.int x :: st) I J Q ↔ if x < 0 then At 117 13 ls st I J Q else At 117 4 ls st I J Q := A_ifCond_lt (o := 12) (ab_io ci117 (by decide +kernel)) (by decide)
theorem k117_4 : At 117 4 [some (.int x)] st I J Q ↔ At 117 5 [some (.int x)] (.int x :: st) I J Q := A_iload_n (q := 0) (ab_io ci117 (by decide +kernel)) rfl
theorem k117_5 : At 117 5 ls st I J Q ↔ At 117 6 ls (.int (nI 4) :: st) I J Q := A_iconst (ab_io ci117 (by decide +kernel)) ic_4
theorem k117_6 : At 117 6 ls (.int x1 :: .int x :: st) I J Q ↔ if x1 ≤ x then At 117 13 ls st I J Q else At 117 9 ls st I J Q := A_if_icmp_ge (o := 7) (ab_io ci117 (by decide +kernel)) (by decide)
theorem k117_9 : At 117 9 ls st I J Q ↔ At 117 10 ls (.int (nI 1) :: st) I J Q := A_iconst (ab_io ci117 (by decide +kernel)) ic_1
theorem k117_10 : At 117 10 ls st I J Q ↔ At 117 14 ls st I J Q := A_goto (o := 4) (ab_io ci117 (by decide +kernel)) (by decide)
theorem k117_13 : At 117 13 ls st I J Q ↔ At 117 14 ls (.int (nI 0) :: st) I J Q := A_iconst (ab_io ci117 (by decide +kernel)) ic_0
theorem k117_14 : At 117 14 ls [.int x] I J Q ↔ (x = 0 ∨ x = 1) ∧ Q (some (.int x)) I J := A_zret (ab_io ci117 (by decide +kernel)) rt117
theorem k118_0 : At 118 0 [some (.int x)] st I J Q ↔ At 118 1 [some (.int x)] (.int x :: st) I J Q := A_iload_n (q := 0) (ab_io ci118 (by decide +kernel)) rfl
theorem k118_1 : At 118 1 ls (.int x :: st) I J Q ↔ if x < 0 then At 118 13 ls st I J Q else At 118 4 ls st I J Q := A_ifCond_lt (o := 12) (ab_io ci118 (by decide +kernel)) (by decide)
theorem k118_4 : At 118 4 [some (.int x)] st I J Q ↔ At 118 5 [some (.int x)] (.int x :: st) I J Q := A_iload_n (q := 0) (ab_io ci118 (by decide +kernel)) rfl
theorem k118_5 : At 118 5 ls st I J Q ↔ At 118 6 ls (.int (nI 4) :: st) I J Q := A_iconst (ab_io ci118 (by decide +kernel)) ic_4
theorem k118_6 : At 118 6 ls (.int x1 :: .int x :: st) I J Q ↔ if x1 ≤ x then At 118 13 ls st I J Q else At 118 9 ls st I J Q := A_if_icmp_ge (o := 7) (ab_io ci118 (by decide +kernel)) (by decide)
theorem k118_9 : At 118 9 ls st I J Q ↔ At 118 10 ls (.int (nI 1) :: st) I J Q := A_iconst (ab_io ci118 (by decide +kernel)) ic_1
theorem k118_10 : At 118 10 ls st I J Q ↔ At 118 14 ls st I J Q := A_goto (o := 4) (ab_io ci118 (by decide +kernel)) (by decide)
theorem k118_13 : At 118 13 ls st I J Q ↔ At 118 14 ls (.int (nI 0) :: st) I J Q := A_iconst (ab_io ci118 (by decide +kernel)) ic_0
theorem k118_14 : At 118 14 ls [.int x] I J Q ↔ (x = 0 ∨ x = 1) ∧ Q (some (.int x)) I J := A_zret (ab_io ci118 (by decide +kernel)) rt118
theorem k119_0 : At 119 0 [some (.int x)] st I J Q ↔ At 119 1 [some (.int x)] (.int x :: st) I J Q := A_iload_n (q := 0) (ab_io ci119 (by decide +kernel)) rfl
theorem k119_1 : At 119 1 ls (.int x :: st) I J Q ↔ if x < 0 then At 119 13 ls st I J Q else At 119 4 ls st I J Q := A_ifCond_lt (o := 12) (ab_io ci119 (by decide +kernel)) (by decide)
theorem k119_4 : At 119 4 [some (.int x)] st I J Q ↔ At 119 5 [some (.int x)] (.int x :: st) I J Q := A_iload_n (q := 0) (ab_io ci119 (by decide +kernel)) rfl
theorem k119_5 : At 119 5 ls st I J Q ↔ At 119 6 ls (.int (nI 2) :: st) I J Q := A_iconst (ab_io ci119 (by decide +kernel)) ic_2
theorem k119_6 : At 119 6 ls (.int x1 :: .int x :: st) I J Q ↔ if x1 < x then At 119 13 ls st I J Q else At 119 9 ls st I J Q := A_if_icmp_gt (o := 7) (ab_io ci119 (by decide +kernel)) (by decide)
theorem k119_9 : At 119 9 ls st I J Q ↔ At 119 10 ls (.int (nI 1) :: st) I J Q := A_iconst (ab_io ci119 (by decide +kernel)) ic_1
theorem k119_10 : At 119 10 ls st I J Q ↔ At 119 14 ls st I J Q := A_goto (o := 4) (ab_io ci119 (by decide +kernel)) (by decide)
theorem k119_13 : At 119 13 ls st I J Q ↔ At 119 14 ls (.int (nI 0) :: st) I J Q := A_iconst (ab_io ci119 (by decide +kernel)) ic_0
theorem k119_14 : At 119 14 ls [.int x] I J Q ↔ (x = 0 ∨ x = 1) ∧ Q (some (.int x)) I J := A_zret (ab_io ci119 (by decide +kernel)) rt119
theorem k120_0 : At 120 0 [some (.int x)] st I J Q ↔ At 120 1 [some (.int x)] (.int x :: st) I J Q := A_iload_n (q := 0) (ab_io ci120 (by decide +kernel)) rfl
theorem k120_1 : At 120 1 ls (.int x :: st) I J Q ↔ if x = 0 then At 120 9 ls st I J Q else At 120 4 ls st I J Q := A_ifCond_eq (o := 8) (ab_io ci120 (by decide +kernel)) (by decide)
theorem k120_4 : At 120 4 [some (.int x)] st I J Q ↔ At 120 5 [some (.int x)] (.int x :: st) I J Q := A_iload_n (q := 0) (ab_io ci120 (by decide +kernel)) rfl
theorem k120_5 : At 120 5 ls st I J Q ↔ At 120 6 ls (.int (nI 1) :: st) I J Q := A_iconst (ab_io ci120 (by decide +kernel)) ic_1
theorem k120_6 : At 120 6 ls (.int x1 :: .int x :: st) I J Q ↔ if ¬ x = x1 then At 120 13 ls st I J Q else At 120 9 ls st I J Q := A_if_icmp_ne (o := 7) (ab_io ci120 (by decide +kernel)) (by decide)
theorem k120_9 : At 120 9 ls st I J Q ↔ At 120 10 ls (.int (nI 1) :: st) I J Q := A_iconst (ab_io ci120 (by decide +kernel)) ic_1
theorem k120_10 : At 120 10 ls st I J Q ↔ At 120 14 ls st I J Q := A_goto (o := 4) (ab_io ci120 (by decide +kernel)) (by decide)
theorem k120_13 : At 120 13 ls st I J Q ↔ At 120 14 ls (.int (nI 0) :: st) I J Q := A_iconst (ab_io ci120 (by decide +kernel)) ic_0
theorem k120_14 : At 120 14 ls [.int x] I J Q ↔ (x = 0 ∨ x = 1) ∧ Q (some (.int x)) I J := A_zret (ab_io ci120 (by decide +kernel)) rt120
theorem k121_0 : At 121 0 ls st I J Q ↔ At 121 3 ls (.long (-9223372036854775808) :: st) I J Q := A_ldc2_w (j := 365) (q := 485) (ab_io ci121 (by decide +kernel)) ow121 (by decide +kernel)
theorem k121_3 : At 121 3 [some (.int x)] st I J Q ↔ At 121 4 [some (.int x)] (.int x :: st) I J Q := A_iload_n (q := 0) (ab_io ci121 (by decide +kernel)) rfl
theorem k121_4 : At 121 4 ls (.int x :: st) I J Q ↔ At 121 5 ls (.long x.toInt64 :: st) I J Q := A_i2l (ab_io ci121 (by decide +kernel))
theorem k121_5 : At 121 5 ls (.long u1 :: .long u :: st) I J Q ↔ At 121 6 ls (.long (u - u1) :: st) I J Q := A_lsub (ab_io ci121 (by decide +kernel))
theorem k121_6 : At 121 6 ls [.long u] I J Q ↔ Q (some (.long u)) I J := A_lret (ab_io ci121 (by decide +kernel)) rt121
theorem k122_0 : At 122 0 [some (.long u), a1, a2, a3, a4, a5, a6] st I J Q ↔ At 122 1 [some (.long u), a1, a2, a3, a4, a5, a6] (.long u :: st) I J Q := A_lload_n (q := 0) (ab_io ci122 (by decide +kernel)) rfl
theorem k122_1 : At 122 1 ls [.long u] I J Q ↔ At 122 4 ls [.long (if 0 < u then u else -u)] I J Q := A_abs (j := 271) (q0 := 0) (q1 := 489) (by decide +kernel) (Nat.le_of_ble_eq_true rfl)
theorem k122_4 : At 122 4 [a0, a1, some (.long u), a3, a4, a5, a6] st I J Q ↔ At 122 5 [a0, a1, some (.long u), a3, a4, a5, a6] (.long u :: st) I J Q := A_lload_n (q := 2) (ab_io ci122 (by decide +kernel)) rfl
theorem k122_5 : At 122 5 ls [.long pu0, .long pu1] I J Q ↔ Cal 123 [.long pu1, .long pu0] I J (fun v I' J' => At 122 8 ls (v.toList ++ []) I' J' Q) := A_cal (kd := 1) (j := 367) (na := 2) (ea := 4) (rk := 0) (by decide +kernel) rfl rfl rfl (Or.inl rfl) (Nat.le_of_ble_eq_true rfl)
theorem k122_8 : At 122 8 [a0, a1, a2, a3, a4, a5, a6] (.long u :: st) I J Q ↔ At 122 10 [a0, a1, a2, a3, ab_nv a4, some (.long u), none] st I J Q := A_lstore (q := 5) (ab_io ci122 (by decide +kernel)) (Nat.le_of_ble_eq_true rfl) rfl
theorem k122_10 : At 122 10 [a0, a1, a2, a3, a4, some (.long u), a6] st I J Q ↔ At 122 12 [a0, a1, a2, a3, a4, some (.long u), a6] (.long u :: st) I J Q := A_lload (q := 5) (ab_io ci122 (by decide +kernel)) rfl
theorem k122_12 : At 122 12 ls st I J Q ↔ At 122 13 ls (.long 0 :: st) I J Q := A_lconst (n := 0) (ab_io ci122 (by decide +kernel)) rfl
theorem k122_13 : At 122 13 ls (.long u1 :: .long u :: st) I J Q ↔ At 122 14 ls (.int (lg_cmp u u1) :: st) I J Q := A_lcmp (ab_io ci122 (by decide +kernel))
theorem k122_14 : At 122 14 ls (.int x :: st) I J Q ↔ if 0 < x then At 122 19 ls st I J Q else At 122 17 ls st I J Q := A_ifCond_gt (o := 5) (ab_io ci122 (by decide +kernel)) (by decide)
theorem k122_17 : At 122 17 ls st I J Q ↔ At 122 18 ls (.long 0 :: st) I J Q := A_lconst (n := 0) (ab_io ci122 (by decide +kernel)) rfl
theorem k122_18 : At 122 18 ls [.long u] I J Q ↔ Q (some (.long u)) I J := A_lret (ab_io ci122 (by decide +kernel)) rt122
theorem k122_19 : At 122 19 [a0, a1, a2, a3, some (.int x), a5, a6] st I J Q ↔ At 122 21 [a0, a1, a2, a3, some (.int x), a5, a6] (.int x :: st) I J Q := A_iload (q := 4) (ab_io ci122 (by decide +kernel)) rfl
theorem k122_21 : At 122 21 ls (.int x :: st) I J Q ↔ if ¬ x = 0 then At 122 31 ls st I J Q else At 122 24 ls st I J Q := A_ifCond_ne (o := 10) (ab_io ci122 (by decide +kernel)) (by decide)
theorem k122_24 : At 122 24 [some (.long u), a1, a2, a3, a4, a5, a6] st I J Q ↔ At 122 25 [some (.long u), a1, a2, a3, a4, a5, a6] (.long u :: st) I J Q := A_lload_n (q := 0) (ab_io ci122 (by decide +kernel)) rfl
theorem k122_25 : At 122 25 [a0, a1, a2, a3, a4, some (.long u), a6] st I J Q ↔ At 122 27 [a0, a1, a2, a3, a4, some (.long u), a6] (.long u :: st) I J Q := A_lload (q := 5) (ab_io ci122 (by decide +kernel)) rfl
theorem k122_27 : At 122 27 ls (.long u1 :: .long u :: st) I J Q ↔ ¬ u1 = 0 ∧ At 122 28 ls (.long (u / u1) :: st) I J Q := A_ldiv (ab_io ci122 (by decide +kernel))
theorem k122_28 : At 122 28 ls st I J Q ↔ At 122 35 ls st I J Q := A_goto (o := 7) (ab_io ci122 (by decide +kernel)) (by decide)
theorem k122_31 : At 122 31 [a0, a1, some (.long u), a3, a4, a5, a6] st I J Q ↔ At 122 32 [a0, a1, some (.long u), a3, a4, a5, a6] (.long u :: st) I J Q := A_lload_n (q := 2) (ab_io ci122 (by decide +kernel)) rfl
theorem k122_32 : At 122 32 [a0, a1, a2, a3, a4, some (.long u), a6] st I J Q ↔ At 122 34 [a0, a1, a2, a3, a4, some (.long u), a6] (.long u :: st) I J Q := A_lload (q := 5) (ab_io ci122 (by decide +kernel)) rfl
theorem k122_34 : At 122 34 ls (.long u1 :: .long u :: st) I J Q ↔ ¬ u1 = 0 ∧ At 122 35 ls (.long (u / u1) :: st) I J Q := A_ldiv (ab_io ci122 (by decide +kernel))
theorem k122_35 : At 122 35 ls [.long u] I J Q ↔ Q (some (.long u)) I J := A_lret (ab_io ci122 (by decide +kernel)) rt122
theorem k123_0 : At 123 0 [some (.long u), a1, a2, a3, a4, a5, a6, a7, a8, a9, a10] st I J Q ↔ At 123 1 [some (.long u), a1, a2, a3, a4, a5, a6, a7, a8, a9, a10] (.long u :: st) I J Q := A_lload_n (q := 0) (ab_io ci123 (by decide +kernel)) rfl
theorem k123_1 : At 123 1 [a0, a1, a2, a3, a4, a5, a6, a7, a8, a9, a10] (.long u :: st) I J Q ↔ At 123 3 [a0, a1, a2, ab_nv a3, some (.long u), none, a6, a7, a8, a9, a10] st I J Q := A_lstore (q := 4) (ab_io ci123 (by decide +kernel)) (Nat.le_of_ble_eq_true rfl) rfl
theorem k123_3 : At 123 3 [a0, a1, some (.long u), a3, a4, a5, a6, a7, a8, a9, a10] st I J Q ↔ At 123 4 [a0, a1, some (.long u), a3, a4, a5, a6, a7, a8, a9, a10] (.long u :: st) I J Q := A_lload_n (q := 2) (ab_io ci123 (by decide +kernel)) rfl
theorem k123_4 : At 123 4 [a0, a1, a2, a3, a4, a5, a6, a7, a8, a9, a10] (.long u :: st) I J Q ↔ At 123 6 [a0, a1, a2, a3, a4, ab_nv a5, some (.long u), none, a8, a9, a10] st I J Q := A_lstore (q := 6) (ab_io ci123 (by decide +kernel)) (Nat.le_of_ble_eq_true rfl) rfl
theorem k123_6 : At 123 6 ls st I J Q ↔ At 123 7 ls (.int (nI 0) :: st) I J Q := A_iconst (ab_io ci123 (by decide +kernel)) ic_0
theorem k123_7 : At 123 7 [a0, a1, a2, a3, a4, a5, a6, a7, a8, a9, a10] (.int x :: st) I J Q ↔ At 123 9 [a0, a1, a2, a3, a4, a5, a6, ab_nv a7, some (.int x), a9, a10] st I J Q := A_istore (q := 8) (ab_io ci123 (by decide +kernel)) (Nat.le_of_ble_eq_true rfl) rfl
theorem k123_9 : At 123 9 [a0, a1, a2, a3, a4, a5, a6, a7, some (.int x), a9, a10] st I J Q ↔ At 123 11 [a0, a1, a2, a3, a4, a5, a6, a7, some (.int x), a9, a10] (.int x :: st) I J Q := A_iload (q := 8) (ab_io ci123 (by decide +kernel)) rfl
theorem k123_11 : At 123 11 ls st I J Q ↔ At 123 13 ls (.int (nI 100) :: st) I J Q := A_bipush (ab_io ci123 (by decide +kernel)) bc_100
theorem k123_13 : At 123 13 ls (.int x1 :: .int x :: st) I J Q ↔ if x1 ≤ x then At 123 44 ls st I J Q else At 123 16 ls st I J Q := A_if_icmp_ge (o := 31) (ab_io ci123 (by decide +kernel)) (by decide)
theorem k123_16 : At 123 16 [a0, a1, a2, a3, a4, a5, some (.long u), a7, a8, a9, a10] st I J Q ↔ At 123 18 [a0, a1, a2, a3, a4, a5, some (.long u), a7, a8, a9, a10] (.long u :: st) I J Q := A_lload (q := 6) (ab_io ci123 (by decide +kernel)) rfl
theorem k123_18 : At 123 18 ls st I J Q ↔ At 123 19 ls (.long 0 :: st) I J Q := A_lconst (n := 0) (ab_io ci123 (by decide +kernel)) rfl
theorem k123_19 : At 123 19 ls (.long u1 :: .long u :: st) I J Q ↔ At 123 20 ls (.int (lg_cmp u u1) :: st) I J Q := A_lcmp (ab_io ci123 (by decide +kernel))
theorem k123_20 : At 123 20 ls (.int x :: st) I J Q ↔ if x = 0 then At 123 44 ls st I J Q else At 123 23 ls st I J Q := A_ifCond_eq (o := 24) (ab_io ci123 (by decide +kernel)) (by decide)
theorem k123_23 : At 123 23 [a0, a1, a2, a3, some (.long u), a5, a6, a7, a8, a9, a10] st I J Q ↔ At 123 25 [a0, a1, a2, a3, some (.long u), a5, a6, a7, a8, a9, a10] (.long u :: st) I J Q := A_lload (q := 4) (ab_io ci123 (by decide +kernel)) rfl
theorem k123_25 : At 123 25 [a0, a1, a2, a3, a4, a5, some (.long u), a7, a8, a9, a10] st I J Q ↔ At 123 27 [a0, a1, a2, a3, a4, a5, some (.long u), a7, a8, a9, a10] (.long u :: st) I J Q := A_lload (q := 6) (ab_io ci123 (by decide +kernel)) rfl
theorem k123_27 : At 123 27 ls (.long u1 :: .long u :: st) I J Q ↔ ¬ u1 = 0 ∧ At 123 28 ls (.long (u - u / u1 * u1) :: st) I J Q := A_lrem (ab_io ci123 (by decide +kernel))
theorem k123_28 : At 123 28 [a0, a1, a2, a3, a4, a5, a6, a7, a8, a9, a10] (.long u :: st) I J Q ↔ At 123 30 [a0, a1, a2, a3, a4, a5, a6, a7, ab_nv a8, some (.long u), none] st I J Q := A_lstore (q := 9) (ab_io ci123 (by decide +kernel)) (Nat.le_of_ble_eq_true rfl) rfl
theorem k123_30 : At 123 30 [a0, a1, a2, a3, a4, a5, some (.long u), a7, a8, a9, a10] st I J Q ↔ At 123 32 [a0, a1, a2, a3, a4, a5, some (.long u), a7, a8, a9, a10] (.long u :: st) I J Q := A_lload (q := 6) (ab_io ci123 (by decide +kernel)) rfl
theorem k123_32 : At 123 32 [a0, a1, a2, a3, a4, a5, a6, a7, a8, a9, a10] (.long u :: st) I J Q ↔ At 123 34 [a0, a1, a2, ab_nv a3, some (.long u), none, a6, a7, a8, a9, a10] st I J Q := A_lstore (q := 4) (ab_io ci123 (by decide +kernel)) (Nat.le_of_ble_eq_true rfl) rfl
theorem k123_34 : At 123 34 [a0, a1, a2, a3, a4, a5, a6, a7, a8, some (.long u), a10] st I J Q ↔ At 123 36 [a0, a1, a2, a3, a4, a5, a6, a7, a8, some (.long u), a10] (.long u :: st) I J Q := A_lload (q := 9) (ab_io ci123 (by decide +kernel)) rfl
theorem k123_36 : At 123 36 [a0, a1, a2, a3, a4, a5, a6, a7, a8, a9, a10] (.long u :: st) I J Q ↔ At 123 38 [a0, a1, a2, a3, a4, ab_nv a5, some (.long u), none, a8, a9, a10] st I J Q := A_lstore (q := 6) (ab_io ci123 (by decide +kernel)) (Nat.le_of_ble_eq_true rfl) rfl
theorem k123_38 : At 123 38 [a0, a1, a2, a3, a4, a5, a6, a7, some (.int x), a9, a10] st I J Q ↔ At 123 41 [a0, a1, a2, a3, a4, a5, a6, ab_nv a7, some (.int (x + (nI 1))), a9, a10] st I J Q := A_iinc (q := 8) (ab_io ci123 (by decide +kernel)) ic_1 (Nat.le_of_ble_eq_true rfl) rfl rfl
theorem k123_41 : At 123 41 ls st I J Q ↔ At 123 9 ls st I J Q := A_goto (o := (-32)) (ab_io ci123 (by decide +kernel)) (by decide)
theorem k123_44 : At 123 44 [a0, a1, a2, a3, some (.long u), a5, a6, a7, a8, a9, a10] st I J Q ↔ At 123 46 [a0, a1, a2, a3, some (.long u), a5, a6, a7, a8, a9, a10] (.long u :: st) I J Q := A_lload (q := 4) (ab_io ci123 (by decide +kernel)) rfl
theorem k123_46 : At 123 46 ls [.long u] I J Q ↔ Q (some (.long u)) I J := A_lret (ab_io ci123 (by decide +kernel)) rt123
theorem k124_0 : At 124 0 ls st I J Q ↔ At 124 1 ls (.int (nI 0) :: st) I J Q := A_iconst (ab_io ci124 (by decide +kernel)) ic_0
theorem k124_1 : At 124 1 [a0, a1] (.int x :: st) I J Q ↔ At 124 2 [ab_nv a0, some (.int x)] st I J Q := A_istore_n (q := 1) (ab_io ci124 (by decide +kernel)) (Nat.le_of_ble_eq_true rfl) rfl
theorem k124_2 : At 124 2 [a0, some (.int x)] st I J Q ↔ At 124 3 [a0, some (.int x)] (.int x :: st) I J Q := A_iload_n (q := 1) (ab_io ci124 (by decide +kernel)) rfl
theorem k124_3 : At 124 3 ls st I J Q ↔ At 124 4 ls (.int (nI 4) :: st) I J Q := A_iconst (ab_io ci124 (by decide +kernel)) ic_4
theorem k124_4 : At 124 4 ls (.int x1 :: .int x :: st) I J Q ↔ if x1 ≤ x then At 124 23 ls st I J Q else At 124 7 ls st I J Q := A_if_icmp_ge (o := 19) (ab_io ci124 (by decide +kernel)) (by decide)
theorem k124_7 : At 124 7 [some (.int x), a1] st I J Q ↔ At 124 8 [some (.int x), a1] (.int x :: st) I J Q := A_iload_n (q := 0) (ab_io ci124 (by decide +kernel)) rfl
theorem k124_8 : At 124 8 [a0, some (.int x)] st I J Q ↔ At 124 9 [a0, some (.int x)] (.int x :: st) I J Q := A_iload_n (q := 1) (ab_io ci124 (by decide +kernel)) rfl
theorem k124_9 : At 124 9 ls (.int x1 :: .int x :: st) I J Q ↔ At 124 10 ls (.int (x >>> (x1 &&& 31)) :: st) I J Q := A_ishr (ab_io ci124 (by decide +kernel))
theorem k124_10 : At 124 10 ls st I J Q ↔ At 124 11 ls (.int (nI 1) :: st) I J Q := A_iconst (ab_io ci124 (by decide +kernel)) ic_1
theorem k124_11 : At 124 11 ls (.int x1 :: .int x :: st) I J Q ↔ At 124 12 ls (.int (x &&& x1) :: st) I J Q := A_iand (ab_io ci124 (by decide +kernel))
theorem k124_12 : At 124 12 ls (.int x :: st) I J Q ↔ if x = 0 then At 124 17 ls st I J Q else At 124 15 ls st I J Q := A_ifCond_eq (o := 5) (ab_io ci124 (by decide +kernel)) (by decide)
theorem k124_15 : At 124 15 [a0, some (.int x)] st I J Q ↔ At 124 16 [a0, some (.int x)] (.int x :: st) I J Q := A_iload_n (q := 1) (ab_io ci124 (by decide +kernel)) rfl
theorem k124_16 : At 124 16 ls [.int x] I J Q ↔ Q (some (.int x)) I J := A_iret (ab_io ci124 (by decide +kernel)) rt124
theorem k124_17 : At 124 17 [a0, some (.int x)] st I J Q ↔ At 124 20 [ab_nv a0, some (.int (x + (nI 1)))] st I J Q := A_iinc (q := 1) (ab_io ci124 (by decide +kernel)) ic_1 (Nat.le_of_ble_eq_true rfl) rfl rfl
theorem k124_20 : At 124 20 ls st I J Q ↔ At 124 2 ls st I J Q := A_goto (o := (-18)) (ab_io ci124 (by decide +kernel)) (by decide)
theorem k124_23 : At 124 23 ls st I J Q ↔ At 124 24 ls (.int (-1) :: st) I J Q := A_iconst (ab_io ci124 (by decide +kernel)) ic_m1
theorem k124_24 : At 124 24 ls [.int x] I J Q ↔ Q (some (.int x)) I J := A_iret (ab_io ci124 (by decide +kernel)) rt124
end KROWS
