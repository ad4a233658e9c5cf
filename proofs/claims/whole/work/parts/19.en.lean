section KROWS
variable {ls : ab_L} {st : List Value} {I : ab_I} {J : ab_J} {Q : Option Value → ab_I → ab_J → Prop} {x x1 x2 : Int32} {u u1 : Int64} {r r1 : Nat}
variable {a0 a1 a2 a3 a4 a5 a6 a7 a8 a9 a10 a11 a12 a13 a14 a15 a16 a17 a18 a19 : Option Value}
variable {p0 q0 p1 q1 p2 q2 p3 q3 p4 q4 p5 q5 : Int32} {pu0 qu0 pu1 qu1 pu2 qu2 pu3 qu3 pu4 qu4 pu5 qu5 : Int64} {pr0 qr0 pr1 qr1 pr2 qr2 pr3 qr3 pr4 qr4 pr5 qr5 : Nat}
theorem ml1 : (ab_row 1).2.2.1 = 7 := by decide +kernel
theorem en1 : Cal 1 [.ref pr0, .ref pr1, .int p2, .int p3] I J Q ↔ At 1 0 [some (.ref pr0), some (.ref pr1), some (.int p2), some (.int p3), none, none, none] [] I J Q := by unfold Cal; rw [ml1]; exact Iff.rfl
theorem ml2 : (ab_row 2).2.2.1 = 4 := by decide +kernel
theorem en2 : Cal 2 [.ref pr0] I J Q ↔ At 2 0 [some (.ref pr0), none, none, none] [] I J Q := by unfold Cal; rw [ml2]; exact Iff.rfl
theorem ml3 : (ab_row 3).2.2.1 = 5 := by decide +kernel
theorem en3 : Cal 3 [.ref pr0] I J Q ↔ At 3 0 [some (.ref pr0), none, none, none, none] [] I J Q := by unfold Cal; rw [ml3]; exact Iff.rfl
theorem ml4 : (ab_row 4).2.2.1 = 6 := by decide +kernel
theorem en4 : Cal 4 [.ref pr0, .int p1, .int p2, .int p3] I J Q ↔ At 4 0 [some (.ref pr0), some (.int p1), some (.int p2), some (.int p3), none, none] [] I J Q := by unfold Cal; rw [ml4]; exact Iff.rfl
theorem ml5 : (ab_row 5).2.2.1 = 6 := by decide +kernel
theorem en5 : Cal 5 [.ref pr0, .int p1, .int p2, .int p3] I J Q ↔ At 5 0 [some (.ref pr0), some (.int p1), some (.int p2), some (.int p3), none, none] [] I J Q := by unfold Cal; rw [ml5]; exact Iff.rfl
theorem ml6 : (ab_row 6).2.2.1 = 6 := by decide +kernel
theorem en6 : Cal 6 [.ref pr0, .int p1, .int p2, .int p3] I J Q ↔ At 6 0 [some (.ref pr0), some (.int p1), some (.int p2), some (.int p3), none, none] [] I J Q := by unfold Cal; rw [ml6]; exact Iff.rfl
theorem ml7 : (ab_row 7).2.2.1 = 6 := by decide +kernel
theorem en7 : Cal 7 [.ref pr0, .int p1, .int p2, .int p3] I J Q ↔ At 7 0 [some (.ref pr0), some (.int p1), some (.int p2), some (.int p3), none, none] [] I J Q := by unfold Cal; rw [ml7]; exact Iff.rfl
theorem ml8 : (ab_row 8).2.2.1 = 6 := by decide +kernel
theorem en8 : Cal 8 [.ref pr0, .int p1, .int p2, .int p3] I J Q ↔ At 8 0 [some (.ref pr0), some (.int p1), some (.int p2), some (.int p3), none, none] [] I J Q := by unfold Cal; rw [ml8]; exact Iff.rfl
theorem ml9 : (ab_row 9).2.2.1 = 6 := by decide +kernel
theorem en9 : Cal 9 [.ref pr0, .int p1, .int p2, .int p3] I J Q ↔ At 9 0 [some (.ref pr0), some (.int p1), some (.int p2), some (.int p3), none, none] [] I J Q := by unfold Cal; rw [ml9]; exact Iff.rfl
theorem ml10 : (ab_row 10).2.2.1 = 6 := by decide +kernel
theorem en10 : Cal 10 [.ref pr0, .int p1, .int p2, .int p3] I J Q ↔ At 10 0 [some (.ref pr0), some (.int p1), some (.int p2), some (.int p3), none, none] [] I J Q := by unfold Cal; rw [ml10]; exact Iff.rfl
theorem ml11 : (ab_row 11).2.2.1 = 6 := by decide +kernel
theorem en11 : Cal 11 [.ref pr0, .int p1, .int p2, .int p3] I J Q ↔ At 11 0 [some (.ref pr0), some (.int p1), some (.int p2), some (.int p3), none, none] [] I J Q := by unfold Cal; rw [ml11]; exact Iff.rfl
theorem ml12 : (ab_row 12).2.2.1 = 5 := by decide +kernel
theorem en12 : Cal 12 [.ref pr0, .int p1, .int p2] I J Q ↔ At 12 0 [some (.ref pr0), some (.int p1), some (.int p2), none, none] [] I J Q := by unfold Cal; rw [ml12]; exact Iff.rfl
theorem ml13 : (ab_row 13).2.2.1 = 2 := by decide +kernel
theorem en13 : Cal 13 [.int p0, .int p1] I J Q ↔ At 13 0 [some (.int p0), some (.int p1)] [] I J Q := by unfold Cal; rw [ml13]; exact Iff.rfl
theorem ml15 : (ab_row 15).2.2.1 = 1 := by decide +kernel
theorem en15 : Cal 15 [.ref pr0] I J Q ↔ At 15 0 [some (.ref pr0)] [] I J Q := by unfold Cal; rw [ml15]; exact Iff.rfl
theorem ml16 : (ab_row 16).2.2.1 = 5 := by decide +kernel
theorem en16 : Cal 16 [.ref pr0, .ref pr1, .int p2, .int p3] I J Q ↔ At 16 0 [some (.ref pr0), some (.ref pr1), some (.int p2), some (.int p3), none] [] I J Q := by unfold Cal; rw [ml16]; exact Iff.rfl
theorem ml17 : (ab_row 17).2.2.1 = 1 := by decide +kernel
theorem en17 : Cal 17 [.ref pr0] I J Q ↔ At 17 0 [some (.ref pr0)] [] I J Q := by unfold Cal; rw [ml17]; exact Iff.rfl
theorem ml18 : (ab_row 18).2.2.1 = 4 := by decide +kernel
theorem en18 : Cal 18 [.ref pr0] I J Q ↔ At 18 0 [some (.ref pr0), none, none, none] [] I J Q := by unfold Cal; rw [ml18]; exact Iff.rfl
theorem ml19 : (ab_row 19).2.2.1 = 4 := by decide +kernel
theorem en19 : Cal 19 [.ref pr0] I J Q ↔ At 19 0 [some (.ref pr0), none, none, none] [] I J Q := by unfold Cal; rw [ml19]; exact Iff.rfl
theorem ml20 : (ab_row 20).2.2.1 = 3 := by decide +kernel
theorem en20 : Cal 20 [.ref pr0] I J Q ↔ At 20 0 [some (.ref pr0), none, none] [] I J Q := by unfold Cal; rw [ml20]; exact Iff.rfl
theorem ml21 : (ab_row 21).2.2.1 = 4 := by decide +kernel
theorem en21 : Cal 21 [.ref pr0] I J Q ↔ At 21 0 [some (.ref pr0), none, none, none] [] I J Q := by unfold Cal; rw [ml21]; exact Iff.rfl
theorem ml22 : (ab_row 22).2.2.1 = 2 := by decide +kernel
theorem en22 : Cal 22 [.ref pr0, .int p1] I J Q ↔ At 22 0 [some (.ref pr0), some (.int p1)] [] I J Q := by unfold Cal; rw [ml22]; exact Iff.rfl
theorem ml23 : (ab_row 23).2.2.1 = 3 := by decide +kernel
theorem en23 : Cal 23 [.ref pr0, .int p1, .int p2] I J Q ↔ At 23 0 [some (.ref pr0), some (.int p1), some (.int p2)] [] I J Q := by unfold Cal; rw [ml23]; exact Iff.rfl
theorem ml24 : (ab_row 24).2.2.1 = 3 := by decide +kernel
theorem en24 : Cal 24 [.ref pr0, .int p1, .int p2] I J Q ↔ At 24 0 [some (.ref pr0), some (.int p1), some (.int p2)] [] I J Q := by unfold Cal; rw [ml24]; exact Iff.rfl
theorem ml25 : (ab_row 25).2.2.1 = 3 := by decide +kernel
theorem en25 : Cal 25 [.ref pr0] I J Q ↔ At 25 0 [some (.ref pr0), none, none] [] I J Q := by unfold Cal; rw [ml25]; exact Iff.rfl
theorem ml26 : (ab_row 26).2.2.1 = 7 := by decide +kernel
theorem en26 : Cal 26 [.ref pr0, .int p1, .int p2] I J Q ↔ At 26 0 [some (.ref pr0), some (.int p1), some (.int p2), none, none, none, none] [] I J Q := by unfold Cal; rw [ml26]; exact Iff.rfl
theorem ml27 : (ab_row 27).2.2.1 = 5 := by decide +kernel
theorem en27 : Cal 27 [.ref pr0] I J Q ↔ At 27 0 [some (.ref pr0), none, none, none, none] [] I J Q := by unfold Cal; rw [ml27]; exact Iff.rfl
theorem ml28 : (ab_row 28).2.2.1 = 3 := by decide +kernel
theorem en28 : Cal 28 [.ref pr0] I J Q ↔ At 28 0 [some (.ref pr0), none, none] [] I J Q := by unfold Cal; rw [ml28]; exact Iff.rfl
theorem ml29 : (ab_row 29).2.2.1 = 5 := by decide +kernel
theorem en29 : Cal 29 [.ref pr0, .int p1] I J Q ↔ At 29 0 [some (.ref pr0), some (.int p1), none, none, none] [] I J Q := by unfold Cal; rw [ml29]; exact Iff.rfl
theorem ml30 : (ab_row 30).2.2.1 = 2 := by decide +kernel
theorem en30 : Cal 30 [.ref pr0, .int p1] I J Q ↔ At 30 0 [some (.ref pr0), some (.int p1)] [] I J Q := by unfold Cal; rw [ml30]; exact Iff.rfl
theorem ml31 : (ab_row 31).2.2.1 = 5 := by decide +kernel
theorem en31 : Cal 31 [.ref pr0, .int p1] I J Q ↔ At 31 0 [some (.ref pr0), some (.int p1), none, none, none] [] I J Q := by unfold Cal; rw [ml31]; exact Iff.rfl
theorem ml32 : (ab_row 32).2.2.1 = 3 := by decide +kernel
theorem en32 : Cal 32 [.ref pr0, .int p1, .int p2] I J Q ↔ At 32 0 [some (.ref pr0), some (.int p1), some (.int p2)] [] I J Q := by unfold Cal; rw [ml32]; exact Iff.rfl
theorem ml33 : (ab_row 33).2.2.1 = 9 := by decide +kernel
theorem en33 : Cal 33 [.ref pr0, .int p1, .int p2] I J Q ↔ At 33 0 [some (.ref pr0), some (.int p1), some (.int p2), none, none, none, none, none, none] [] I J Q := by unfold Cal; rw [ml33]; exact Iff.rfl
theorem ml34 : (ab_row 34).2.2.1 = 5 := by decide +kernel
theorem en34 : Cal 34 [.ref pr0] I J Q ↔ At 34 0 [some (.ref pr0), none, none, none, none] [] I J Q := by unfold Cal; rw [ml34]; exact Iff.rfl
theorem ml35 : (ab_row 35).2.2.1 = 6 := by decide +kernel
theorem en35 : Cal 35 [.ref pr0, .int p1, .int p2] I J Q ↔ At 35 0 [some (.ref pr0), some (.int p1), some (.int p2), none, none, none] [] I J Q := by unfold Cal; rw [ml35]; exact Iff.rfl
theorem ml36 : (ab_row 36).2.2.1 = 3 := by decide +kernel
theorem en36 : Cal 36 [.ref pr0] I J Q ↔ At 36 0 [some (.ref pr0), none, none] [] I J Q := by unfold Cal; rw [ml36]; exact Iff.rfl
theorem ml37 : (ab_row 37).2.2.1 = 3 := by decide +kernel
theorem en37 : Cal 37 [.ref pr0] I J Q ↔ At 37 0 [some (.ref pr0), none, none] [] I J Q := by unfold Cal; rw [ml37]; exact Iff.rfl
theorem ml38 : (ab_row 38).2.2.1 = 4 := by decide +kernel
theorem en38 : Cal 38 [.ref pr0, .int p1] I J Q ↔ At 38 0 [some (.ref pr0), some (.int p1), none, none] [] I J Q := by unfold Cal; rw [ml38]; exact Iff.rfl
theorem ml39 : (ab_row 39).2.2.1 = 3 := by decide +kernel
theorem en39 : Cal 39 [.ref pr0] I J Q ↔ At 39 0 [some (.ref pr0), none, none] [] I J Q := by unfold Cal; rw [ml39]; exact Iff.rfl
theorem ml40 : (ab_row 40).2.2.1 = 3 := by decide +kernel
theorem en40 : Cal 40 [.ref pr0] I J Q ↔ At 40 0 [some (.ref pr0), none, none] [] I J Q := by unfold Cal; rw [ml40]; exact Iff.rfl
theorem ml42 : (ab_row 42).2.2.1 = 1 := by decide +kernel
theorem en42 : Cal 42 [.ref pr0] I J Q ↔ At 42 0 [some (.ref pr0)] [] I J Q := by unfold Cal; rw [ml42]; exact Iff.rfl
theorem ml43 : (ab_row 43).2.2.1 = 2 := by decide +kernel
theorem en43 : Cal 43 [.ref pr0, .int p1] I J Q ↔ At 43 0 [some (.ref pr0), some (.int p1)] [] I J Q := by unfold Cal; rw [ml43]; exact Iff.rfl
theorem ml44 : (ab_row 44).2.2.1 = 2 := by decide +kernel
theorem en44 : Cal 44 [.ref pr0] I J Q ↔ At 44 0 [some (.ref pr0), none] [] I J Q := by unfold Cal; rw [ml44]; exact Iff.rfl
theorem ml45 : (ab_row 45).2.2.1 = 3 := by decide +kernel
theorem en45 : Cal 45 [.ref pr0] I J Q ↔ At 45 0 [some (.ref pr0), none, none] [] I J Q := by unfold Cal; rw [ml45]; exact Iff.rfl
theorem ml46 : (ab_row 46).2.2.1 = 4 := by decide +kernel
theorem en46 : Cal 46 [.ref pr0] I J Q ↔ At 46 0 [some (.ref pr0), none, none, none] [] I J Q := by unfold Cal; rw [ml46]; exact Iff.rfl
theorem ml47 : (ab_row 47).2.2.1 = 4 := by decide +kernel
theorem en47 : Cal 47 [.ref pr0] I J Q ↔ At 47 0 [some (.ref pr0), none, none, none] [] I J Q := by unfold Cal; rw [ml47]; exact Iff.rfl
theorem ml48 : (ab_row 48).2.2.1 = 2 := by decide +kernel
theorem en48 : Cal 48 [.ref pr0, .int p1] I J Q ↔ At 48 0 [some (.ref pr0), some (.int p1)] [] I J Q := by unfold Cal; rw [ml48]; exact Iff.rfl
theorem ml49 : (ab_row 49).2.2.1 = 2 := by decide +kernel
theorem en49 : Cal 49 [.ref pr0, .int p1] I J Q ↔ At 49 0 [some (.ref pr0), some (.int p1)] [] I J Q := by unfold Cal; rw [ml49]; exact Iff.rfl
theorem ml50 : (ab_row 50).2.2.1 = 2 := by decide +kernel
theorem en50 : Cal 50 [.ref pr0, .int p1] I J Q ↔ At 50 0 [some (.ref pr0), some (.int p1)] [] I J Q := by unfold Cal; rw [ml50]; exact Iff.rfl
theorem ml51 : (ab_row 51).2.2.1 = 7 := by decide +kernel
theorem en51 : Cal 51 [.ref pr0, .long pu1, .long pu2, .int p3] I J Q ↔ At 51 0 [some (.ref pr0), some (.long pu1), none, some (.long pu2), none, some (.int p3), none] [] I J Q := by unfold Cal; rw [ml51]; exact Iff.rfl
theorem ml53 : (ab_row 53).2.2.1 = 2 := by decide +kernel
theorem en53 : Cal 53 [.ref pr0, .int p1] I J Q ↔ At 53 0 [some (.ref pr0), some (.int p1)] [] I J Q := by unfold Cal; rw [ml53]; exact Iff.rfl
theorem ml54 : (ab_row 54).2.2.1 = 5 := by decide +kernel
theorem en54 : Cal 54 [.ref pr0, .int p1, .int p2, .int p3] I J Q ↔ At 54 0 [some (.ref pr0), some (.int p1), some (.int p2), some (.int p3), none] [] I J Q := by unfold Cal; rw [ml54]; exact Iff.rfl
theorem ml55 : (ab_row 55).2.2.1 = 2 := by decide +kernel
theorem en55 : Cal 55 [.ref pr0, .int p1] I J Q ↔ At 55 0 [some (.ref pr0), some (.int p1)] [] I J Q := by unfold Cal; rw [ml55]; exact Iff.rfl
theorem ml56 : (ab_row 56).2.2.1 = 4 := by decide +kernel
theorem en56 : Cal 56 [.ref pr0, .int p1, .int p2, .int p3] I J Q ↔ At 56 0 [some (.ref pr0), some (.int p1), some (.int p2), some (.int p3)] [] I J Q := by unfold Cal; rw [ml56]; exact Iff.rfl
theorem ml57 : (ab_row 57).2.2.1 = 4 := by decide +kernel
theorem en57 : Cal 57 [.ref pr0, .int p1, .int p2, .int p3] I J Q ↔ At 57 0 [some (.ref pr0), some (.int p1), some (.int p2), some (.int p3)] [] I J Q := by unfold Cal; rw [ml57]; exact Iff.rfl
theorem ml58 : (ab_row 58).2.2.1 = 3 := by decide +kernel
theorem en58 : Cal 58 [.ref pr0, .int p1, .int p2] I J Q ↔ At 58 0 [some (.ref pr0), some (.int p1), some (.int p2)] [] I J Q := by unfold Cal; rw [ml58]; exact Iff.rfl
theorem ml59 : (ab_row 59).2.2.1 = 4 := by decide +kernel
theorem en59 : Cal 59 [.ref pr0, .int p1, .int p2, .int p3] I J Q ↔ At 59 0 [some (.ref pr0), some (.int p1), some (.int p2), some (.int p3)] [] I J Q := by unfold Cal; rw [ml59]; exact Iff.rfl
theorem ml60 : (ab_row 60).2.2.1 = 2 := by decide +kernel
theorem en60 : Cal 60 [.int p0, .int p1] I J Q ↔ At 60 0 [some (.int p0), some (.int p1)] [] I J Q := by unfold Cal; rw [ml60]; exact Iff.rfl
theorem ml61 : (ab_row 61).2.2.1 = 6 := by decide +kernel
theorem en61 : Cal 61 [.ref pr0, .int p1, .int p2, .int p3, .int p4, .int p5] I J Q ↔ At 61 0 [some (.ref pr0), some (.int p1), some (.int p2), some (.int p3), some (.int p4), some (.int p5)] [] I J Q := by unfold Cal; rw [ml61]; exact Iff.rfl
theorem ml63 : (ab_row 63).2.2.1 = 4 := by decide +kernel
theorem en63 : Cal 63 [.ref pr0, .ref pr1, .ref pr2] I J Q ↔ At 63 0 [some (.ref pr0), some (.ref pr1), some (.ref pr2), none] [] I J Q := by unfold Cal; rw [ml63]; exact Iff.rfl
theorem ml64 : (ab_row 64).2.2.1 = 5 := by decide +kernel
theorem en64 : Cal 64 [.ref pr0, .int p1] I J Q ↔ At 64 0 [some (.ref pr0), some (.int p1), none, none, none] [] I J Q := by unfold Cal; rw [ml64]; exact Iff.rfl
theorem ml65 : (ab_row 65).2.2.1 = 3 := by decide +kernel
theorem en65 : Cal 65 [.ref pr0, .int p1, .ref pr2] I J Q ↔ At 65 0 [some (.ref pr0), some (.int p1), some (.ref pr2)] [] I J Q := by unfold Cal; rw [ml65]; exact Iff.rfl
theorem ml67 : (ab_row 67).2.2.1 = 2 := by decide +kernel
theorem en67 : Cal 67 [.ref pr0, .int p1] I J Q ↔ At 67 0 [some (.ref pr0), some (.int p1)] [] I J Q := by unfold Cal; rw [ml67]; exact Iff.rfl
theorem ml68 : (ab_row 68).2.2.1 = 1 := by decide +kernel
theorem en68 : Cal 68 [.ref pr0] I J Q ↔ At 68 0 [some (.ref pr0)] [] I J Q := by unfold Cal; rw [ml68]; exact Iff.rfl
theorem ml69 : (ab_row 69).2.2.1 = 4 := by decide +kernel
theorem en69 : Cal 69 [.ref pr0, .int p1, .int p2, .int p3] I J Q ↔ At 69 0 [some (.ref pr0), some (.int p1), some (.int p2), some (.int p3)] [] I J Q := by unfold Cal; rw [ml69]; exact Iff.rfl
theorem ml70 : (ab_row 70).2.2.1 = 4 := by decide +kernel
theorem en70 : Cal 70 [.ref pr0, .ref pr1, .ref pr2] I J Q ↔ At 70 0 [some (.ref pr0), some (.ref pr1), some (.ref pr2), none] [] I J Q := by unfold Cal; rw [ml70]; exact Iff.rfl
theorem ml72 : (ab_row 72).2.2.1 = 5 := by decide +kernel
theorem en72 : Cal 72 [.ref pr0, .ref pr1, .ref pr2] I J Q ↔ At 72 0 [some (.ref pr0), some (.ref pr1), some (.ref pr2), none, none] [] I J Q := by unfold Cal; rw [ml72]; exact Iff.rfl
theorem ml73 : (ab_row 73).2.2.1 = 7 := by decide +kernel
theorem en73 : Cal 73 [.ref pr0, .ref pr1, .ref pr2] I J Q ↔ At 73 0 [some (.ref pr0), some (.ref pr1), some (.ref pr2), none, none, none, none] [] I J Q := by unfold Cal; rw [ml73]; exact Iff.rfl
theorem ml74 : (ab_row 74).2.2.1 = 4 := by decide +kernel
theorem en74 : Cal 74 [.ref pr0, .int p1, .int p2] I J Q ↔ At 74 0 [some (.ref pr0), some (.int p1), some (.int p2), none] [] I J Q := by unfold Cal; rw [ml74]; exact Iff.rfl
theorem ml76 : (ab_row 76).2.2.1 = 5 := by decide +kernel
theorem en76 : Cal 76 [.ref pr0, .int p1, .int p2, .int p3, .int p4] I J Q ↔ At 76 0 [some (.ref pr0), some (.int p1), some (.int p2), some (.int p3), some (.int p4)] [] I J Q := by unfold Cal; rw [ml76]; exact Iff.rfl
theorem ml77 : (ab_row 77).2.2.1 = 7 := by decide +kernel
theorem en77 : Cal 77 [.ref pr0, .int p1, .int p2] I J Q ↔ At 77 0 [some (.ref pr0), some (.int p1), some (.int p2), none, none, none, none] [] I J Q := by unfold Cal; rw [ml77]; exact Iff.rfl
theorem ml78 : (ab_row 78).2.2.1 = 3 := by decide +kernel
theorem en78 : Cal 78 [.ref pr0, .int p1] I J Q ↔ At 78 0 [some (.ref pr0), some (.int p1), none] [] I J Q := by unfold Cal; rw [ml78]; exact Iff.rfl
theorem ml79 : (ab_row 79).2.2.1 = 3 := by decide +kernel
theorem en79 : Cal 79 [.ref pr0, .int p1, .int p2] I J Q ↔ At 79 0 [some (.ref pr0), some (.int p1), some (.int p2)] [] I J Q := by unfold Cal; rw [ml79]; exact Iff.rfl
theorem ml80 : (ab_row 80).2.2.1 = 4 := by decide +kernel
theorem en80 : Cal 80 [.ref pr0, .int p1, .int p2] I J Q ↔ At 80 0 [some (.ref pr0), some (.int p1), some (.int p2), none] [] I J Q := by unfold Cal; rw [ml80]; exact Iff.rfl
theorem ml81 : (ab_row 81).2.2.1 = 3 := by decide +kernel
theorem en81 : Cal 81 [.ref pr0, .int p1, .int p2] I J Q ↔ At 81 0 [some (.ref pr0), some (.int p1), some (.int p2)] [] I J Q := by unfold Cal; rw [ml81]; exact Iff.rfl
theorem ml82 : (ab_row 82).2.2.1 = 3 := by decide +kernel
theorem en82 : Cal 82 [.ref pr0, .int p1, .int p2] I J Q ↔ At 82 0 [some (.ref pr0), some (.int p1), some (.int p2)] [] I J Q := by unfold Cal; rw [ml82]; exact Iff.rfl
theorem ml83 : (ab_row 83).2.2.1 = 5 := by decide +kernel
theorem en83 : Cal 83 [.ref pr0, .int p1, .int p2, .int p3] I J Q ↔ At 83 0 [some (.ref pr0), some (.int p1), some (.int p2), some (.int p3), none] [] I J Q := by unfold Cal; rw [ml83]; exact Iff.rfl
theorem ml84 : (ab_row 84).2.2.1 = 3 := by decide +kernel
theorem en84 : Cal 84 [.ref pr0, .int p1, .int p2] I J Q ↔ At 84 0 [some (.ref pr0), some (.int p1), some (.int p2)] [] I J Q := by unfold Cal; rw [ml84]; exact Iff.rfl
theorem ml85 : (ab_row 85).2.2.1 = 5 := by decide +kernel
theorem en85 : Cal 85 [.ref pr0, .int p1, .int p2] I J Q ↔ At 85 0 [some (.ref pr0), some (.int p1), some (.int p2), none, none] [] I J Q := by unfold Cal; rw [ml85]; exact Iff.rfl
theorem ml86 : (ab_row 86).2.2.1 = 2 := by decide +kernel
theorem en86 : Cal 86 [.ref pr0, .int p1] I J Q ↔ At 86 0 [some (.ref pr0), some (.int p1)] [] I J Q := by unfold Cal; rw [ml86]; exact Iff.rfl
theorem ml87 : (ab_row 87).2.2.1 = 1 := by decide +kernel
theorem en87 : Cal 87 [.ref pr0] I J Q ↔ At 87 0 [some (.ref pr0)] [] I J Q := by unfold Cal; rw [ml87]; exact Iff.rfl
theorem ml88 : (ab_row 88).2.2.1 = 1 := by decide +kernel
theorem en88 : Cal 88 [.ref pr0] I J Q ↔ At 88 0 [some (.ref pr0)] [] I J Q := by unfold Cal; rw [ml88]; exact Iff.rfl
theorem ml89 : (ab_row 89).2.2.1 = 2 := by decide +kernel
theorem en89 : Cal 89 [.ref pr0, .int p1] I J Q ↔ At 89 0 [some (.ref pr0), some (.int p1)] [] I J Q := by unfold Cal; rw [ml89]; exact Iff.rfl
theorem ml90 : (ab_row 90).2.2.1 = 4 := by decide +kernel
theorem en90 : Cal 90 [.ref pr0, .int p1] I J Q ↔ At 90 0 [some (.ref pr0), some (.int p1), none, none] [] I J Q := by unfold Cal; rw [ml90]; exact Iff.rfl
theorem ml91 : (ab_row 91).2.2.1 = 5 := by decide +kernel
theorem en91 : Cal 91 [.ref pr0, .int p1, .int p2] I J Q ↔ At 91 0 [some (.ref pr0), some (.int p1), some (.int p2), none, none] [] I J Q := by unfold Cal; rw [ml91]; exact Iff.rfl
theorem ml92 : (ab_row 92).2.2.1 = 4 := by decide +kernel
theorem en92 : Cal 92 [.ref pr0, .int p1, .int p2, .int p3] I J Q ↔ At 92 0 [some (.ref pr0), some (.int p1), some (.int p2), some (.int p3)] [] I J Q := by unfold Cal; rw [ml92]; exact Iff.rfl
theorem ml93 : (ab_row 93).2.2.1 = 2 := by decide +kernel
theorem en93 : Cal 93 [.ref pr0, .int p1] I J Q ↔ At 93 0 [some (.ref pr0), some (.int p1)] [] I J Q := by unfold Cal; rw [ml93]; exact Iff.rfl
theorem ml94 : (ab_row 94).2.2.1 = 2 := by decide +kernel
theorem en94 : Cal 94 [.ref pr0, .int p1] I J Q ↔ At 94 0 [some (.ref pr0), some (.int p1)] [] I J Q := by unfold Cal; rw [ml94]; exact Iff.rfl
theorem ml95 : (ab_row 95).2.2.1 = 3 := by decide +kernel
theorem en95 : Cal 95 [.ref pr0, .int p1, .int p2] I J Q ↔ At 95 0 [some (.ref pr0), some (.int p1), some (.int p2)] [] I J Q := by unfold Cal; rw [ml95]; exact Iff.rfl
theorem ml96 : (ab_row 96).2.2.1 = 4 := by decide +kernel
theorem en96 : Cal 96 [.ref pr0, .int p1, .int p2] I J Q ↔ At 96 0 [some (.ref pr0), some (.int p1), some (.int p2), none] [] I J Q := by unfold Cal; rw [ml96]; exact Iff.rfl
theorem ml97 : (ab_row 97).2.2.1 = 2 := by decide +kernel
theorem en97 : Cal 97 [.ref pr0, .int p1] I J Q ↔ At 97 0 [some (.ref pr0), some (.int p1)] [] I J Q := by unfold Cal; rw [ml97]; exact Iff.rfl
theorem ml98 : (ab_row 98).2.2.1 = 4 := by decide +kernel
theorem en98 : Cal 98 [.ref pr0, .int p1, .int p2] I J Q ↔ At 98 0 [some (.ref pr0), some (.int p1), some (.int p2), none] [] I J Q := by unfold Cal; rw [ml98]; exact Iff.rfl
theorem ml99 : (ab_row 99).2.2.1 = 4 := by decide +kernel
theorem en99 : Cal 99 [.ref pr0, .int p1, .int p2, .int p3] I J Q ↔ At 99 0 [some (.ref pr0), some (.int p1), some (.int p2), some (.int p3)] [] I J Q := by unfold Cal; rw [ml99]; exact Iff.rfl
theorem ml100 : (ab_row 100).2.2.1 = 5 := by decide +kernel
theorem en100 : Cal 100 [.ref pr0] I J Q ↔ At 100 0 [some (.ref pr0), none, none, none, none] [] I J Q := by unfold Cal; rw [ml100]; exact Iff.rfl
theorem ml101 : (ab_row 101).2.2.1 = 5 := by decide +kernel
theorem en101 : Cal 101 [.ref pr0, .int p1, .int p2, .int p3] I J Q ↔ At 101 0 [some (.ref pr0), some (.int p1), some (.int p2), some (.int p3), none] [] I J Q := by unfold Cal; rw [ml101]; exact Iff.rfl
theorem ml102 : (ab_row 102).2.2.1 = 4 := by decide +kernel
theorem en102 : Cal 102 [.ref pr0, .int p1, .int p2, .int p3] I J Q ↔ At 102 0 [some (.ref pr0), some (.int p1), some (.int p2), some (.int p3)] [] I J Q := by unfold Cal; rw [ml102]; exact Iff.rfl
theorem ml103 : (ab_row 103).2.2.1 = 3 := by decide +kernel
theorem en103 : Cal 103 [.ref pr0, .int p1] I J Q ↔ At 103 0 [some (.ref pr0), some (.int p1), none] [] I J Q := by unfold Cal; rw [ml103]; exact Iff.rfl
theorem ml104 : (ab_row 104).2.2.1 = 6 := by decide +kernel
theorem en104 : Cal 104 [.ref pr0, .int p1, .int p2, .int p3, .int p4] I J Q ↔ At 104 0 [some (.ref pr0), some (.int p1), some (.int p2), some (.int p3), some (.int p4), none] [] I J Q := by unfold Cal; rw [ml104]; exact Iff.rfl
theorem ml105 : (ab_row 105).2.2.1 = 5 := by decide +kernel
theorem en105 : Cal 105 [.ref pr0, .int p1, .int p2, .int p3] I J Q ↔ At 105 0 [some (.ref pr0), some (.int p1), some (.int p2), some (.int p3), none] [] I J Q := by unfold Cal; rw [ml105]; exact Iff.rfl
theorem ml106 : (ab_row 106).2.2.1 = 6 := by decide +kernel
theorem en106 : Cal 106 [.ref pr0, .int p1, .int p2, .int p3, .int p4, .int p5] I J Q ↔ At 106 0 [some (.ref pr0), some (.int p1), some (.int p2), some (.int p3), some (.int p4), some (.int p5)] [] I J Q := by unfold Cal; rw [ml106]; exact Iff.rfl
theorem ml107 : (ab_row 107).2.2.1 = 5 := by decide +kernel
theorem en107 : Cal 107 [.ref pr0, .int p1, .int p2] I J Q ↔ At 107 0 [some (.ref pr0), some (.int p1), some (.int p2), none, none] [] I J Q := by unfold Cal; rw [ml107]; exact Iff.rfl
theorem ml108 : (ab_row 108).2.2.1 = 2 := by decide +kernel
theorem en108 : Cal 108 [.ref pr0, .int p1] I J Q ↔ At 108 0 [some (.ref pr0), some (.int p1)] [] I J Q := by unfold Cal; rw [ml108]; exact Iff.rfl
theorem ml109 : (ab_row 109).2.2.1 = 5 := by decide +kernel
theorem en109 : Cal 109 [.ref pr0] I J Q ↔ At 109 0 [some (.ref pr0), none, none, none, none] [] I J Q := by unfold Cal; rw [ml109]; exact Iff.rfl
theorem ml110 : (ab_row 110).2.2.1 = 1 := by decide +kernel
theorem en110 : Cal 110 [.ref pr0] I J Q ↔ At 110 0 [some (.ref pr0)] [] I J Q := by unfold Cal; rw [ml110]; exact Iff.rfl
theorem ml111 : (ab_row 111).2.2.1 = 2 := by decide +kernel
theorem en111 : Cal 111 [.ref pr0, .int p1] I J Q ↔ At 111 0 [some (.ref pr0), some (.int p1)] [] I J Q := by unfold Cal; rw [ml111]; exact Iff.rfl
theorem ml112 : (ab_row 112).2.2.1 = 3 := by decide +kernel
theorem en112 : Cal 112 [.ref pr0, .int p1, .int p2] I J Q ↔ At 112 0 [some (.ref pr0), some (.int p1), some (.int p2)] [] I J Q := by unfold Cal; rw [ml112]; exact Iff.rfl
theorem ml113 : (ab_row 113).2.2.1 = 4 := by decide +kernel
theorem en113 : Cal 113 [.ref pr0, .int p1, .int p2, .int p3] I J Q ↔ At 113 0 [some (.ref pr0), some (.int p1), some (.int p2), some (.int p3)] [] I J Q := by unfold Cal; rw [ml113]; exact Iff.rfl
theorem ml114 : (ab_row 114).2.2.1 = 8 := by decide +kernel
theorem en114 : Cal 114 [.ref pr0, .int p1, .int p2] I J Q ↔ At 114 0 [some (.ref pr0), some (.int p1), some (.int p2), none, none, none, none, none] [] I J Q := by unfold Cal; rw [ml114]; exact Iff.rfl
theorem ml115 : (ab_row 115).2.2.1 = 5 := by decide +kernel
theorem en115 : Cal 115 [.ref pr0, .int p1, .int p2] I J Q ↔ At 115 0 [some (.ref pr0), some (.int p1), some (.int p2), none, none] [] I J Q := by unfold Cal; rw [ml115]; exact Iff.rfl
theorem ml116 : (ab_row 116).2.2.1 = 1 := by decide +kernel
theorem en116 : Cal 116 [.int p0] I J Q ↔ At 116 0 [some (.int p0)] [] I J Q := by unfold Cal; rw [ml116]; exact Iff.rfl
theorem ml117 : (ab_row 117).2.2.1 = 1 := by decide +kernel
theorem en117 : Cal 117 [.int p0] I J Q ↔ At 117 0 [some (.int p0)] [] I J Q := by unfold Cal; rw [ml117]; exact Iff.rfl
theorem ml118 : (ab_row 118).2.2.1 = 1 := by decide +kernel
theorem en118 : Cal 118 [.int p0] I J Q ↔ At 118 0 [some (.int p0)] [] I J Q := by unfold Cal; rw [ml118]; exact Iff.rfl
theorem ml119 : (ab_row 119).2.2.1 = 1 := by decide +kernel
theorem en119 : Cal 119 [.int p0] I J Q ↔ At 119 0 [some (.int p0)] [] I J Q := by unfold Cal; rw [ml119]; exact Iff.rfl
theorem ml120 : (ab_row 120).2.2.1 = 1 := by decide +kernel
theorem en120 : Cal 120 [.int p0] I J Q ↔ At 120 0 [some (.int p0)] [] I J Q := by unfold Cal; rw [ml120]; exact Iff.rfl
theorem ml121 : (ab_row 121).2.2.1 = 1 := by decide +kernel
theorem en121 : Cal 121 [.int p0] I J Q ↔ At 121 0 [some (.int p0)] [] I J Q := by unfold Cal; rw [ml121]; exact Iff.rfl
theorem ml122 : (ab_row 122).2.2.1 = 7 := by decide +kernel
theorem en122 : Cal 122 [.long pu0, .long pu1, .int p2] I J Q ↔ At 122 0 [some (.long pu0), none, some (.long pu1), none, some (.int p2), none, none] [] I J Q := by unfold Cal; rw [ml122]; exact Iff.rfl
theorem ml123 : (ab_row 123).2.2.1 = 11 := by decide +kernel
theorem en123 : Cal 123 [.long pu0, .long pu1] I J Q ↔ At 123 0 [some (.long pu0), none, some (.long pu1), none, none, none, none, none, none, none, none] [] I J Q := by unfold Cal; rw [ml123]; exact Iff.rfl
theorem ml124 : (ab_row 124).2.2.1 = 2 := by decide +kernel
theorem en124 : Cal 124 [.int p0] I J Q ↔ At 124 0 [some (.int p0), none] [] I J Q := by unfold Cal; rw [ml124]; exact Iff.rfl
theorem ml126 : (ab_row 126).2.2.1 = 3 := by decide +kernel
theorem en126 : Cal 126 [.int p0, .int p1, .int p2] I J Q ↔ At 126 0 [some (.int p0), some (.int p1), some (.int p2)] [] I J Q := by unfold Cal; rw [ml126]; exact Iff.rfl
theorem ml127 : (ab_row 127).2.2.1 = 1 := by decide +kernel
theorem en127 : Cal 127 [.int p0] I J Q ↔ At 127 0 [some (.int p0)] [] I J Q := by unfold Cal; rw [ml127]; exact Iff.rfl
theorem ml128 : (ab_row 128).2.2.1 = 2 := by decide +kernel
theorem en128 : Cal 128 [.long pu0] I J Q ↔ At 128 0 [some (.long pu0), none] [] I J Q := by unfold Cal; rw [ml128]; exact Iff.rfl
theorem ml129 : (ab_row 129).2.2.1 = 10 := by decide +kernel
theorem en129 : Cal 129 [.long pu0, .long pu1] I J Q ↔ At 129 0 [some (.long pu0), none, some (.long pu1), none, none, none, none, none, none, none] [] I J Q := by unfold Cal; rw [ml129]; exact Iff.rfl
theorem ml130 : (ab_row 130).2.2.1 = 7 := by decide +kernel
theorem en130 : Cal 130 [.long pu0, .long pu1, .int p2] I J Q ↔ At 130 0 [some (.long pu0), none, some (.long pu1), none, some (.int p2), none, none] [] I J Q := by unfold Cal; rw [ml130]; exact Iff.rfl
theorem ml131 : (ab_row 131).2.2.1 = 1 := by decide +kernel
theorem en131 : Cal 131 [.int p0] I J Q ↔ At 131 0 [some (.int p0)] [] I J Q := by unfold Cal; rw [ml131]; exact Iff.rfl
theorem ml132 : (ab_row 132).2.2.1 = 1 := by decide +kernel
theorem en132 : Cal 132 [.int p0] I J Q ↔ At 132 0 [some (.int p0)] [] I J Q := by unfold Cal; rw [ml132]; exact Iff.rfl
theorem ml133 : (ab_row 133).2.2.1 = 1 := by decide +kernel
theorem en133 : Cal 133 [.ref pr0] I J Q ↔ At 133 0 [some (.ref pr0)] [] I J Q := by unfold Cal; rw [ml133]; exact Iff.rfl
theorem ml134 : (ab_row 134).2.2.1 = 5 := by decide +kernel
theorem en134 : Cal 134 [.ref pr0, .int p1, .int p2, .int p3, .int p4] I J Q ↔ At 134 0 [some (.ref pr0), some (.int p1), some (.int p2), some (.int p3), some (.int p4)] [] I J Q := by unfold Cal; rw [ml134]; exact Iff.rfl
theorem ml135 : (ab_row 135).2.2.1 = 5 := by decide +kernel
theorem en135 : Cal 135 [.ref pr0, .int p1, .int p2, .int p3, .int p4] I J Q ↔ At 135 0 [some (.ref pr0), some (.int p1), some (.int p2), some (.int p3), some (.int p4)] [] I J Q := by unfold Cal; rw [ml135]; exact Iff.rfl
theorem ml136 : (ab_row 136).2.2.1 = 4 := by decide +kernel
theorem en136 : Cal 136 [.ref pr0, .int p1, .int p2] I J Q ↔ At 136 0 [some (.ref pr0), some (.int p1), some (.int p2), none] [] I J Q := by unfold Cal; rw [ml136]; exact Iff.rfl
theorem ml137 : (ab_row 137).2.2.1 = 3 := by decide +kernel
theorem en137 : Cal 137 [.ref pr0, .int p1] I J Q ↔ At 137 0 [some (.ref pr0), some (.int p1), none] [] I J Q := by unfold Cal; rw [ml137]; exact Iff.rfl
theorem ml138 : (ab_row 138).2.2.1 = 2 := by decide +kernel
theorem en138 : Cal 138 [.ref pr0] I J Q ↔ At 138 0 [some (.ref pr0), none] [] I J Q := by unfold Cal; rw [ml138]; exact Iff.rfl
theorem ml139 : (ab_row 139).2.2.1 = 6 := by decide +kernel
theorem en139 : Cal 139 [.ref pr0] I J Q ↔ At 139 0 [some (.ref pr0), none, none, none, none, none] [] I J Q := by unfold Cal; rw [ml139]; exact Iff.rfl
theorem ml140 : (ab_row 140).2.2.1 = 3 := by decide +kernel
theorem en140 : Cal 140 [.ref pr0, .int p1, .int p2] I J Q ↔ At 140 0 [some (.ref pr0), some (.int p1), some (.int p2)] [] I J Q := by unfold Cal; rw [ml140]; exact Iff.rfl
theorem ml141 : (ab_row 141).2.2.1 = 3 := by decide +kernel
theorem en141 : Cal 141 [.ref pr0, .int p1, .int p2] I J Q ↔ At 141 0 [some (.ref pr0), some (.int p1), some (.int p2)] [] I J Q := by unfold Cal; rw [ml141]; exact Iff.rfl
theorem ml142 : (ab_row 142).2.2.1 = 3 := by decide +kernel
theorem en142 : Cal 142 [.ref pr0, .int p1, .int p2] I J Q ↔ At 142 0 [some (.ref pr0), some (.int p1), some (.int p2)] [] I J Q := by unfold Cal; rw [ml142]; exact Iff.rfl
theorem ml143 : (ab_row 143).2.2.1 = 4 := by decide +kernel
theorem en143 : Cal 143 [.ref pr0, .int p1] I J Q ↔ At 143 0 [some (.ref pr0), some (.int p1), none, none] [] I J Q := by unfold Cal; rw [ml143]; exact Iff.rfl
theorem ml144 : (ab_row 144).2.2.1 = 7 := by decide +kernel
theorem en144 : Cal 144 [.ref pr0, .int p1] I J Q ↔ At 144 0 [some (.ref pr0), some (.int p1), none, none, none, none, none] [] I J Q := by unfold Cal; rw [ml144]; exact Iff.rfl
theorem ml145 : (ab_row 145).2.2.1 = 8 := by decide +kernel
theorem en145 : Cal 145 [.ref pr0, .int p1] I J Q ↔ At 145 0 [some (.ref pr0), some (.int p1), none, none, none, none, none, none] [] I J Q := by unfold Cal; rw [ml145]; exact Iff.rfl
theorem ml146 : (ab_row 146).2.2.1 = 7 := by decide +kernel
theorem en146 : Cal 146 [.ref pr0, .int p1] I J Q ↔ At 146 0 [some (.ref pr0), some (.int p1), none, none, none, none, none] [] I J Q := by unfold Cal; rw [ml146]; exact Iff.rfl
theorem ml147 : (ab_row 147).2.2.1 = 4 := by decide +kernel
theorem en147 : Cal 147 [.ref pr0, .int p1] I J Q ↔ At 147 0 [some (.ref pr0), some (.int p1), none, none] [] I J Q := by unfold Cal; rw [ml147]; exact Iff.rfl
theorem ml148 : (ab_row 148).2.2.1 = 3 := by decide +kernel
theorem en148 : Cal 148 [.ref pr0, .int p1, .int p2] I J Q ↔ At 148 0 [some (.ref pr0), some (.int p1), some (.int p2)] [] I J Q := by unfold Cal; rw [ml148]; exact Iff.rfl
theorem ml149 : (ab_row 149).2.2.1 = 4 := by decide +kernel
theorem en149 : Cal 149 [.ref pr0, .int p1, .int p2] I J Q ↔ At 149 0 [some (.ref pr0), some (.int p1), some (.int p2), none] [] I J Q := by unfold Cal; rw [ml149]; exact Iff.rfl
theorem ml150 : (ab_row 150).2.2.1 = 3 := by decide +kernel
theorem en150 : Cal 150 [.ref pr0, .int p1, .int p2] I J Q ↔ At 150 0 [some (.ref pr0), some (.int p1), some (.int p2)] [] I J Q := by unfold Cal; rw [ml150]; exact Iff.rfl
theorem ml151 : (ab_row 151).2.2.1 = 4 := by decide +kernel
theorem en151 : Cal 151 [.ref pr0, .int p1, .int p2] I J Q ↔ At 151 0 [some (.ref pr0), some (.int p1), some (.int p2), none] [] I J Q := by unfold Cal; rw [ml151]; exact Iff.rfl
theorem ml152 : (ab_row 152).2.2.1 = 3 := by decide +kernel
theorem en152 : Cal 152 [.ref pr0, .int p1, .int p2] I J Q ↔ At 152 0 [some (.ref pr0), some (.int p1), some (.int p2)] [] I J Q := by unfold Cal; rw [ml152]; exact Iff.rfl
theorem ml153 : (ab_row 153).2.2.1 = 4 := by decide +kernel
theorem en153 : Cal 153 [.ref pr0, .int p1, .int p2, .int p3] I J Q ↔ At 153 0 [some (.ref pr0), some (.int p1), some (.int p2), some (.int p3)] [] I J Q := by unfold Cal; rw [ml153]; exact Iff.rfl
theorem ml154 : (ab_row 154).2.2.1 = 2 := by decide +kernel
theorem en154 : Cal 154 [.ref pr0, .int p1] I J Q ↔ At 154 0 [some (.ref pr0), some (.int p1)] [] I J Q := by unfold Cal; rw [ml154]; exact Iff.rfl
theorem ml155 : (ab_row 155).2.2.1 = 5 := by decide +kernel
theorem en155 : Cal 155 [.ref pr0, .int p1] I J Q ↔ At 155 0 [some (.ref pr0), some (.int p1), none, none, none] [] I J Q := by unfold Cal; rw [ml155]; exact Iff.rfl
theorem ml156 : (ab_row 156).2.2.1 = 3 := by decide +kernel
theorem en156 : Cal 156 [.ref pr0, .int p1, .int p2] I J Q ↔ At 156 0 [some (.ref pr0), some (.int p1), some (.int p2)] [] I J Q := by unfold Cal; rw [ml156]; exact Iff.rfl
theorem ml157 : (ab_row 157).2.2.1 = 7 := by decide +kernel
theorem en157 : Cal 157 [.ref pr0, .int p1, .int p2] I J Q ↔ At 157 0 [some (.ref pr0), some (.int p1), some (.int p2), none, none, none, none] [] I J Q := by unfold Cal; rw [ml157]; exact Iff.rfl
theorem ml158 : (ab_row 158).2.2.1 = 2 := by decide +kernel
theorem en158 : Cal 158 [.ref pr0, .int p1] I J Q ↔ At 158 0 [some (.ref pr0), some (.int p1)] [] I J Q := by unfold Cal; rw [ml158]; exact Iff.rfl
theorem ml159 : (ab_row 159).2.2.1 = 2 := by decide +kernel
theorem en159 : Cal 159 [.ref pr0] I J Q ↔ At 159 0 [some (.ref pr0), none] [] I J Q := by unfold Cal; rw [ml159]; exact Iff.rfl
theorem ml160 : (ab_row 160).2.2.1 = 1 := by decide +kernel
theorem en160 : Cal 160 [.ref pr0] I J Q ↔ At 160 0 [some (.ref pr0)] [] I J Q := by unfold Cal; rw [ml160]; exact Iff.rfl
theorem ml161 : (ab_row 161).2.2.1 = 1 := by decide +kernel
theorem en161 : Cal 161 [.ref pr0] I J Q ↔ At 161 0 [some (.ref pr0)] [] I J Q := by unfold Cal; rw [ml161]; exact Iff.rfl
theorem ml162 : (ab_row 162).2.2.1 = 5 := by decide +kernel
theorem en162 : Cal 162 [.ref pr0] I J Q ↔ At 162 0 [some (.ref pr0), none, none, none, none] [] I J Q := by unfold Cal; rw [ml162]; exact Iff.rfl
theorem ml163 : (ab_row 163).2.2.1 = 1 := by decide +kernel
theorem en163 : Cal 163 [.ref pr0] I J Q ↔ At 163 0 [some (.ref pr0)] [] I J Q := by unfold Cal; rw [ml163]; exact Iff.rfl
theorem ml164 : (ab_row 164).2.2.1 = 1 := by decide +kernel
theorem en164 : Cal 164 [.ref pr0] I J Q ↔ At 164 0 [some (.ref pr0)] [] I J Q := by unfold Cal; rw [ml164]; exact Iff.rfl
theorem ml165 : (ab_row 165).2.2.1 = 7 := by decide +kernel
theorem en165 : Cal 165 [.ref pr0, .long pu1, .long pu2, .int p3] I J Q ↔ At 165 0 [some (.ref pr0), some (.long pu1), none, some (.long pu2), none, some (.int p3), none] [] I J Q := by unfold Cal; rw [ml165]; exact Iff.rfl
theorem ml166 : (ab_row 166).2.2.1 = 2 := by decide +kernel
theorem en166 : Cal 166 [.ref pr0, .int p1] I J Q ↔ At 166 0 [some (.ref pr0), some (.int p1)] [] I J Q := by unfold Cal; rw [ml166]; exact Iff.rfl
theorem ml167 : (ab_row 167).2.2.1 = 2 := by decide +kernel
theorem en167 : Cal 167 [.ref pr0, .int p1] I J Q ↔ At 167 0 [some (.ref pr0), some (.int p1)] [] I J Q := by unfold Cal; rw [ml167]; exact Iff.rfl
theorem ml168 : (ab_row 168).2.2.1 = 2 := by decide +kernel
theorem en168 : Cal 168 [.ref pr0, .int p1] I J Q ↔ At 168 0 [some (.ref pr0), some (.int p1)] [] I J Q := by unfold Cal; rw [ml168]; exact Iff.rfl
theorem ml169 : (ab_row 169).2.2.1 = 5 := by decide +kernel
theorem en169 : Cal 169 [.ref pr0, .int p1, .int p2] I J Q ↔ At 169 0 [some (.ref pr0), some (.int p1), some (.int p2), none, none] [] I J Q := by unfold Cal; rw [ml169]; exact Iff.rfl
theorem ml170 : (ab_row 170).2.2.1 = 13 := by decide +kernel
theorem en170 : Cal 170 [.ref pr0, .int p1, .int p2] I J Q ↔ At 170 0 [some (.ref pr0), some (.int p1), some (.int p2), none, none, none, none, none, none, none, none, none, none] [] I J Q := by unfold Cal; rw [ml170]; exact Iff.rfl
theorem ml171 : (ab_row 171).2.2.1 = 4 := by decide +kernel
theorem en171 : Cal 171 [.ref pr0, .int p1, .int p2, .int p3] I J Q ↔ At 171 0 [some (.ref pr0), some (.int p1), some (.int p2), some (.int p3)] [] I J Q := by unfold Cal; rw [ml171]; exact Iff.rfl
theorem ml172 : (ab_row 172).2.2.1 = 3 := by decide +kernel
theorem en172 : Cal 172 [.ref pr0] I J Q ↔ At 172 0 [some (.ref pr0), none, none] [] I J Q := by unfold Cal; rw [ml172]; exact Iff.rfl
theorem ml173 : (ab_row 173).2.2.1 = 2 := by decide +kernel
theorem en173 : Cal 173 [.ref pr0, .int p1] I J Q ↔ At 173 0 [some (.ref pr0), some (.int p1)] [] I J Q := by unfold Cal; rw [ml173]; exact Iff.rfl
theorem ml174 : (ab_row 174).2.2.1 = 2 := by decide +kernel
theorem en174 : Cal 174 [.ref pr0, .int p1] I J Q ↔ At 174 0 [some (.ref pr0), some (.int p1)] [] I J Q := by unfold Cal; rw [ml174]; exact Iff.rfl
theorem ml175 : (ab_row 175).2.2.1 = 8 := by decide +kernel
theorem en175 : Cal 175 [.ref pr0, .int p1] I J Q ↔ At 175 0 [some (.ref pr0), some (.int p1), none, none, none, none, none, none] [] I J Q := by unfold Cal; rw [ml175]; exact Iff.rfl
theorem ml176 : (ab_row 176).2.2.1 = 4 := by decide +kernel
theorem en176 : Cal 176 [.ref pr0, .int p1] I J Q ↔ At 176 0 [some (.ref pr0), some (.int p1), none, none] [] I J Q := by unfold Cal; rw [ml176]; exact Iff.rfl
theorem ml177 : (ab_row 177).2.2.1 = 3 := by decide +kernel
theorem en177 : Cal 177 [.ref pr0, .int p1, .int p2] I J Q ↔ At 177 0 [some (.ref pr0), some (.int p1), some (.int p2)] [] I J Q := by unfold Cal; rw [ml177]; exact Iff.rfl
theorem ml178 : (ab_row 178).2.2.1 = 4 := by decide +kernel
theorem en178 : Cal 178 [.ref pr0, .int p1, .int p2] I J Q ↔ At 178 0 [some (.ref pr0), some (.int p1), some (.int p2), none] [] I J Q := by unfold Cal; rw [ml178]; exact Iff.rfl
theorem ml179 : (ab_row 179).2.2.1 = 9 := by decide +kernel
theorem en179 : Cal 179 [.ref pr0, .int p1] I J Q ↔ At 179 0 [some (.ref pr0), some (.int p1), none, none, none, none, none, none, none] [] I J Q := by unfold Cal; rw [ml179]; exact Iff.rfl
theorem ml180 : (ab_row 180).2.2.1 = 10 := by decide +kernel
theorem en180 : Cal 180 [.ref pr0, .int p1, .int p2] I J Q ↔ At 180 0 [some (.ref pr0), some (.int p1), some (.int p2), none, none, none, none, none, none, none] [] I J Q := by unfold Cal; rw [ml180]; exact Iff.rfl
theorem ml181 : (ab_row 181).2.2.1 = 1 := by decide +kernel
theorem en181 : Cal 181 [.int p0] I J Q ↔ At 181 0 [some (.int p0)] [] I J Q := by unfold Cal; rw [ml181]; exact Iff.rfl
theorem ml182 : (ab_row 182).2.2.1 = 4 := by decide +kernel
theorem en182 : Cal 182 [.ref pr0] I J Q ↔ At 182 0 [some (.ref pr0), none, none, none] [] I J Q := by unfold Cal; rw [ml182]; exact Iff.rfl
theorem ml183 : (ab_row 183).2.2.1 = 6 := by decide +kernel
theorem en183 : Cal 183 [.ref pr0] I J Q ↔ At 183 0 [some (.ref pr0), none, none, none, none, none] [] I J Q := by unfold Cal; rw [ml183]; exact Iff.rfl
theorem ml184 : (ab_row 184).2.2.1 = 10 := by decide +kernel
theorem en184 : Cal 184 [.ref pr0, .int p1, .int p2, .int p3] I J Q ↔ At 184 0 [some (.ref pr0), some (.int p1), some (.int p2), some (.int p3), none, none, none, none, none, none] [] I J Q := by unfold Cal; rw [ml184]; exact Iff.rfl
theorem ml185 : (ab_row 185).2.2.1 = 11 := by decide +kernel
theorem en185 : Cal 185 [.ref pr0] I J Q ↔ At 185 0 [some (.ref pr0), none, none, none, none, none, none, none, none, none, none] [] I J Q := by unfold Cal; rw [ml185]; exact Iff.rfl
theorem ml186 : (ab_row 186).2.2.1 = 1 := by decide +kernel
theorem en186 : Cal 186 [.ref pr0] I J Q ↔ At 186 0 [some (.ref pr0)] [] I J Q := by unfold Cal; rw [ml186]; exact Iff.rfl
theorem ml187 : (ab_row 187).2.2.1 = 20 := by decide +kernel
theorem en187 : Cal 187 [.ref pr0, .int p1, .int p2, .int p3] I J Q ↔ At 187 0 [some (.ref pr0), some (.int p1), some (.int p2), some (.int p3), none, none, none, none, none, none, none, none, none, none, none, none, none, none, none, none] [] I J Q := by unfold Cal; rw [ml187]; exact Iff.rfl
theorem ml188 : (ab_row 188).2.2.1 = 2 := by decide +kernel
theorem en188 : Cal 188 [.ref pr0, .int p1] I J Q ↔ At 188 0 [some (.ref pr0), some (.int p1)] [] I J Q := by unfold Cal; rw [ml188]; exact Iff.rfl
theorem ml189 : (ab_row 189).2.2.1 = 1 := by decide +kernel
theorem en189 : Cal 189 [.int p0] I J Q ↔ At 189 0 [some (.int p0)] [] I J Q := by unfold Cal; rw [ml189]; exact Iff.rfl
theorem ml190 : (ab_row 190).2.2.1 = 5 := by decide +kernel
theorem en190 : Cal 190 [.ref pr0, .int p1, .int p2, .int p3] I J Q ↔ At 190 0 [some (.ref pr0), some (.int p1), some (.int p2), some (.int p3), none] [] I J Q := by unfold Cal; rw [ml190]; exact Iff.rfl
theorem ml191 : (ab_row 191).2.2.1 = 2 := by decide +kernel
theorem en191 : Cal 191 [.ref pr0, .int p1] I J Q ↔ At 191 0 [some (.ref pr0), some (.int p1)] [] I J Q := by unfold Cal; rw [ml191]; exact Iff.rfl
theorem ml192 : (ab_row 192).2.2.1 = 4 := by decide +kernel
theorem en192 : Cal 192 [.ref pr0, .int p1, .int p2, .int p3] I J Q ↔ At 192 0 [some (.ref pr0), some (.int p1), some (.int p2), some (.int p3)] [] I J Q := by unfold Cal; rw [ml192]; exact Iff.rfl
theorem ml193 : (ab_row 193).2.2.1 = 4 := by decide +kernel
theorem en193 : Cal 193 [.ref pr0, .int p1, .int p2, .int p3] I J Q ↔ At 193 0 [some (.ref pr0), some (.int p1), some (.int p2), some (.int p3)] [] I J Q := by unfold Cal; rw [ml193]; exact Iff.rfl
theorem ml194 : (ab_row 194).2.2.1 = 6 := by decide +kernel
theorem en194 : Cal 194 [.ref pr0, .int p1, .int p2, .int p3, .int p4] I J Q ↔ At 194 0 [some (.ref pr0), some (.int p1), some (.int p2), some (.int p3), some (.int p4), none] [] I J Q := by unfold Cal; rw [ml194]; exact Iff.rfl
theorem ml195 : (ab_row 195).2.2.1 = 5 := by decide +kernel
theorem en195 : Cal 195 [.ref pr0, .int p1, .int p2, .int p3] I J Q ↔ At 195 0 [some (.ref pr0), some (.int p1), some (.int p2), some (.int p3), none] [] I J Q := by unfold Cal; rw [ml195]; exact Iff.rfl
theorem ml196 : (ab_row 196).2.2.1 = 7 := by decide +kernel
theorem en196 : Cal 196 [.ref pr0, .int p1, .int p2, .int p3, .int p4, .int p5] I J Q ↔ At 196 0 [some (.ref pr0), some (.int p1), some (.int p2), some (.int p3), some (.int p4), some (.int p5), none] [] I J Q := by unfold Cal; rw [ml196]; exact Iff.rfl
theorem ml197 : (ab_row 197).2.2.1 = 4 := by decide +kernel
theorem en197 : Cal 197 [.ref pr0, .int p1, .int p2] I J Q ↔ At 197 0 [some (.ref pr0), some (.int p1), some (.int p2), none] [] I J Q := by unfold Cal; rw [ml197]; exact Iff.rfl
theorem ml198 : (ab_row 198).2.2.1 = 5 := by decide +kernel
theorem en198 : Cal 198 [.ref pr0, .int p1] I J Q ↔ At 198 0 [some (.ref pr0), some (.int p1), none, none, none] [] I J Q := by unfold Cal; rw [ml198]; exact Iff.rfl
theorem ml199 : (ab_row 199).2.2.1 = 3 := by decide +kernel
theorem en199 : Cal 199 [.ref pr0] I J Q ↔ At 199 0 [some (.ref pr0), none, none] [] I J Q := by unfold Cal; rw [ml199]; exact Iff.rfl
theorem ml200 : (ab_row 200).2.2.1 = 2 := by decide +kernel
theorem en200 : Cal 200 [.ref pr0, .int p1] I J Q ↔ At 200 0 [some (.ref pr0), some (.int p1)] [] I J Q := by unfold Cal; rw [ml200]; exact Iff.rfl
theorem ml201 : (ab_row 201).2.2.1 = 5 := by decide +kernel
theorem en201 : Cal 201 [.ref pr0] I J Q ↔ At 201 0 [some (.ref pr0), none, none, none, none] [] I J Q := by unfold Cal; rw [ml201]; exact Iff.rfl
theorem ml202 : (ab_row 202).2.2.1 = 1 := by decide +kernel
theorem en202 : Cal 202 [.int p0] I J Q ↔ At 202 0 [some (.int p0)] [] I J Q := by unfold Cal; rw [ml202]; exact Iff.rfl
end KROWS
