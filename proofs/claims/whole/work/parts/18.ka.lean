theorem bc_m10 : (Int8.ofInt (-10)).toInt32 = (-10) := by decide
theorem bc_m4 : (Int8.ofInt (-4)).toInt32 = (-4) := by decide
theorem bc_m3 : (Int8.ofInt (-3)).toInt32 = (-3) := by decide
theorem bc_m2 : (Int8.ofInt (-2)).toInt32 = (-2) := by decide
theorem bc_6 : (Int8.ofInt 6).toInt32 = (nI 6) := by decide
theorem bc_7 : (Int8.ofInt 7).toInt32 = (nI 7) := by decide
theorem bc_8 : (Int8.ofInt 8).toInt32 = (nI 8) := by decide
theorem bc_10 : (Int8.ofInt 10).toInt32 = (nI 10) := by decide
theorem bc_11 : (Int8.ofInt 11).toInt32 = (nI 11) := by decide
theorem bc_12 : (Int8.ofInt 12).toInt32 = (nI 12) := by decide
theorem bc_16 : (Int8.ofInt 16).toInt32 = (nI 16) := by decide
theorem bc_46 : (Int8.ofInt 46).toInt32 = (nI 46) := by decide
theorem bc_48 : (Int8.ofInt 48).toInt32 = (nI 48) := by decide
theorem bc_57 : (Int8.ofInt 57).toInt32 = (nI 57) := by decide
theorem bc_59 : (Int8.ofInt 59).toInt32 = (nI 59) := by decide
theorem bc_60 : (Int8.ofInt 60).toInt32 = (nI 60) := by decide
theorem bc_61 : (Int8.ofInt 61).toInt32 = (nI 61) := by decide
theorem bc_63 : (Int8.ofInt 63).toInt32 = (nI 63) := by decide
theorem bc_65 : (Int8.ofInt 65).toInt32 = (nI 65) := by decide
theorem bc_99 : (Int8.ofInt 99).toInt32 = (nI 99) := by decide
theorem bc_100 : (Int8.ofInt 100).toInt32 = (nI 100) := by decide
theorem ic_m1 : Int32.ofInt (-1) = (-1) := by decide
theorem ic_0 : Int32.ofInt 0 = (nI 0) := by decide
theorem ic_1 : Int32.ofInt 1 = (nI 1) := by decide
theorem ic_2 : Int32.ofInt 2 = (nI 2) := by decide
theorem ic_3 : Int32.ofInt 3 = (nI 3) := by decide
theorem ic_4 : Int32.ofInt 4 = (nI 4) := by decide
theorem ic_5 : Int32.ofInt 5 = (nI 5) := by decide
theorem sc_m1000 : (Int16.ofInt (-1000)).toInt32 = (-1000) := by decide
theorem sc_255 : (Int16.ofInt 255).toInt32 = (nI 255) := by decide
theorem sc_999 : (Int16.ofInt 999).toInt32 = (nI 999) := by decide
theorem sc_1000 : (Int16.ofInt 1000).toInt32 = (nI 1000) := by decide
theorem ci1 : ab_ct.getD 1 [] = ab_c1 := rfl
theorem ow1 : ab_own 1 = 0 := rfl
theorem rt1 : (ab_row 1).2.2.2.1 = none := by decide +kernel
theorem ci2 : ab_ct.getD 2 [] = ab_c2 := rfl
theorem ow2 : ab_own 2 = 0 := rfl
theorem rt2 : (ab_row 2).2.2.2.1 = some .int := by decide +kernel
theorem ci3 : ab_ct.getD 3 [] = ab_c3 := rfl
theorem ow3 : ab_own 3 = 0 := rfl
theorem rt3 : (ab_row 3).2.2.2.1 = some .int := by decide +kernel
theorem ci4 : ab_ct.getD 4 [] = ab_c4 := rfl
theorem ow4 : ab_own 4 = 0 := rfl
theorem rt4 : (ab_row 4).2.2.2.1 = some .int := by decide +kernel
theorem ci5 : ab_ct.getD 5 [] = ab_c4 := rfl
theorem ow5 : ab_own 5 = 0 := rfl
theorem rt5 : (ab_row 5).2.2.2.1 = some .int := by decide +kernel
theorem ci6 : ab_ct.getD 6 [] = ab_c4 := rfl
theorem ow6 : ab_own 6 = 0 := rfl
theorem rt6 : (ab_row 6).2.2.2.1 = some .int := by decide +kernel
theorem ci7 : ab_ct.getD 7 [] = ab_c4 := rfl
theorem ow7 : ab_own 7 = 0 := rfl
theorem rt7 : (ab_row 7).2.2.2.1 = some .int := by decide +kernel
theorem ci8 : ab_ct.getD 8 [] = ab_c4 := rfl
theorem ow8 : ab_own 8 = 0 := rfl
theorem rt8 : (ab_row 8).2.2.2.1 = some .int := by decide +kernel
theorem ci9 : ab_ct.getD 9 [] = ab_c4 := rfl
theorem ow9 : ab_own 9 = 0 := rfl
theorem rt9 : (ab_row 9).2.2.2.1 = some .int := by decide +kernel
theorem ci10 : ab_ct.getD 10 [] = ab_c4 := rfl
theorem ow10 : ab_own 10 = 0 := rfl
theorem rt10 : (ab_row 10).2.2.2.1 = some .int := by decide +kernel
theorem ci11 : ab_ct.getD 11 [] = ab_c4 := rfl
theorem ow11 : ab_own 11 = 0 := rfl
theorem rt11 : (ab_row 11).2.2.2.1 = some .int := by decide +kernel
theorem ci12 : ab_ct.getD 12 [] = ab_c12 := rfl
theorem ow12 : ab_own 12 = 0 := rfl
theorem rt12 : (ab_row 12).2.2.2.1 = some .int := by decide +kernel
theorem ci13 : ab_ct.getD 13 [] = ab_c13 := rfl
theorem ow13 : ab_own 13 = 0 := rfl
theorem rt13 : (ab_row 13).2.2.2.1 = some .int := by decide +kernel
theorem ci15 : ab_ct.getD 15 [] = ab_c15 := rfl
theorem ow15 : ab_own 15 = 1 := rfl
theorem rt15 : (ab_row 15).2.2.2.1 = some .long := by decide +kernel
theorem ci16 : ab_ct.getD 16 [] = ab_c16 := rfl
theorem ow16 : ab_own 16 = 1 := rfl
theorem rt16 : (ab_row 16).2.2.2.1 = none := by decide +kernel
theorem ci17 : ab_ct.getD 17 [] = ab_c17 := rfl
theorem ow17 : ab_own 17 = 1 := rfl
theorem rt17 : (ab_row 17).2.2.2.1 = none := by decide +kernel
theorem ci18 : ab_ct.getD 18 [] = ab_c18 := rfl
theorem ow18 : ab_own 18 = 1 := rfl
theorem rt18 : (ab_row 18).2.2.2.1 = none := by decide +kernel
theorem ci19 : ab_ct.getD 19 [] = ab_c19 := rfl
theorem ow19 : ab_own 19 = 1 := rfl
theorem rt19 : (ab_row 19).2.2.2.1 = none := by decide +kernel
theorem ci20 : ab_ct.getD 20 [] = ab_c20 := rfl
theorem ow20 : ab_own 20 = 1 := rfl
theorem rt20 : (ab_row 20).2.2.2.1 = none := by decide +kernel
theorem ci21 : ab_ct.getD 21 [] = ab_c21 := rfl
theorem ow21 : ab_own 21 = 1 := rfl
theorem rt21 : (ab_row 21).2.2.2.1 = none := by decide +kernel
theorem ci22 : ab_ct.getD 22 [] = ab_c22 := rfl
theorem ow22 : ab_own 22 = 1 := rfl
theorem rt22 : (ab_row 22).2.2.2.1 = some .boolean := by decide +kernel
theorem ci23 : ab_ct.getD 23 [] = ab_c23 := rfl
theorem ow23 : ab_own 23 = 1 := rfl
theorem rt23 : (ab_row 23).2.2.2.1 = some .long := by decide +kernel
theorem ci24 : ab_ct.getD 24 [] = ab_c24 := rfl
theorem ow24 : ab_own 24 = 1 := rfl
theorem rt24 : (ab_row 24).2.2.2.1 = some .boolean := by decide +kernel
theorem ci25 : ab_ct.getD 25 [] = ab_c25 := rfl
theorem ow25 : ab_own 25 = 1 := rfl
theorem rt25 : (ab_row 25).2.2.2.1 = none := by decide +kernel
theorem ci26 : ab_ct.getD 26 [] = ab_c26 := rfl
theorem ow26 : ab_own 26 = 1 := rfl
theorem rt26 : (ab_row 26).2.2.2.1 = some .long := by decide +kernel
theorem ci27 : ab_ct.getD 27 [] = ab_c27 := rfl
theorem ow27 : ab_own 27 = 1 := rfl
theorem rt27 : (ab_row 27).2.2.2.1 = none := by decide +kernel
theorem ci28 : ab_ct.getD 28 [] = ab_c28 := rfl
theorem ow28 : ab_own 28 = 1 := rfl
theorem rt28 : (ab_row 28).2.2.2.1 = none := by decide +kernel
theorem ci29 : ab_ct.getD 29 [] = ab_c29 := rfl
theorem ow29 : ab_own 29 = 1 := rfl
theorem rt29 : (ab_row 29).2.2.2.1 = some .long := by decide +kernel
theorem ci30 : ab_ct.getD 30 [] = ab_c30 := rfl
theorem ow30 : ab_own 30 = 1 := rfl
theorem rt30 : (ab_row 30).2.2.2.1 = some .long := by decide +kernel
theorem ci31 : ab_ct.getD 31 [] = ab_c31 := rfl
theorem ow31 : ab_own 31 = 1 := rfl
theorem rt31 : (ab_row 31).2.2.2.1 = some .long := by decide +kernel
theorem ci32 : ab_ct.getD 32 [] = ab_c32 := rfl
theorem ow32 : ab_own 32 = 1 := rfl
theorem rt32 : (ab_row 32).2.2.2.1 = some .boolean := by decide +kernel
theorem ci33 : ab_ct.getD 33 [] = ab_c33 := rfl
theorem ow33 : ab_own 33 = 1 := rfl
theorem rt33 : (ab_row 33).2.2.2.1 = some .long := by decide +kernel
theorem ci34 : ab_ct.getD 34 [] = ab_c34 := rfl
theorem ow34 : ab_own 34 = 1 := rfl
theorem rt34 : (ab_row 34).2.2.2.1 = none := by decide +kernel
theorem ci35 : ab_ct.getD 35 [] = ab_c35 := rfl
theorem ow35 : ab_own 35 = 1 := rfl
theorem rt35 : (ab_row 35).2.2.2.1 = some .boolean := by decide +kernel
theorem ci36 : ab_ct.getD 36 [] = ab_c36 := rfl
theorem ow36 : ab_own 36 = 1 := rfl
theorem rt36 : (ab_row 36).2.2.2.1 = some .int := by decide +kernel
theorem ci37 : ab_ct.getD 37 [] = ab_c37 := rfl
theorem ow37 : ab_own 37 = 1 := rfl
theorem rt37 : (ab_row 37).2.2.2.1 = some .int := by decide +kernel
theorem ci38 : ab_ct.getD 38 [] = ab_c38 := rfl
theorem ow38 : ab_own 38 = 1 := rfl
theorem rt38 : (ab_row 38).2.2.2.1 = some .int := by decide +kernel
theorem ci39 : ab_ct.getD 39 [] = ab_c39 := rfl
theorem ow39 : ab_own 39 = 1 := rfl
theorem rt39 : (ab_row 39).2.2.2.1 = some .int := by decide +kernel
theorem ci40 : ab_ct.getD 40 [] = ab_c40 := rfl
theorem ow40 : ab_own 40 = 1 := rfl
theorem rt40 : (ab_row 40).2.2.2.1 = some .int := by decide +kernel
theorem ci42 : ab_ct.getD 42 [] = ab_c42 := rfl
theorem ow42 : ab_own 42 = 2 := rfl
theorem rt42 : (ab_row 42).2.2.2.1 = some .boolean := by decide +kernel
theorem ci43 : ab_ct.getD 43 [] = ab_c43 := rfl
theorem ow43 : ab_own 43 = 2 := rfl
theorem rt43 : (ab_row 43).2.2.2.1 = none := by decide +kernel
theorem ci44 : ab_ct.getD 44 [] = ab_c44 := rfl
theorem ow44 : ab_own 44 = 2 := rfl
theorem rt44 : (ab_row 44).2.2.2.1 = some .int := by decide +kernel
theorem ci45 : ab_ct.getD 45 [] = ab_c45 := rfl
theorem ow45 : ab_own 45 = 2 := rfl
theorem rt45 : (ab_row 45).2.2.2.1 = none := by decide +kernel
theorem ci46 : ab_ct.getD 46 [] = ab_c46 := rfl
theorem ow46 : ab_own 46 = 2 := rfl
theorem rt46 : (ab_row 46).2.2.2.1 = some .boolean := by decide +kernel
theorem ci47 : ab_ct.getD 47 [] = ab_c47 := rfl
theorem ow47 : ab_own 47 = 2 := rfl
theorem rt47 : (ab_row 47).2.2.2.1 = some .int := by decide +kernel
theorem ci48 : ab_ct.getD 48 [] = ab_c48 := rfl
theorem ow48 : ab_own 48 = 2 := rfl
theorem rt48 : (ab_row 48).2.2.2.1 = some .boolean := by decide +kernel
theorem ci49 : ab_ct.getD 49 [] = ab_c49 := rfl
theorem ow49 : ab_own 49 = 2 := rfl
theorem rt49 : (ab_row 49).2.2.2.1 = some .boolean := by decide +kernel
theorem ci50 : ab_ct.getD 50 [] = ab_c50 := rfl
theorem ow50 : ab_own 50 = 2 := rfl
theorem rt50 : (ab_row 50).2.2.2.1 = some .int := by decide +kernel
theorem ci51 : ab_ct.getD 51 [] = ab_c51 := rfl
theorem ow51 : ab_own 51 = 2 := rfl
theorem rt51 : (ab_row 51).2.2.2.1 = some .int := by decide +kernel
theorem ci53 : ab_ct.getD 53 [] = ab_c53 := rfl
theorem ow53 : ab_own 53 = 3 := rfl
theorem rt53 : (ab_row 53).2.2.2.1 = some .boolean := by decide +kernel
theorem ci54 : ab_ct.getD 54 [] = ab_c54 := rfl
theorem ow54 : ab_own 54 = 3 := rfl
theorem rt54 : (ab_row 54).2.2.2.1 = none := by decide +kernel
theorem ci55 : ab_ct.getD 55 [] = ab_c55 := rfl
theorem ow55 : ab_own 55 = 3 := rfl
theorem rt55 : (ab_row 55).2.2.2.1 = none := by decide +kernel
theorem ci56 : ab_ct.getD 56 [] = ab_c56 := rfl
theorem ow56 : ab_own 56 = 3 := rfl
theorem rt56 : (ab_row 56).2.2.2.1 = some .int := by decide +kernel
theorem ci57 : ab_ct.getD 57 [] = ab_c57 := rfl
theorem ow57 : ab_own 57 = 3 := rfl
theorem rt57 : (ab_row 57).2.2.2.1 = some .boolean := by decide +kernel
theorem ci58 : ab_ct.getD 58 [] = ab_c58 := rfl
theorem ow58 : ab_own 58 = 3 := rfl
theorem rt58 : (ab_row 58).2.2.2.1 = some .int := by decide +kernel
theorem ci59 : ab_ct.getD 59 [] = ab_c59 := rfl
theorem ow59 : ab_own 59 = 3 := rfl
theorem rt59 : (ab_row 59).2.2.2.1 = none := by decide +kernel
theorem ci60 : ab_ct.getD 60 [] = ab_c60 := rfl
theorem ow60 : ab_own 60 = 3 := rfl
theorem rt60 : (ab_row 60).2.2.2.1 = some .int := by decide +kernel
theorem ci61 : ab_ct.getD 61 [] = ab_c61 := rfl
theorem ow61 : ab_own 61 = 3 := rfl
theorem rt61 : (ab_row 61).2.2.2.1 = none := by decide +kernel
theorem ci63 : ab_ct.getD 63 [] = ab_c63 := rfl
theorem ow63 : ab_own 63 = 4 := rfl
theorem rt63 : (ab_row 63).2.2.2.1 = none := by decide +kernel
theorem ci64 : ab_ct.getD 64 [] = ab_c64 := rfl
theorem ow64 : ab_own 64 = 4 := rfl
theorem rt64 : (ab_row 64).2.2.2.1 = some .boolean := by decide +kernel
theorem ci65 : ab_ct.getD 65 [] = ab_c65 := rfl
theorem ow65 : ab_own 65 = 4 := rfl
theorem rt65 : (ab_row 65).2.2.2.1 = none := by decide +kernel
theorem ci67 : ab_ct.getD 67 [] = ab_c67 := rfl
theorem ow67 : ab_own 67 = 5 := rfl
theorem rt67 : (ab_row 67).2.2.2.1 = some .boolean := by decide +kernel
theorem ci68 : ab_ct.getD 68 [] = ab_c68 := rfl
theorem ow68 : ab_own 68 = 5 := rfl
theorem rt68 : (ab_row 68).2.2.2.1 = some .boolean := by decide +kernel
theorem ci69 : ab_ct.getD 69 [] = ab_c69 := rfl
theorem ow69 : ab_own 69 = 5 := rfl
theorem rt69 : (ab_row 69).2.2.2.1 = none := by decide +kernel
theorem ci70 : ab_ct.getD 70 [] = ab_c70 := rfl
theorem ow70 : ab_own 70 = 5 := rfl
theorem rt70 : (ab_row 70).2.2.2.1 = none := by decide +kernel
theorem ci72 : ab_ct.getD 72 [] = ab_c72 := rfl
theorem ow72 : ab_own 72 = 6 := rfl
theorem rt72 : (ab_row 72).2.2.2.1 = none := by decide +kernel
theorem ci73 : ab_ct.getD 73 [] = ab_c73 := rfl
theorem ow73 : ab_own 73 = 6 := rfl
theorem rt73 : (ab_row 73).2.2.2.1 = some .int := by decide +kernel
theorem ci74 : ab_ct.getD 74 [] = ab_c74 := rfl
theorem ow74 : ab_own 74 = 6 := rfl
theorem rt74 : (ab_row 74).2.2.2.1 = none := by decide +kernel
theorem ci76 : ab_ct.getD 76 [] = ab_c76 := rfl
theorem ow76 : ab_own 76 = 7 := rfl
theorem rt76 : (ab_row 76).2.2.2.1 = some .int := by decide +kernel
theorem ci77 : ab_ct.getD 77 [] = ab_c77 := rfl
theorem ow77 : ab_own 77 = 7 := rfl
theorem rt77 : (ab_row 77).2.2.2.1 = some .int := by decide +kernel
theorem ci78 : ab_ct.getD 78 [] = ab_c78 := rfl
theorem ow78 : ab_own 78 = 7 := rfl
theorem rt78 : (ab_row 78).2.2.2.1 = some .int := by decide +kernel
theorem ci79 : ab_ct.getD 79 [] = ab_c79 := rfl
theorem ow79 : ab_own 79 = 7 := rfl
theorem rt79 : (ab_row 79).2.2.2.1 = some .int := by decide +kernel
theorem ci80 : ab_ct.getD 80 [] = ab_c80 := rfl
theorem ow80 : ab_own 80 = 7 := rfl
theorem rt80 : (ab_row 80).2.2.2.1 = some .int := by decide +kernel
theorem ci81 : ab_ct.getD 81 [] = ab_c81 := rfl
theorem ow81 : ab_own 81 = 7 := rfl
theorem rt81 : (ab_row 81).2.2.2.1 = some .long := by decide +kernel
theorem ci82 : ab_ct.getD 82 [] = ab_c82 := rfl
theorem ow82 : ab_own 82 = 7 := rfl
theorem rt82 : (ab_row 82).2.2.2.1 = some .long := by decide +kernel
theorem ci83 : ab_ct.getD 83 [] = ab_c83 := rfl
theorem ow83 : ab_own 83 = 7 := rfl
theorem rt83 : (ab_row 83).2.2.2.1 = some .long := by decide +kernel
theorem ci84 : ab_ct.getD 84 [] = ab_c84 := rfl
theorem ow84 : ab_own 84 = 7 := rfl
theorem rt84 : (ab_row 84).2.2.2.1 = some .long := by decide +kernel
theorem ci85 : ab_ct.getD 85 [] = ab_c85 := rfl
theorem ow85 : ab_own 85 = 7 := rfl
theorem rt85 : (ab_row 85).2.2.2.1 = some .int := by decide +kernel
theorem ci86 : ab_ct.getD 86 [] = ab_c86 := rfl
theorem ow86 : ab_own 86 = 7 := rfl
theorem rt86 : (ab_row 86).2.2.2.1 = some .int := by decide +kernel
theorem ci87 : ab_ct.getD 87 [] = ab_c87 := rfl
theorem ow87 : ab_own 87 = 7 := rfl
theorem rt87 : (ab_row 87).2.2.2.1 = some .int := by decide +kernel
theorem ci88 : ab_ct.getD 88 [] = ab_c88 := rfl
theorem ow88 : ab_own 88 = 7 := rfl
theorem rt88 : (ab_row 88).2.2.2.1 = some .int := by decide +kernel
theorem ci89 : ab_ct.getD 89 [] = ab_c89 := rfl
theorem ow89 : ab_own 89 = 7 := rfl
theorem rt89 : (ab_row 89).2.2.2.1 = some .int := by decide +kernel
theorem ci90 : ab_ct.getD 90 [] = ab_c90 := rfl
theorem ow90 : ab_own 90 = 7 := rfl
theorem rt90 : (ab_row 90).2.2.2.1 = some .int := by decide +kernel
theorem ci91 : ab_ct.getD 91 [] = ab_c91 := rfl
theorem ow91 : ab_own 91 = 7 := rfl
theorem rt91 : (ab_row 91).2.2.2.1 = some .int := by decide +kernel
theorem ci92 : ab_ct.getD 92 [] = ab_c92 := rfl
theorem ow92 : ab_own 92 = 7 := rfl
theorem rt92 : (ab_row 92).2.2.2.1 = some .long := by decide +kernel
theorem ci93 : ab_ct.getD 93 [] = ab_c93 := rfl
theorem ow93 : ab_own 93 = 7 := rfl
theorem rt93 : (ab_row 93).2.2.2.1 = some .long := by decide +kernel
theorem ci94 : ab_ct.getD 94 [] = ab_c94 := rfl
theorem ow94 : ab_own 94 = 7 := rfl
theorem rt94 : (ab_row 94).2.2.2.1 = some .long := by decide +kernel
theorem ci95 : ab_ct.getD 95 [] = ab_c95 := rfl
theorem ow95 : ab_own 95 = 7 := rfl
theorem rt95 : (ab_row 95).2.2.2.1 = some .int := by decide +kernel
theorem ci96 : ab_ct.getD 96 [] = ab_c96 := rfl
theorem ow96 : ab_own 96 = 7 := rfl
theorem rt96 : (ab_row 96).2.2.2.1 = some .int := by decide +kernel
theorem ci97 : ab_ct.getD 97 [] = ab_c97 := rfl
theorem ow97 : ab_own 97 = 7 := rfl
theorem rt97 : (ab_row 97).2.2.2.1 = some .int := by decide +kernel
theorem ci98 : ab_ct.getD 98 [] = ab_c98 := rfl
theorem ow98 : ab_own 98 = 7 := rfl
theorem rt98 : (ab_row 98).2.2.2.1 = some .long := by decide +kernel
theorem ci99 : ab_ct.getD 99 [] = ab_c99 := rfl
theorem ow99 : ab_own 99 = 7 := rfl
theorem rt99 : (ab_row 99).2.2.2.1 = some .int := by decide +kernel
theorem ci100 : ab_ct.getD 100 [] = ab_c100 := rfl
theorem ow100 : ab_own 100 = 7 := rfl
theorem rt100 : (ab_row 100).2.2.2.1 = some .int := by decide +kernel
theorem ci101 : ab_ct.getD 101 [] = ab_c101 := rfl
theorem ow101 : ab_own 101 = 7 := rfl
theorem rt101 : (ab_row 101).2.2.2.1 = some .long := by decide +kernel
theorem ci102 : ab_ct.getD 102 [] = ab_c102 := rfl
theorem ow102 : ab_own 102 = 7 := rfl
theorem rt102 : (ab_row 102).2.2.2.1 = some .int := by decide +kernel
theorem ci103 : ab_ct.getD 103 [] = ab_c103 := rfl
theorem ow103 : ab_own 103 = 7 := rfl
theorem rt103 : (ab_row 103).2.2.2.1 = some .int := by decide +kernel
theorem ci104 : ab_ct.getD 104 [] = ab_c104 := rfl
theorem ow104 : ab_own 104 = 7 := rfl
theorem rt104 : (ab_row 104).2.2.2.1 = some .int := by decide +kernel
theorem ci105 : ab_ct.getD 105 [] = ab_c105 := rfl
theorem ow105 : ab_own 105 = 7 := rfl
theorem rt105 : (ab_row 105).2.2.2.1 = some .int := by decide +kernel
theorem ci106 : ab_ct.getD 106 [] = ab_c106 := rfl
theorem ow106 : ab_own 106 = 7 := rfl
theorem rt106 : (ab_row 106).2.2.2.1 = some .int := by decide +kernel
theorem ci107 : ab_ct.getD 107 [] = ab_c107 := rfl
theorem ow107 : ab_own 107 = 7 := rfl
theorem rt107 : (ab_row 107).2.2.2.1 = some .int := by decide +kernel
theorem ci108 : ab_ct.getD 108 [] = ab_c108 := rfl
theorem ow108 : ab_own 108 = 7 := rfl
theorem rt108 : (ab_row 108).2.2.2.1 = some .int := by decide +kernel
theorem ci109 : ab_ct.getD 109 [] = ab_c109 := rfl
theorem ow109 : ab_own 109 = 7 := rfl
theorem rt109 : (ab_row 109).2.2.2.1 = some .long := by decide +kernel
theorem ci110 : ab_ct.getD 110 [] = ab_c110 := rfl
theorem ow110 : ab_own 110 = 7 := rfl
theorem rt110 : (ab_row 110).2.2.2.1 = none := by decide +kernel
theorem ci111 : ab_ct.getD 111 [] = ab_c111 := rfl
theorem ow111 : ab_own 111 = 7 := rfl
theorem rt111 : (ab_row 111).2.2.2.1 = some .int := by decide +kernel
theorem ci112 : ab_ct.getD 112 [] = ab_c112 := rfl
theorem ow112 : ab_own 112 = 7 := rfl
theorem rt112 : (ab_row 112).2.2.2.1 = some .int := by decide +kernel
theorem ci113 : ab_ct.getD 113 [] = ab_c113 := rfl
theorem ow113 : ab_own 113 = 7 := rfl
theorem rt113 : (ab_row 113).2.2.2.1 = some .boolean := by decide +kernel
theorem ci114 : ab_ct.getD 114 [] = ab_c114 := rfl
theorem ow114 : ab_own 114 = 7 := rfl
theorem rt114 : (ab_row 114).2.2.2.1 = some .long := by decide +kernel
theorem ci115 : ab_ct.getD 115 [] = ab_c115 := rfl
theorem ow115 : ab_own 115 = 7 := rfl
theorem rt115 : (ab_row 115).2.2.2.1 = some .int := by decide +kernel
theorem ci116 : ab_ct.getD 116 [] = ab_c116 := rfl
theorem ow116 : ab_own 116 = 7 := rfl
theorem rt116 : (ab_row 116).2.2.2.1 = some .boolean := by decide +kernel
theorem ci117 : ab_ct.getD 117 [] = ab_c117 := rfl
theorem ow117 : ab_own 117 = 7 := rfl
theorem rt117 : (ab_row 117).2.2.2.1 = some .boolean := by decide +kernel
theorem ci118 : ab_ct.getD 118 [] = ab_c118 := rfl
theorem ow118 : ab_own 118 = 7 := rfl
theorem rt118 : (ab_row 118).2.2.2.1 = some .boolean := by decide +kernel
theorem ci119 : ab_ct.getD 119 [] = ab_c119 := rfl
theorem ow119 : ab_own 119 = 7 := rfl
theorem rt119 : (ab_row 119).2.2.2.1 = some .boolean := by decide +kernel
theorem ci120 : ab_ct.getD 120 [] = ab_c120 := rfl
theorem ow120 : ab_own 120 = 7 := rfl
theorem rt120 : (ab_row 120).2.2.2.1 = some .boolean := by decide +kernel
theorem ci121 : ab_ct.getD 121 [] = ab_c121 := rfl
theorem ow121 : ab_own 121 = 7 := rfl
theorem rt121 : (ab_row 121).2.2.2.1 = some .long := by decide +kernel
theorem ci122 : ab_ct.getD 122 [] = ab_c122 := rfl
theorem ow122 : ab_own 122 = 7 := rfl
theorem rt122 : (ab_row 122).2.2.2.1 = some .long := by decide +kernel
theorem ci123 : ab_ct.getD 123 [] = ab_c123 := rfl
theorem ow123 : ab_own 123 = 7 := rfl
theorem rt123 : (ab_row 123).2.2.2.1 = some .long := by decide +kernel
theorem ci124 : ab_ct.getD 124 [] = ab_c124 := rfl
theorem ow124 : ab_own 124 = 7 := rfl
theorem rt124 : (ab_row 124).2.2.2.1 = some .int := by decide +kernel
theorem ci126 : ab_ct.getD 126 [] = ab_c126 := rfl
theorem ow126 : ab_own 126 = 8 := rfl
theorem rt126 : (ab_row 126).2.2.2.1 = some .boolean := by decide +kernel
theorem ci127 : ab_ct.getD 127 [] = ab_c127 := rfl
theorem ow127 : ab_own 127 = 8 := rfl
theorem rt127 : (ab_row 127).2.2.2.1 = some .long := by decide +kernel
theorem ci128 : ab_ct.getD 128 [] = ab_c128 := rfl
theorem ow128 : ab_own 128 = 8 := rfl
theorem rt128 : (ab_row 128).2.2.2.1 = some .long := by decide +kernel
theorem ci129 : ab_ct.getD 129 [] = ab_c129 := rfl
theorem ow129 : ab_own 129 = 8 := rfl
theorem rt129 : (ab_row 129).2.2.2.1 = some .long := by decide +kernel
theorem ci130 : ab_ct.getD 130 [] = ab_c130 := rfl
theorem ow130 : ab_own 130 = 8 := rfl
theorem rt130 : (ab_row 130).2.2.2.1 = some .long := by decide +kernel
theorem ci131 : ab_ct.getD 131 [] = ab_c131 := rfl
theorem ow131 : ab_own 131 = 8 := rfl
theorem rt131 : (ab_row 131).2.2.2.1 = some .boolean := by decide +kernel
theorem ci132 : ab_ct.getD 132 [] = ab_c132 := rfl
theorem ow132 : ab_own 132 = 8 := rfl
theorem rt132 : (ab_row 132).2.2.2.1 = some .boolean := by decide +kernel
theorem ci133 : ab_ct.getD 133 [] = ab_c133 := rfl
theorem ow133 : ab_own 133 = 8 := rfl
theorem rt133 : (ab_row 133).2.2.2.1 = some .int := by decide +kernel
theorem ci134 : ab_ct.getD 134 [] = ab_c134 := rfl
theorem ow134 : ab_own 134 = 8 := rfl
theorem rt134 : (ab_row 134).2.2.2.1 = some .int := by decide +kernel
theorem ci135 : ab_ct.getD 135 [] = ab_c135 := rfl
theorem ow135 : ab_own 135 = 8 := rfl
theorem rt135 : (ab_row 135).2.2.2.1 = some .int := by decide +kernel
theorem ci136 : ab_ct.getD 136 [] = ab_c136 := rfl
theorem ow136 : ab_own 136 = 8 := rfl
theorem rt136 : (ab_row 136).2.2.2.1 = some .int := by decide +kernel
theorem ci137 : ab_ct.getD 137 [] = ab_c137 := rfl
theorem ow137 : ab_own 137 = 8 := rfl
theorem rt137 : (ab_row 137).2.2.2.1 = some .int := by decide +kernel
theorem ci138 : ab_ct.getD 138 [] = ab_c138 := rfl
theorem ow138 : ab_own 138 = 8 := rfl
theorem rt138 : (ab_row 138).2.2.2.1 = none := by decide +kernel
theorem ci139 : ab_ct.getD 139 [] = ab_c139 := rfl
theorem ow139 : ab_own 139 = 8 := rfl
theorem rt139 : (ab_row 139).2.2.2.1 = none := by decide +kernel
theorem ci140 : ab_ct.getD 140 [] = ab_c140 := rfl
theorem ow140 : ab_own 140 = 8 := rfl
theorem rt140 : (ab_row 140).2.2.2.1 = some .int := by decide +kernel
theorem ci141 : ab_ct.getD 141 [] = ab_c141 := rfl
theorem ow141 : ab_own 141 = 8 := rfl
theorem rt141 : (ab_row 141).2.2.2.1 = some .int := by decide +kernel
theorem ci142 : ab_ct.getD 142 [] = ab_c142 := rfl
theorem ow142 : ab_own 142 = 8 := rfl
theorem rt142 : (ab_row 142).2.2.2.1 = some .int := by decide +kernel
theorem ci143 : ab_ct.getD 143 [] = ab_c143 := rfl
theorem ow143 : ab_own 143 = 8 := rfl
theorem rt143 : (ab_row 143).2.2.2.1 = some .int := by decide +kernel
theorem ci144 : ab_ct.getD 144 [] = ab_c144 := rfl
theorem ow144 : ab_own 144 = 8 := rfl
theorem rt144 : (ab_row 144).2.2.2.1 = none := by decide +kernel
theorem ci145 : ab_ct.getD 145 [] = ab_c145 := rfl
theorem ow145 : ab_own 145 = 8 := rfl
theorem rt145 : (ab_row 145).2.2.2.1 = none := by decide +kernel
theorem ci146 : ab_ct.getD 146 [] = ab_c146 := rfl
theorem ow146 : ab_own 146 = 8 := rfl
theorem rt146 : (ab_row 146).2.2.2.1 = none := by decide +kernel
theorem ci147 : ab_ct.getD 147 [] = ab_c147 := rfl
theorem ow147 : ab_own 147 = 8 := rfl
theorem rt147 : (ab_row 147).2.2.2.1 = some .int := by decide +kernel
theorem ci148 : ab_ct.getD 148 [] = ab_c148 := rfl
theorem ow148 : ab_own 148 = 8 := rfl
theorem rt148 : (ab_row 148).2.2.2.1 = some .long := by decide +kernel
theorem ci149 : ab_ct.getD 149 [] = ab_c149 := rfl
theorem ow149 : ab_own 149 = 8 := rfl
theorem rt149 : (ab_row 149).2.2.2.1 = some .long := by decide +kernel
theorem ci150 : ab_ct.getD 150 [] = ab_c150 := rfl
theorem ow150 : ab_own 150 = 8 := rfl
theorem rt150 : (ab_row 150).2.2.2.1 = some .long := by decide +kernel
theorem ci151 : ab_ct.getD 151 [] = ab_c151 := rfl
theorem ow151 : ab_own 151 = 8 := rfl
theorem rt151 : (ab_row 151).2.2.2.1 = some .long := by decide +kernel
theorem ci152 : ab_ct.getD 152 [] = ab_c152 := rfl
theorem ow152 : ab_own 152 = 8 := rfl
theorem rt152 : (ab_row 152).2.2.2.1 = some .long := by decide +kernel
theorem ci153 : ab_ct.getD 153 [] = ab_c153 := rfl
theorem ow153 : ab_own 153 = 8 := rfl
theorem rt153 : (ab_row 153).2.2.2.1 = some .long := by decide +kernel
theorem ci154 : ab_ct.getD 154 [] = ab_c154 := rfl
theorem ow154 : ab_own 154 = 8 := rfl
theorem rt154 : (ab_row 154).2.2.2.1 = some .boolean := by decide +kernel
theorem ci155 : ab_ct.getD 155 [] = ab_c155 := rfl
theorem ow155 : ab_own 155 = 8 := rfl
theorem rt155 : (ab_row 155).2.2.2.1 = some .long := by decide +kernel
theorem ci156 : ab_ct.getD 156 [] = ab_c156 := rfl
theorem ow156 : ab_own 156 = 8 := rfl
theorem rt156 : (ab_row 156).2.2.2.1 = some .long := by decide +kernel
theorem ci157 : ab_ct.getD 157 [] = ab_c157 := rfl
theorem ow157 : ab_own 157 = 8 := rfl
theorem rt157 : (ab_row 157).2.2.2.1 = some .int := by decide +kernel
theorem ci158 : ab_ct.getD 158 [] = ab_c158 := rfl
theorem ow158 : ab_own 158 = 8 := rfl
theorem rt158 : (ab_row 158).2.2.2.1 = some .int := by decide +kernel
theorem ci159 : ab_ct.getD 159 [] = ab_c159 := rfl
theorem ow159 : ab_own 159 = 8 := rfl
theorem rt159 : (ab_row 159).2.2.2.1 = some .int := by decide +kernel
theorem ci160 : ab_ct.getD 160 [] = ab_c160 := rfl
theorem ow160 : ab_own 160 = 8 := rfl
theorem rt160 : (ab_row 160).2.2.2.1 = some .int := by decide +kernel
theorem ci161 : ab_ct.getD 161 [] = ab_c161 := rfl
theorem ow161 : ab_own 161 = 8 := rfl
theorem rt161 : (ab_row 161).2.2.2.1 = some .boolean := by decide +kernel
theorem ci162 : ab_ct.getD 162 [] = ab_c162 := rfl
theorem ow162 : ab_own 162 = 8 := rfl
theorem rt162 : (ab_row 162).2.2.2.1 = none := by decide +kernel
theorem ci163 : ab_ct.getD 163 [] = ab_c163 := rfl
theorem ow163 : ab_own 163 = 8 := rfl
theorem rt163 : (ab_row 163).2.2.2.1 = some .int := by decide +kernel
theorem ci164 : ab_ct.getD 164 [] = ab_c164 := rfl
theorem ow164 : ab_own 164 = 8 := rfl
theorem rt164 : (ab_row 164).2.2.2.1 = some .int := by decide +kernel
theorem ci165 : ab_ct.getD 165 [] = ab_c165 := rfl
theorem ow165 : ab_own 165 = 8 := rfl
theorem rt165 : (ab_row 165).2.2.2.1 = some .int := by decide +kernel
theorem ci166 : ab_ct.getD 166 [] = ab_c166 := rfl
theorem ow166 : ab_own 166 = 8 := rfl
theorem rt166 : (ab_row 166).2.2.2.1 = some .int := by decide +kernel
theorem ci167 : ab_ct.getD 167 [] = ab_c167 := rfl
theorem ow167 : ab_own 167 = 8 := rfl
theorem rt167 : (ab_row 167).2.2.2.1 = some .int := by decide +kernel
theorem ci168 : ab_ct.getD 168 [] = ab_c168 := rfl
theorem ow168 : ab_own 168 = 8 := rfl
theorem rt168 : (ab_row 168).2.2.2.1 = some .int := by decide +kernel
theorem ci169 : ab_ct.getD 169 [] = ab_c169 := rfl
theorem ow169 : ab_own 169 = 8 := rfl
theorem rt169 : (ab_row 169).2.2.2.1 = some .int := by decide +kernel
theorem ci170 : ab_ct.getD 170 [] = ab_c170 := rfl
theorem ow170 : ab_own 170 = 8 := rfl
theorem rt170 : (ab_row 170).2.2.2.1 = none := by decide +kernel
theorem ci171 : ab_ct.getD 171 [] = ab_c171 := rfl
theorem ow171 : ab_own 171 = 8 := rfl
theorem rt171 : (ab_row 171).2.2.2.1 = some .long := by decide +kernel
theorem ci172 : ab_ct.getD 172 [] = ab_c172 := rfl
theorem ow172 : ab_own 172 = 8 := rfl
theorem rt172 : (ab_row 172).2.2.2.1 = some .boolean := by decide +kernel
theorem ci173 : ab_ct.getD 173 [] = ab_c173 := rfl
theorem ow173 : ab_own 173 = 8 := rfl
theorem rt173 : (ab_row 173).2.2.2.1 = some .long := by decide +kernel
theorem ci174 : ab_ct.getD 174 [] = ab_c174 := rfl
theorem ow174 : ab_own 174 = 8 := rfl
theorem rt174 : (ab_row 174).2.2.2.1 = some .long := by decide +kernel
theorem ci175 : ab_ct.getD 175 [] = ab_c175 := rfl
theorem ow175 : ab_own 175 = 8 := rfl
theorem rt175 : (ab_row 175).2.2.2.1 = some .long := by decide +kernel
theorem ci176 : ab_ct.getD 176 [] = ab_c176 := rfl
theorem ow176 : ab_own 176 = 8 := rfl
theorem rt176 : (ab_row 176).2.2.2.1 = some .boolean := by decide +kernel
theorem ci177 : ab_ct.getD 177 [] = ab_c177 := rfl
theorem ow177 : ab_own 177 = 8 := rfl
theorem rt177 : (ab_row 177).2.2.2.1 = some .int := by decide +kernel
theorem ci178 : ab_ct.getD 178 [] = ab_c178 := rfl
theorem ow178 : ab_own 178 = 8 := rfl
theorem rt178 : (ab_row 178).2.2.2.1 = some .int := by decide +kernel
theorem ci179 : ab_ct.getD 179 [] = ab_c179 := rfl
theorem ow179 : ab_own 179 = 8 := rfl
theorem rt179 : (ab_row 179).2.2.2.1 = some .int := by decide +kernel
theorem ci180 : ab_ct.getD 180 [] = ab_c180 := rfl
theorem ow180 : ab_own 180 = 8 := rfl
theorem rt180 : (ab_row 180).2.2.2.1 = some .long := by decide +kernel
theorem ci181 : ab_ct.getD 181 [] = ab_c181 := rfl
theorem ow181 : ab_own 181 = 8 := rfl
theorem rt181 : (ab_row 181).2.2.2.1 = some .int := by decide +kernel
theorem ci182 : ab_ct.getD 182 [] = ab_c182 := rfl
theorem ow182 : ab_own 182 = 8 := rfl
theorem rt182 : (ab_row 182).2.2.2.1 = some .int := by decide +kernel
theorem ci183 : ab_ct.getD 183 [] = ab_c183 := rfl
theorem ow183 : ab_own 183 = 8 := rfl
theorem rt183 : (ab_row 183).2.2.2.1 = some .boolean := by decide +kernel
theorem ci184 : ab_ct.getD 184 [] = ab_c184 := rfl
theorem ow184 : ab_own 184 = 8 := rfl
theorem rt184 : (ab_row 184).2.2.2.1 = some .int := by decide +kernel
theorem ci185 : ab_ct.getD 185 [] = ab_c185 := rfl
theorem ow185 : ab_own 185 = 8 := rfl
theorem rt185 : (ab_row 185).2.2.2.1 = some .int := by decide +kernel
theorem ci186 : ab_ct.getD 186 [] = ab_c186 := rfl
theorem ow186 : ab_own 186 = 8 := rfl
theorem rt186 : (ab_row 186).2.2.2.1 = some .int := by decide +kernel
theorem ci187 : ab_ct.getD 187 [] = ab_c187 := rfl
theorem ow187 : ab_own 187 = 8 := rfl
theorem rt187 : (ab_row 187).2.2.2.1 = some .long := by decide +kernel
theorem ci188 : ab_ct.getD 188 [] = ab_c188 := rfl
theorem ow188 : ab_own 188 = 8 := rfl
theorem rt188 : (ab_row 188).2.2.2.1 = some .int := by decide +kernel
theorem ci189 : ab_ct.getD 189 [] = ab_c189 := rfl
theorem ow189 : ab_own 189 = 8 := rfl
theorem rt189 : (ab_row 189).2.2.2.1 = some .boolean := by decide +kernel
theorem ci190 : ab_ct.getD 190 [] = ab_c190 := rfl
theorem ow190 : ab_own 190 = 8 := rfl
theorem rt190 : (ab_row 190).2.2.2.1 = some .int := by decide +kernel
theorem ci191 : ab_ct.getD 191 [] = ab_c191 := rfl
theorem ow191 : ab_own 191 = 8 := rfl
theorem rt191 : (ab_row 191).2.2.2.1 = some .int := by decide +kernel
theorem ci192 : ab_ct.getD 192 [] = ab_c192 := rfl
theorem ow192 : ab_own 192 = 8 := rfl
theorem rt192 : (ab_row 192).2.2.2.1 = some .int := by decide +kernel
theorem ci193 : ab_ct.getD 193 [] = ab_c193 := rfl
theorem ow193 : ab_own 193 = 8 := rfl
theorem rt193 : (ab_row 193).2.2.2.1 = none := by decide +kernel
theorem ci194 : ab_ct.getD 194 [] = ab_c194 := rfl
theorem ow194 : ab_own 194 = 8 := rfl
theorem rt194 : (ab_row 194).2.2.2.1 = some .int := by decide +kernel
theorem ci195 : ab_ct.getD 195 [] = ab_c195 := rfl
theorem ow195 : ab_own 195 = 8 := rfl
theorem rt195 : (ab_row 195).2.2.2.1 = some .int := by decide +kernel
theorem ci196 : ab_ct.getD 196 [] = ab_c196 := rfl
theorem ow196 : ab_own 196 = 8 := rfl
theorem rt196 : (ab_row 196).2.2.2.1 = some .int := by decide +kernel
theorem ci197 : ab_ct.getD 197 [] = ab_c197 := rfl
theorem ow197 : ab_own 197 = 8 := rfl
theorem rt197 : (ab_row 197).2.2.2.1 = some .int := by decide +kernel
theorem ci198 : ab_ct.getD 198 [] = ab_c198 := rfl
theorem ow198 : ab_own 198 = 8 := rfl
theorem rt198 : (ab_row 198).2.2.2.1 = some .int := by decide +kernel
theorem ci199 : ab_ct.getD 199 [] = ab_c199 := rfl
theorem ow199 : ab_own 199 = 8 := rfl
theorem rt199 : (ab_row 199).2.2.2.1 = some .int := by decide +kernel
theorem ci200 : ab_ct.getD 200 [] = ab_c200 := rfl
theorem ow200 : ab_own 200 = 8 := rfl
theorem rt200 : (ab_row 200).2.2.2.1 = some .int := by decide +kernel
theorem ci201 : ab_ct.getD 201 [] = ab_c201 := rfl
theorem ow201 : ab_own 201 = 8 := rfl
theorem rt201 : (ab_row 201).2.2.2.1 = some .long := by decide +kernel
theorem ci202 : ab_ct.getD 202 [] = ab_c202 := rfl
theorem ow202 : ab_own 202 = 9 := rfl
theorem rt202 : (ab_row 202).2.2.2.1 = some .int := by decide +kernel
theorem fq0_27_33 : (ab_fd 0 27 = some (0, 5, 244) ∧ ab_ly 33 = (0, 0) ∧ 33 < 75) ∧ ab_fk 0 5 = 0 := by decide +kernel
theorem fq0_34_5 : (ab_fd 0 34 = some (1, 0, 117) ∧ ab_ly 5 = (0, 1) ∧ 5 < 75) ∧ ab_fk 1 0 = 3 ∧ ab_rf ab_RF 5 0 = some 6 := by decide +kernel
theorem fq0_34_17 : (ab_fd 0 34 = some (1, 0, 117) ∧ ab_ly 17 = (0, 1) ∧ 17 < 75) ∧ ab_fk 1 0 = 3 ∧ ab_rf ab_RF 17 0 = some 18 := by decide +kernel
theorem fq0_9_33 : (ab_fd 0 9 = some (0, 0, 239) ∧ ab_ly 33 = (0, 0) ∧ 33 < 75) ∧ ab_fk 0 0 = 3 ∧ ab_rf ab_RF 33 0 = some 34 := by decide +kernel
theorem fq0_15_33 : (ab_fd 0 15 = some (0, 1, 240) ∧ ab_ly 33 = (0, 0) ∧ 33 < 75) ∧ ab_fk 0 1 = 3 ∧ ab_rf ab_RF 33 1 = some 35 := by decide +kernel
theorem fq0_31_33 : (ab_fd 0 31 = some (0, 6, 246) ∧ ab_ly 33 = (0, 0) ∧ 33 < 75) ∧ ab_fk 0 6 = 0 := by decide +kernel
theorem fq0_18_33 : (ab_fd 0 18 = some (0, 2, 241) ∧ ab_ly 33 = (0, 0) ∧ 33 < 75) ∧ ab_fk 0 2 = 3 ∧ ab_rf ab_RF 33 2 = some 36 := by decide +kernel
theorem fq0_21_33 : (ab_fd 0 21 = some (0, 3, 242) ∧ ab_ly 33 = (0, 0) ∧ 33 < 75) ∧ ab_fk 0 3 = 3 ∧ ab_rf ab_RF 33 3 = some 37 := by decide +kernel
theorem fq0_24_33 : (ab_fd 0 24 = some (0, 4, 243) ∧ ab_ly 33 = (0, 0) ∧ 33 < 75) ∧ ab_fk 0 4 = 3 ∧ ab_rf ab_RF 33 4 = some 38 := by decide +kernel
theorem fq1_46_5 : (ab_fd 1 46 = some (1, 11, 141) ∧ ab_ly 5 = (0, 1) ∧ 5 < 75) ∧ ab_fk 1 11 = 2 := by decide +kernel
theorem fq1_46_17 : (ab_fd 1 46 = some (1, 11, 141) ∧ ab_ly 17 = (0, 1) ∧ 17 < 75) ∧ ab_fk 1 11 = 2 := by decide +kernel
theorem fq1_9_5 : (ab_fd 1 9 = some (1, 0, 116) ∧ ab_ly 5 = (0, 1) ∧ 5 < 75) ∧ ab_fk 1 0 = 3 ∧ ab_rf ab_RF 5 0 = some 6 := by decide +kernel
theorem fq1_9_17 : (ab_fd 1 9 = some (1, 0, 116) ∧ ab_ly 17 = (0, 1) ∧ 17 < 75) ∧ ab_fk 1 0 = 3 ∧ ab_rf ab_RF 17 0 = some 18 := by decide +kernel
theorem fq1_63_5 : (ab_fd 1 63 = some (1, 16, 151) ∧ ab_ly 5 = (0, 1) ∧ 5 < 75) ∧ ab_fk 1 16 = 1 := by decide +kernel
theorem fq1_63_17 : (ab_fd 1 63 = some (1, 16, 151) ∧ ab_ly 17 = (0, 1) ∧ 17 < 75) ∧ ab_fk 1 16 = 1 := by decide +kernel
theorem fq1_15_5 : (ab_fd 1 15 = some (1, 1, 120) ∧ ab_ly 5 = (0, 1) ∧ 5 < 75) ∧ ab_fk 1 1 = 3 ∧ ab_rf ab_RF 5 1 = some 7 := by decide +kernel
theorem fq1_15_17 : (ab_fd 1 15 = some (1, 1, 120) ∧ ab_ly 17 = (0, 1) ∧ 17 < 75) ∧ ab_fk 1 1 = 3 ∧ ab_rf ab_RF 17 1 = some 19 := by decide +kernel
theorem fq1_18_5 : (ab_fd 1 18 = some (1, 2, 123) ∧ ab_ly 5 = (0, 1) ∧ 5 < 75) ∧ ab_fk 1 2 = 3 ∧ ab_rf ab_RF 5 2 = some 8 := by decide +kernel
theorem fq1_18_17 : (ab_fd 1 18 = some (1, 2, 123) ∧ ab_ly 17 = (0, 1) ∧ 17 < 75) ∧ ab_fk 1 2 = 3 ∧ ab_rf ab_RF 17 2 = some 20 := by decide +kernel
theorem fq1_22_5 : (ab_fd 1 22 = some (1, 3, 124) ∧ ab_ly 5 = (0, 1) ∧ 5 < 75) ∧ ab_fk 1 3 = 3 ∧ ab_rf ab_RF 5 3 = some 9 := by decide +kernel
theorem fq1_22_17 : (ab_fd 1 22 = some (1, 3, 124) ∧ ab_ly 17 = (0, 1) ∧ 17 < 75) ∧ ab_fk 1 3 = 3 ∧ ab_rf ab_RF 17 3 = some 21 := by decide +kernel
theorem fq1_50_5 : (ab_fd 1 50 = some (1, 12, 143) ∧ ab_ly 5 = (0, 1) ∧ 5 < 75) ∧ ab_fk 1 12 = 0 := by decide +kernel
theorem fq1_50_17 : (ab_fd 1 50 = some (1, 12, 143) ∧ ab_ly 17 = (0, 1) ∧ 17 < 75) ∧ ab_fk 1 12 = 0 := by decide +kernel
theorem fq1_25_5 : (ab_fd 1 25 = some (1, 4, 126) ∧ ab_ly 5 = (0, 1) ∧ 5 < 75) ∧ ab_fk 1 4 = 3 ∧ ab_rf ab_RF 5 4 = some 10 := by decide +kernel
theorem fq1_25_17 : (ab_fd 1 25 = some (1, 4, 126) ∧ ab_ly 17 = (0, 1) ∧ 17 < 75) ∧ ab_fk 1 4 = 3 ∧ ab_rf ab_RF 17 4 = some 22 := by decide +kernel
theorem fq1_28_5 : (ab_fd 1 28 = some (1, 5, 130) ∧ ab_ly 5 = (0, 1) ∧ 5 < 75) ∧ ab_fk 1 5 = 3 ∧ ab_rf ab_RF 5 5 = some 11 := by decide +kernel
theorem fq1_28_17 : (ab_fd 1 28 = some (1, 5, 130) ∧ ab_ly 17 = (0, 1) ∧ 17 < 75) ∧ ab_fk 1 5 = 3 ∧ ab_rf ab_RF 17 5 = some 23 := by decide +kernel
theorem fq1_31_5 : (ab_fd 1 31 = some (1, 6, 134) ∧ ab_ly 5 = (0, 1) ∧ 5 < 75) ∧ ab_fk 1 6 = 3 ∧ ab_rf ab_RF 5 6 = some 12 := by decide +kernel
theorem fq1_31_17 : (ab_fd 1 31 = some (1, 6, 134) ∧ ab_ly 17 = (0, 1) ∧ 17 < 75) ∧ ab_fk 1 6 = 3 ∧ ab_rf ab_RF 17 6 = some 24 := by decide +kernel
theorem fq1_34_5 : (ab_fd 1 34 = some (1, 7, 135) ∧ ab_ly 5 = (0, 1) ∧ 5 < 75) ∧ ab_fk 1 7 = 3 ∧ ab_rf ab_RF 5 7 = some 13 := by decide +kernel
theorem fq1_34_17 : (ab_fd 1 34 = some (1, 7, 135) ∧ ab_ly 17 = (0, 1) ∧ 17 < 75) ∧ ab_fk 1 7 = 3 ∧ ab_rf ab_RF 17 7 = some 25 := by decide +kernel
theorem fq1_40_5 : (ab_fd 1 40 = some (1, 9, 137) ∧ ab_ly 5 = (0, 1) ∧ 5 < 75) ∧ ab_fk 1 9 = 3 ∧ ab_rf ab_RF 5 9 = some 15 := by decide +kernel
theorem fq1_40_17 : (ab_fd 1 40 = some (1, 9, 137) ∧ ab_ly 17 = (0, 1) ∧ 17 < 75) ∧ ab_fk 1 9 = 3 ∧ ab_rf ab_RF 17 9 = some 27 := by decide +kernel
theorem fq1_37_5 : (ab_fd 1 37 = some (1, 8, 136) ∧ ab_ly 5 = (0, 1) ∧ 5 < 75) ∧ ab_fk 1 8 = 3 ∧ ab_rf ab_RF 5 8 = some 14 := by decide +kernel
theorem fq1_37_17 : (ab_fd 1 37 = some (1, 8, 136) ∧ ab_ly 17 = (0, 1) ∧ 17 < 75) ∧ ab_fk 1 8 = 3 ∧ ab_rf ab_RF 17 8 = some 26 := by decide +kernel
theorem fq1_43_5 : (ab_fd 1 43 = some (1, 10, 139) ∧ ab_ly 5 = (0, 1) ∧ 5 < 75) ∧ ab_fk 1 10 = 3 ∧ ab_rf ab_RF 5 10 = some 16 := by decide +kernel
theorem fq1_43_17 : (ab_fd 1 43 = some (1, 10, 139) ∧ ab_ly 17 = (0, 1) ∧ 17 < 75) ∧ ab_fk 1 10 = 3 ∧ ab_rf ab_RF 17 10 = some 28 := by decide +kernel
theorem fq1_54_5 : (ab_fd 1 54 = some (1, 13, 144) ∧ ab_ly 5 = (0, 1) ∧ 5 < 75) ∧ ab_fk 1 13 = 2 := by decide +kernel
theorem fq1_54_17 : (ab_fd 1 54 = some (1, 13, 144) ∧ ab_ly 17 = (0, 1) ∧ 17 < 75) ∧ ab_fk 1 13 = 2 := by decide +kernel
theorem fq1_57_5 : (ab_fd 1 57 = some (1, 14, 147) ∧ ab_ly 5 = (0, 1) ∧ 5 < 75) ∧ ab_fk 1 14 = 0 := by decide +kernel
theorem fq1_57_17 : (ab_fd 1 57 = some (1, 14, 147) ∧ ab_ly 17 = (0, 1) ∧ 17 < 75) ∧ ab_fk 1 14 = 0 := by decide +kernel
theorem fq1_60_5 : (ab_fd 1 60 = some (1, 15, 149) ∧ ab_ly 5 = (0, 1) ∧ 5 < 75) ∧ ab_fk 1 15 = 0 := by decide +kernel
theorem fq1_60_17 : (ab_fd 1 60 = some (1, 15, 149) ∧ ab_ly 17 = (0, 1) ∧ 17 < 75) ∧ ab_fk 1 15 = 0 := by decide +kernel
theorem fq2_21_39 : (ab_fd 2 21 = some (2, 3, 271) ∧ ab_ly 39 = (0, 2) ∧ 39 < 75) ∧ ab_fk 2 3 = 0 := by decide +kernel
theorem fq2_11_39 : (ab_fd 2 11 = some (2, 0, 268) ∧ ab_ly 39 = (0, 2) ∧ 39 < 75) ∧ ab_fk 2 0 = 3 ∧ ab_rf ab_RF 39 0 = some 40 := by decide +kernel
theorem fq2_25_39 : (ab_fd 2 25 = some (2, 4, 273) ∧ ab_ly 39 = (0, 2) ∧ 39 < 75) ∧ ab_fk 2 4 = 0 := by decide +kernel
theorem fq2_28_39 : (ab_fd 2 28 = some (2, 5, 274) ∧ ab_ly 39 = (0, 2) ∧ 39 < 75) ∧ ab_fk 2 5 = 0 := by decide +kernel
theorem fq2_31_39 : (ab_fd 2 31 = some (2, 6, 275) ∧ ab_ly 39 = (0, 2) ∧ 39 < 75) ∧ ab_fk 2 6 = 0 := by decide +kernel
theorem fq2_15_39 : (ab_fd 2 15 = some (2, 1, 269) ∧ ab_ly 39 = (0, 2) ∧ 39 < 75) ∧ ab_fk 2 1 = 3 ∧ ab_rf ab_RF 39 1 = some 41 := by decide +kernel
theorem fq2_18_39 : (ab_fd 2 18 = some (2, 2, 270) ∧ ab_ly 39 = (0, 2) ∧ 39 < 75) ∧ ab_fk 2 2 = 3 ∧ ab_rf ab_RF 39 2 = some 42 := by decide +kernel
theorem fq3_15_43 : (ab_fd 3 15 = some (3, 1, 299) ∧ ab_ly 43 = (0, 3) ∧ 43 < 75) ∧ ab_fk 3 1 = 3 ∧ ab_rf ab_RF 43 1 = some 45 := by decide +kernel
theorem fq3_18_43 : (ab_fd 3 18 = some (3, 2, 301) ∧ ab_ly 43 = (0, 3) ∧ 43 < 75) ∧ ab_fk 3 2 = 3 ∧ ab_rf ab_RF 43 2 = some 46 := by decide +kernel
theorem fq3_11_43 : (ab_fd 3 11 = some (3, 0, 298) ∧ ab_ly 43 = (0, 3) ∧ 43 < 75) ∧ ab_fk 3 0 = 3 ∧ ab_rf ab_RF 43 0 = some 44 := by decide +kernel
theorem fq4_9_29 : (ab_fd 4 9 = some (4, 0, 194) ∧ ab_ly 29 = (0, 4) ∧ 29 < 75) ∧ ab_fk 4 0 = 1 := by decide +kernel
theorem fq4_15_29 : (ab_fd 4 15 = some (4, 1, 196) ∧ ab_ly 29 = (0, 4) ∧ 29 < 75) ∧ ab_fk 4 1 = 0 := by decide +kernel
theorem fq4_43_5 : (ab_fd 4 43 = some (1, 5, 132) ∧ ab_ly 5 = (0, 1) ∧ 5 < 75) ∧ ab_fk 1 5 = 3 ∧ ab_rf ab_RF 5 5 = some 11 := by decide +kernel
theorem fq4_43_17 : (ab_fd 4 43 = some (1, 5, 132) ∧ ab_ly 17 = (0, 1) ∧ 17 < 75) ∧ ab_fk 1 5 = 3 ∧ ab_rf ab_RF 17 5 = some 23 := by decide +kernel
theorem fq4_47_5 : (ab_fd 4 47 = some (1, 0, 118) ∧ ab_ly 5 = (0, 1) ∧ 5 < 75) ∧ ab_fk 1 0 = 3 ∧ ab_rf ab_RF 5 0 = some 6 := by decide +kernel
theorem fq4_47_17 : (ab_fd 4 47 = some (1, 0, 118) ∧ ab_ly 17 = (0, 1) ∧ 17 < 75) ∧ ab_fk 1 0 = 3 ∧ ab_rf ab_RF 17 0 = some 18 := by decide +kernel
theorem fq4_50_5 : (ab_fd 4 50 = some (1, 4, 128) ∧ ab_ly 5 = (0, 1) ∧ 5 < 75) ∧ ab_fk 1 4 = 3 ∧ ab_rf ab_RF 5 4 = some 10 := by decide +kernel
theorem fq4_50_17 : (ab_fd 4 50 = some (1, 4, 128) ∧ ab_ly 17 = (0, 1) ∧ 17 < 75) ∧ ab_fk 1 4 = 3 ∧ ab_rf ab_RF 17 4 = some 22 := by decide +kernel
theorem fq4_53_5 : (ab_fd 4 53 = some (1, 1, 121) ∧ ab_ly 5 = (0, 1) ∧ 5 < 75) ∧ ab_fk 1 1 = 3 ∧ ab_rf ab_RF 5 1 = some 7 := by decide +kernel
theorem fq4_53_17 : (ab_fd 4 53 = some (1, 1, 121) ∧ ab_ly 17 = (0, 1) ∧ 17 < 75) ∧ ab_fk 1 1 = 3 ∧ ab_rf ab_RF 17 1 = some 19 := by decide +kernel
theorem fq4_56_5 : (ab_fd 4 56 = some (1, 13, 145) ∧ ab_ly 5 = (0, 1) ∧ 5 < 75) ∧ ab_fk 1 13 = 2 := by decide +kernel
theorem fq4_56_17 : (ab_fd 4 56 = some (1, 13, 145) ∧ ab_ly 17 = (0, 1) ∧ 17 < 75) ∧ ab_fk 1 13 = 2 := by decide +kernel
theorem fq4_23_29 : (ab_fd 4 23 = some (4, 3, 200) ∧ ab_ly 29 = (0, 4) ∧ 29 < 75) ∧ ab_fk 4 3 = 2 := by decide +kernel
theorem fq4_19_29 : (ab_fd 4 19 = some (4, 2, 198) ∧ ab_ly 29 = (0, 4) ∧ 29 < 75) ∧ ab_fk 4 2 = 2 := by decide +kernel
theorem fq5_25_1 : (ab_fd 5 25 = some (5, 4, 92) ∧ ab_ly 1 = (0, 5) ∧ 1 < 75) ∧ ab_fk 5 4 = 0 := by decide +kernel
theorem fq5_21_1 : (ab_fd 5 21 = some (5, 3, 90) ∧ ab_ly 1 = (0, 5) ∧ 1 < 75) ∧ ab_fk 5 3 = 0 := by decide +kernel
theorem fq5_11_1 : (ab_fd 5 11 = some (5, 0, 87) ∧ ab_ly 1 = (0, 5) ∧ 1 < 75) ∧ ab_fk 5 0 = 3 ∧ ab_rf ab_RF 1 0 = some 2 := by decide +kernel
theorem fq5_15_1 : (ab_fd 5 15 = some (5, 1, 88) ∧ ab_ly 1 = (0, 5) ∧ 1 < 75) ∧ ab_fk 5 1 = 3 ∧ ab_rf ab_RF 1 1 = some 3 := by decide +kernel
theorem fq5_18_1 : (ab_fd 5 18 = some (5, 2, 89) ∧ ab_ly 1 = (0, 5) ∧ 1 < 75) ∧ ab_fk 5 2 = 3 ∧ ab_rf ab_RF 1 2 = some 4 := by decide +kernel
theorem fq5_28_1 : (ab_fd 5 28 = some (5, 5, 94) ∧ ab_ly 1 = (0, 5) ∧ 1 < 75) ∧ ab_fk 5 5 = 0 := by decide +kernel
theorem fq6_18_30 : (ab_fd 6 18 = some (6, 2, 220) ∧ ab_ly 30 = (0, 6) ∧ 30 < 75) ∧ ab_fk 6 2 = 0 := by decide +kernel
theorem fq6_22_30 : (ab_fd 6 22 = some (6, 3, 222) ∧ ab_ly 30 = (0, 6) ∧ 30 < 75) ∧ ab_fk 6 3 = 0 := by decide +kernel
theorem fq6_9_30 : (ab_fd 6 9 = some (6, 0, 217) ∧ ab_ly 30 = (0, 6) ∧ 30 < 75) ∧ ab_fk 6 0 = 3 ∧ ab_rf ab_RF 30 0 = some 31 := by decide +kernel
theorem fq6_25_5 : (ab_fd 6 25 = some (1, 4, 127) ∧ ab_ly 5 = (0, 1) ∧ 5 < 75) ∧ ab_fk 1 4 = 3 ∧ ab_rf ab_RF 5 4 = some 10 := by decide +kernel
theorem fq6_25_17 : (ab_fd 6 25 = some (1, 4, 127) ∧ ab_ly 17 = (0, 1) ∧ 17 < 75) ∧ ab_fk 1 4 = 3 ∧ ab_rf ab_RF 17 4 = some 22 := by decide +kernel
theorem fq6_15_30 : (ab_fd 6 15 = some (6, 1, 218) ∧ ab_ly 30 = (0, 6) ∧ 30 < 75) ∧ ab_fk 6 1 = 3 ∧ ab_rf ab_RF 30 1 = some 32 := by decide +kernel
theorem fq6_34_5 : (ab_fd 6 34 = some (1, 5, 131) ∧ ab_ly 5 = (0, 1) ∧ 5 < 75) ∧ ab_fk 1 5 = 3 ∧ ab_rf ab_RF 5 5 = some 11 := by decide +kernel
theorem fq6_34_17 : (ab_fd 6 34 = some (1, 5, 131) ∧ ab_ly 17 = (0, 1) ∧ 17 < 75) ∧ ab_fk 1 5 = 3 ∧ ab_rf ab_RF 17 5 = some 23 := by decide +kernel
theorem fq7_10_0 : (ab_fd 7 10 = some (7, 0, 310) ∧ ab_ly 0 = (0, 7) ∧ 0 < 75) ∧ ab_fk 7 0 = 3 ∧ ab_rf ab_RF 0 0 = some 1 := by decide +kernel
theorem fq7_68_0 : (ab_fd 7 68 = some (7, 10, 320) ∧ ab_ly 0 = (0, 7) ∧ 0 < 75) ∧ ab_fk 7 10 = 1 := by decide +kernel
theorem fq7_94_1 : (ab_fd 7 94 = some (5, 3, 91) ∧ ab_ly 1 = (0, 5) ∧ 1 < 75) ∧ ab_fk 5 3 = 0 := by decide +kernel
theorem fq7_57_0 : (ab_fd 7 57 = some (7, 7, 317) ∧ ab_ly 0 = (0, 7) ∧ 0 < 75) ∧ ab_fk 7 7 = 3 ∧ ab_rf ab_RF 0 7 = some 43 := by decide +kernel
theorem fq7_107_43 : (ab_fd 7 107 = some (3, 2, 302) ∧ ab_ly 43 = (0, 3) ∧ 43 < 75) ∧ ab_fk 3 2 = 3 ∧ ab_rf ab_RF 43 2 = some 46 := by decide +kernel
theorem fq7_118_1 : (ab_fd 7 118 = some (5, 5, 95) ∧ ab_ly 1 = (0, 5) ∧ 1 < 75) ∧ ab_fk 5 5 = 0 := by decide +kernel
theorem fq7_19_0 : (ab_fd 7 19 = some (7, 1, 311) ∧ ab_ly 0 = (0, 7) ∧ 0 < 75) ∧ ab_fk 7 1 = 3 ∧ ab_rf ab_RF 0 1 = some 5 := by decide +kernel
theorem fq7_124_5 : (ab_fd 7 124 = some (1, 0, 119) ∧ ab_ly 5 = (0, 1) ∧ 5 < 75) ∧ ab_fk 1 0 = 3 ∧ ab_rf ab_RF 5 0 = some 6 := by decide +kernel
theorem fq7_124_17 : (ab_fd 7 124 = some (1, 0, 119) ∧ ab_ly 17 = (0, 1) ∧ 17 < 75) ∧ ab_fk 1 0 = 3 ∧ ab_rf ab_RF 17 0 = some 18 := by decide +kernel
theorem fq7_127_5 : (ab_fd 7 127 = some (1, 5, 133) ∧ ab_ly 5 = (0, 1) ∧ 5 < 75) ∧ ab_fk 1 5 = 3 ∧ ab_rf ab_RF 5 5 = some 11 := by decide +kernel
theorem fq7_127_17 : (ab_fd 7 127 = some (1, 5, 133) ∧ ab_ly 17 = (0, 1) ∧ 17 < 75) ∧ ab_fk 1 5 = 3 ∧ ab_rf ab_RF 17 5 = some 23 := by decide +kernel
theorem fq7_130_5 : (ab_fd 7 130 = some (1, 4, 129) ∧ ab_ly 5 = (0, 1) ∧ 5 < 75) ∧ ab_fk 1 4 = 3 ∧ ab_rf ab_RF 5 4 = some 10 := by decide +kernel
theorem fq7_130_17 : (ab_fd 7 130 = some (1, 4, 129) ∧ ab_ly 17 = (0, 1) ∧ 17 < 75) ∧ ab_fk 1 4 = 3 ∧ ab_rf ab_RF 17 4 = some 22 := by decide +kernel
theorem fq7_140_5 : (ab_fd 7 140 = some (1, 9, 138) ∧ ab_ly 5 = (0, 1) ∧ 5 < 75) ∧ ab_fk 1 9 = 3 ∧ ab_rf ab_RF 5 9 = some 15 := by decide +kernel
theorem fq7_140_17 : (ab_fd 7 140 = some (1, 9, 138) ∧ ab_ly 17 = (0, 1) ∧ 17 < 75) ∧ ab_fk 1 9 = 3 ∧ ab_rf ab_RF 17 9 = some 27 := by decide +kernel
theorem fq7_144_5 : (ab_fd 7 144 = some (1, 11, 142) ∧ ab_ly 5 = (0, 1) ∧ 5 < 75) ∧ ab_fk 1 11 = 2 := by decide +kernel
theorem fq7_144_17 : (ab_fd 7 144 = some (1, 11, 142) ∧ ab_ly 17 = (0, 1) ∧ 17 < 75) ∧ ab_fk 1 11 = 2 := by decide +kernel
theorem fq7_152_5 : (ab_fd 7 152 = some (1, 1, 122) ∧ ab_ly 5 = (0, 1) ∧ 5 < 75) ∧ ab_fk 1 1 = 3 ∧ ab_rf ab_RF 5 1 = some 7 := by decide +kernel
theorem fq7_152_17 : (ab_fd 7 152 = some (1, 1, 122) ∧ ab_ly 17 = (0, 1) ∧ 17 < 75) ∧ ab_fk 1 1 = 3 ∧ ab_rf ab_RF 17 1 = some 19 := by decide +kernel
theorem fq7_155_5 : (ab_fd 7 155 = some (1, 10, 140) ∧ ab_ly 5 = (0, 1) ∧ 5 < 75) ∧ ab_fk 1 10 = 3 ∧ ab_rf ab_RF 5 10 = some 16 := by decide +kernel
theorem fq7_155_17 : (ab_fd 7 155 = some (1, 10, 140) ∧ ab_ly 17 = (0, 1) ∧ 17 < 75) ∧ ab_fk 1 10 = 3 ∧ ab_rf ab_RF 17 10 = some 28 := by decide +kernel
theorem fq7_165_5 : (ab_fd 7 165 = some (1, 3, 125) ∧ ab_ly 5 = (0, 1) ∧ 5 < 75) ∧ ab_fk 1 3 = 3 ∧ ab_rf ab_RF 5 3 = some 9 := by decide +kernel
theorem fq7_165_17 : (ab_fd 7 165 = some (1, 3, 125) ∧ ab_ly 17 = (0, 1) ∧ 17 < 75) ∧ ab_fk 1 3 = 3 ∧ ab_rf ab_RF 17 3 = some 21 := by decide +kernel
theorem fq7_50_0 : (ab_fd 7 50 = some (7, 6, 316) ∧ ab_ly 0 = (0, 7) ∧ 0 < 75) ∧ ab_fk 7 6 = 3 ∧ ab_rf ab_RF 0 6 = some 39 := by decide +kernel
theorem fq7_179_39 : (ab_fd 7 179 = some (2, 3, 272) ∧ ab_ly 39 = (0, 2) ∧ 39 < 75) ∧ ab_fk 2 3 = 0 := by decide +kernel
theorem fq7_186_39 : (ab_fd 7 186 = some (2, 6, 276) ∧ ab_ly 39 = (0, 2) ∧ 39 < 75) ∧ ab_fk 2 6 = 0 := by decide +kernel
theorem fq7_218_5 : (ab_fd 7 218 = some (1, 14, 148) ∧ ab_ly 5 = (0, 1) ∧ 5 < 75) ∧ ab_fk 1 14 = 0 := by decide +kernel
theorem fq7_218_17 : (ab_fd 7 218 = some (1, 14, 148) ∧ ab_ly 17 = (0, 1) ∧ 17 < 75) ∧ ab_fk 1 14 = 0 := by decide +kernel
theorem fq7_221_5 : (ab_fd 7 221 = some (1, 15, 150) ∧ ab_ly 5 = (0, 1) ∧ 5 < 75) ∧ ab_fk 1 15 = 0 := by decide +kernel
theorem fq7_221_17 : (ab_fd 7 221 = some (1, 15, 150) ∧ ab_ly 17 = (0, 1) ∧ 17 < 75) ∧ ab_fk 1 15 = 0 := by decide +kernel
theorem fq7_224_5 : (ab_fd 7 224 = some (1, 13, 146) ∧ ab_ly 5 = (0, 1) ∧ 5 < 75) ∧ ab_fk 1 13 = 2 := by decide +kernel
theorem fq7_224_17 : (ab_fd 7 224 = some (1, 13, 146) ∧ ab_ly 17 = (0, 1) ∧ 17 < 75) ∧ ab_fk 1 13 = 2 := by decide +kernel
theorem fq7_29_0 : (ab_fd 7 29 = some (7, 3, 313) ∧ ab_ly 0 = (0, 7) ∧ 0 < 75) ∧ ab_fk 7 3 = 3 ∧ ab_rf ab_RF 0 3 = some 29 := by decide +kernel
theorem fq7_23_0 : (ab_fd 7 23 = some (7, 2, 312) ∧ ab_ly 0 = (0, 7) ∧ 0 < 75) ∧ ab_fk 7 2 = 3 ∧ ab_rf ab_RF 0 2 = some 17 := by decide +kernel
theorem fq7_231_29 : (ab_fd 7 231 = some (4, 1, 197) ∧ ab_ly 29 = (0, 4) ∧ 29 < 75) ∧ ab_fk 4 1 = 0 := by decide +kernel
theorem fq7_234_29 : (ab_fd 7 234 = some (4, 2, 199) ∧ ab_ly 29 = (0, 4) ∧ 29 < 75) ∧ ab_fk 4 2 = 2 := by decide +kernel
theorem fq7_237_29 : (ab_fd 7 237 = some (4, 3, 201) ∧ ab_ly 29 = (0, 4) ∧ 29 < 75) ∧ ab_fk 4 3 = 2 := by decide +kernel
theorem fq7_65_0 : (ab_fd 7 65 = some (7, 9, 319) ∧ ab_ly 0 = (0, 7) ∧ 0 < 75) ∧ ab_fk 7 9 = 3 ∧ ab_rf ab_RF 0 9 = some 48 := by decide +kernel
theorem fq7_36_0 : (ab_fd 7 36 = some (7, 4, 314) ∧ ab_ly 0 = (0, 7) ∧ 0 < 75) ∧ ab_fk 7 4 = 3 ∧ ab_rf ab_RF 0 4 = some 30 := by decide +kernel
theorem fq7_245_30 : (ab_fd 7 245 = some (6, 3, 223) ∧ ab_ly 30 = (0, 6) ∧ 30 < 75) ∧ ab_fk 6 3 = 0 := by decide +kernel
theorem fq7_248_30 : (ab_fd 7 248 = some (6, 2, 221) ∧ ab_ly 30 = (0, 6) ∧ 30 < 75) ∧ ab_fk 6 2 = 0 := by decide +kernel
theorem fq7_249_30 : (ab_fd 7 249 = some (6, 1, 219) ∧ ab_ly 30 = (0, 6) ∧ 30 < 75) ∧ ab_fk 6 1 = 3 ∧ ab_rf ab_RF 30 1 = some 32 := by decide +kernel
theorem fq7_43_0 : (ab_fd 7 43 = some (7, 5, 315) ∧ ab_ly 0 = (0, 7) ∧ 0 < 75) ∧ ab_fk 7 5 = 3 ∧ ab_rf ab_RF 0 5 = some 33 := by decide +kernel
theorem fq7_262_33 : (ab_fd 7 262 = some (0, 5, 245) ∧ ab_ly 33 = (0, 0) ∧ 33 < 75) ∧ ab_fk 0 5 = 0 := by decide +kernel
theorem fq7_72_0 : (ab_fd 7 72 = some (7, 11, 321) ∧ ab_ly 0 = (0, 7) ∧ 0 < 75) ∧ ab_fk 7 11 = 0 := by decide +kernel
theorem fq7_300_43 : (ab_fd 7 300 = some (3, 1, 300) ∧ ab_ly 43 = (0, 3) ∧ 43 < 75) ∧ ab_fk 3 1 = 3 ∧ ab_rf ab_RF 43 1 = some 45 := by decide +kernel
theorem fq7_316_1 : (ab_fd 7 316 = some (5, 4, 93) ∧ ab_ly 1 = (0, 5) ∧ 1 < 75) ∧ ab_fk 5 4 = 0 := by decide +kernel
theorem fq7_353_29 : (ab_fd 7 353 = some (4, 0, 195) ∧ ab_ly 29 = (0, 4) ∧ 29 < 75) ∧ ab_fk 4 0 = 1 := by decide +kernel
theorem fq7_61_0 : (ab_fd 7 61 = some (7, 8, 318) ∧ ab_ly 0 = (0, 7) ∧ 0 < 75) ∧ ab_fk 7 8 = 3 ∧ ab_rf ab_RF 0 8 = some 47 := by decide +kernel
theorem fq8_105_49 : (ab_fd 8 105 = some (8, 0, 832) ∧ ab_ly 49 = (0, 8) ∧ 49 < 75) ∧ ab_fk 8 0 = 0 := by decide +kernel
theorem fq8_19_49 : (ab_fd 8 19 = some (8, 4, 836) ∧ ab_ly 49 = (0, 8) ∧ 49 < 75) ∧ ab_fk 8 4 = 3 ∧ ab_rf ab_RF 49 4 = some 53 := by decide +kernel
theorem fq8_7_49 : (ab_fd 8 7 = some (8, 1, 833) ∧ ab_ly 49 = (0, 8) ∧ 49 < 75) ∧ ab_fk 8 1 = 3 ∧ ab_rf ab_RF 49 1 = some 50 := by decide +kernel
theorem fq8_13_49 : (ab_fd 8 13 = some (8, 2, 834) ∧ ab_ly 49 = (0, 8) ∧ 49 < 75) ∧ ab_fk 8 2 = 3 ∧ ab_rf ab_RF 49 2 = some 51 := by decide +kernel
theorem fq8_16_49 : (ab_fd 8 16 = some (8, 3, 835) ∧ ab_ly 49 = (0, 8) ∧ 49 < 75) ∧ ab_fk 8 3 = 3 ∧ ab_rf ab_RF 49 3 = some 52 := by decide +kernel
theorem fq8_75_49 : (ab_fd 8 75 = some (8, 35, 867) ∧ ab_ly 49 = (0, 8) ∧ 49 < 75) ∧ ab_fk 8 35 = 3 ∧ ab_rf ab_RF 49 35 = some 70 := by decide +kernel
theorem fq8_82_49 : (ab_fd 8 82 = some (8, 37, 869) ∧ ab_ly 49 = (0, 8) ∧ 49 < 75) ∧ ab_fk 8 37 = 3 ∧ ab_rf ab_RF 49 37 = some 72 := by decide +kernel
theorem fq8_85_49 : (ab_fd 8 85 = some (8, 38, 870) ∧ ab_ly 49 = (0, 8) ∧ 49 < 75) ∧ ab_fk 8 38 = 3 ∧ ab_rf ab_RF 49 38 = some 73 := by decide +kernel
theorem fq8_22_49 : (ab_fd 8 22 = some (8, 5, 837) ∧ ab_ly 49 = (0, 8) ∧ 49 < 75) ∧ ab_fk 8 5 = 0 := by decide +kernel
theorem fq8_29_49 : (ab_fd 8 29 = some (8, 7, 839) ∧ ab_ly 49 = (0, 8) ∧ 49 < 75) ∧ ab_fk 8 7 = 3 ∧ ab_rf ab_RF 49 7 = some 55 := by decide +kernel
theorem fq8_32_49 : (ab_fd 8 32 = some (8, 8, 840) ∧ ab_ly 49 = (0, 8) ∧ 49 < 75) ∧ ab_fk 8 8 = 3 ∧ ab_rf ab_RF 49 8 = some 56 := by decide +kernel
theorem fq8_35_49 : (ab_fd 8 35 = some (8, 9, 841) ∧ ab_ly 49 = (0, 8) ∧ 49 < 75) ∧ ab_fk 8 9 = 3 ∧ ab_rf ab_RF 49 9 = some 57 := by decide +kernel
theorem fq8_41_49 : (ab_fd 8 41 = some (8, 11, 843) ∧ ab_ly 49 = (0, 8) ∧ 49 < 75) ∧ ab_fk 8 11 = 3 ∧ ab_rf ab_RF 49 11 = some 59 := by decide +kernel
theorem fq8_38_49 : (ab_fd 8 38 = some (8, 10, 842) ∧ ab_ly 49 = (0, 8) ∧ 49 < 75) ∧ ab_fk 8 10 = 3 ∧ ab_rf ab_RF 49 10 = some 58 := by decide +kernel
theorem fq8_45_49 : (ab_fd 8 45 = some (8, 12, 844) ∧ ab_ly 49 = (0, 8) ∧ 49 < 75) ∧ ab_fk 8 12 = 3 ∧ ab_rf ab_RF 49 12 = some 60 := by decide +kernel
theorem fq8_149_49 : (ab_fd 8 149 = some (8, 14, 846) ∧ ab_ly 49 = (0, 8) ∧ 49 < 75) ∧ ab_fk 8 14 = 2 := by decide +kernel
theorem fq8_48_49 : (ab_fd 8 48 = some (8, 13, 845) ∧ ab_ly 49 = (0, 8) ∧ 49 < 75) ∧ ab_fk 8 13 = 3 ∧ ab_rf ab_RF 49 13 = some 61 := by decide +kernel
theorem fq8_159_49 : (ab_fd 8 159 = some (8, 17, 849) ∧ ab_ly 49 = (0, 8) ∧ 49 < 75) ∧ ab_fk 8 17 = 2 := by decide +kernel
theorem fq8_51_49 : (ab_fd 8 51 = some (8, 15, 847) ∧ ab_ly 49 = (0, 8) ∧ 49 < 75) ∧ ab_fk 8 15 = 3 ∧ ab_rf ab_RF 49 15 = some 62 := by decide +kernel
theorem fq8_54_49 : (ab_fd 8 54 = some (8, 16, 848) ∧ ab_ly 49 = (0, 8) ∧ 49 < 75) ∧ ab_fk 8 16 = 3 ∧ ab_rf ab_RF 49 16 = some 63 := by decide +kernel
theorem fq8_189_49 : (ab_fd 8 189 = some (8, 18, 850) ∧ ab_ly 49 = (0, 8) ∧ 49 < 75) ∧ ab_fk 8 18 = 0 := by decide +kernel
theorem fq8_57_49 : (ab_fd 8 57 = some (8, 19, 851) ∧ ab_ly 49 = (0, 8) ∧ 49 < 75) ∧ ab_fk 8 19 = 3 ∧ ab_rf ab_RF 49 19 = some 64 := by decide +kernel
theorem fq8_192_49 : (ab_fd 8 192 = some (8, 20, 852) ∧ ab_ly 49 = (0, 8) ∧ 49 < 75) ∧ ab_fk 8 20 = 0 := by decide +kernel
theorem fq8_198_49 : (ab_fd 8 198 = some (8, 22, 854) ∧ ab_ly 49 = (0, 8) ∧ 49 < 75) ∧ ab_fk 8 22 = 0 := by decide +kernel
theorem fq8_60_49 : (ab_fd 8 60 = some (8, 23, 855) ∧ ab_ly 49 = (0, 8) ∧ 49 < 75) ∧ ab_fk 8 23 = 3 ∧ ab_rf ab_RF 49 23 = some 65 := by decide +kernel
theorem fq8_201_49 : (ab_fd 8 201 = some (8, 21, 853) ∧ ab_ly 49 = (0, 8) ∧ 49 < 75) ∧ ab_fk 8 21 = 0 := by decide +kernel
theorem fq8_63_49 : (ab_fd 8 63 = some (8, 24, 856) ∧ ab_ly 49 = (0, 8) ∧ 49 < 75) ∧ ab_fk 8 24 = 3 ∧ ab_rf ab_RF 49 24 = some 66 := by decide +kernel
theorem fq8_223_49 : (ab_fd 8 223 = some (8, 25, 857) ∧ ab_ly 49 = (0, 8) ∧ 49 < 75) ∧ ab_fk 8 25 = 2 := by decide +kernel
theorem fq8_226_49 : (ab_fd 8 226 = some (8, 26, 858) ∧ ab_ly 49 = (0, 8) ∧ 49 < 75) ∧ ab_fk 8 26 = 2 := by decide +kernel
theorem fq8_233_49 : (ab_fd 8 233 = some (8, 29, 861) ∧ ab_ly 49 = (0, 8) ∧ 49 < 75) ∧ ab_fk 8 29 = 0 := by decide +kernel
theorem fq8_236_49 : (ab_fd 8 236 = some (8, 27, 859) ∧ ab_ly 49 = (0, 8) ∧ 49 < 75) ∧ ab_fk 8 27 = 2 := by decide +kernel
theorem fq8_239_49 : (ab_fd 8 239 = some (8, 28, 860) ∧ ab_ly 49 = (0, 8) ∧ 49 < 75) ∧ ab_fk 8 28 = 2 := by decide +kernel
theorem fq8_242_49 : (ab_fd 8 242 = some (8, 30, 862) ∧ ab_ly 49 = (0, 8) ∧ 49 < 75) ∧ ab_fk 8 30 = 0 := by decide +kernel
theorem fq8_26_49 : (ab_fd 8 26 = some (8, 6, 838) ∧ ab_ly 49 = (0, 8) ∧ 49 < 75) ∧ ab_fk 8 6 = 3 ∧ ab_rf ab_RF 49 6 = some 54 := by decide +kernel
theorem fq8_254_49 : (ab_fd 8 254 = some (8, 31, 863) ∧ ab_ly 49 = (0, 8) ∧ 49 < 75) ∧ ab_fk 8 31 = 0 := by decide +kernel
theorem fq8_66_49 : (ab_fd 8 66 = some (8, 32, 864) ∧ ab_ly 49 = (0, 8) ∧ 49 < 75) ∧ ab_fk 8 32 = 3 ∧ ab_rf ab_RF 49 32 = some 67 := by decide +kernel
theorem fq8_69_49 : (ab_fd 8 69 = some (8, 33, 865) ∧ ab_ly 49 = (0, 8) ∧ 49 < 75) ∧ ab_fk 8 33 = 3 ∧ ab_rf ab_RF 49 33 = some 68 := by decide +kernel
theorem fq8_72_49 : (ab_fd 8 72 = some (8, 34, 866) ∧ ab_ly 49 = (0, 8) ∧ 49 < 75) ∧ ab_fk 8 34 = 3 ∧ ab_rf ab_RF 49 34 = some 69 := by decide +kernel
theorem fq8_271_49 : (ab_fd 8 271 = some (8, 40, 872) ∧ ab_ly 49 = (0, 8) ∧ 49 < 75) ∧ ab_fk 8 40 = 0 := by decide +kernel
theorem fq8_79_49 : (ab_fd 8 79 = some (8, 36, 868) ∧ ab_ly 49 = (0, 8) ∧ 49 < 75) ∧ ab_fk 8 36 = 3 ∧ ab_rf ab_RF 49 36 = some 71 := by decide +kernel
theorem fq8_88_49 : (ab_fd 8 88 = some (8, 39, 871) ∧ ab_ly 49 = (0, 8) ∧ 49 < 75) ∧ ab_fk 8 39 = 3 ∧ ab_rf ab_RF 49 39 = some 74 := by decide +kernel
section KROWS
variable {ls : ab_L} {st : List Value} {I : ab_I} {J : ab_J} {Q : Option Value → ab_I → ab_J → Prop} {x x1 x2 : Int32} {u u1 : Int64} {r r1 : Nat}
variable {a0 a1 a2 a3 a4 a5 a6 a7 a8 a9 a10 a11 a12 a13 a14 a15 a16 a17 a18 a19 : Option Value}
variable {p0 q0 p1 q1 p2 q2 p3 q3 p4 q4 p5 q5 : Int32} {pu0 qu0 pu1 qu1 pu2 qu2 pu3 qu3 pu4 qu4 pu5 qu5 : Int64} {pr0 qr0 pr1 qr1 pr2 qr2 pr3 qr3 pr4 qr4 pr5 qr5 : Nat}
theorem k1_0 : At 1 0 [some (.ref r), a1, a2, a3, a4, a5, a6] st I J Q ↔ At 1 1 [some (.ref r), a1, a2, a3, a4, a5, a6] (.ref r :: st) I J Q := A_aload_n (q := 0) (ab_io ci1 (by decide +kernel)) rfl
theorem k1_1 : At 1 1 ls st I J Q ↔ At 1 2 ls (.int (nI 0) :: st) I J Q := A_iconst (ab_io ci1 (by decide +kernel)) ic_0
theorem k1_2 : At 1 2 ls (.int x :: .ref 33 :: st) I J Q ↔ At 1 5 ls st (va_up I 33 (va_up (I 33) 5 x)) J Q := A_putI (ab_io ci1 (by decide +kernel)) ow1 fq0_27_33
theorem k1_5 : At 1 5 ls st I J Q ↔ At 1 6 ls (.int (nI 0) :: st) I J Q := A_iconst (ab_io ci1 (by decide +kernel)) ic_0
theorem k1_6 : At 1 6 [a0, a1, a2, a3, a4, a5, a6] (.int x :: st) I J Q ↔ At 1 8 [a0, a1, a2, ab_nv a3, some (.int x), a5, a6] st I J Q := A_istore (q := 4) (ab_io ci1 (by decide +kernel)) (Nat.le_of_ble_eq_true rfl) rfl
theorem k1_8 : At 1 8 [a0, a1, a2, a3, some (.int x), a5, a6] st I J Q ↔ At 1 10 [a0, a1, a2, a3, some (.int x), a5, a6] (.int x :: st) I J Q := A_iload (q := 4) (ab_io ci1 (by decide +kernel)) rfl
theorem k1_10 : At 1 10 ls st I J Q ↔ At 1 12 ls (.int (nI 12) :: st) I J Q := A_bipush (ab_io ci1 (by decide +kernel)) bc_12
theorem k1_12 : At 1 12 ls (.int x1 :: .int x :: st) I J Q ↔ if x1 ≤ x then At 1 91 ls st I J Q else At 1 15 ls st I J Q := A_if_icmp_ge (o := 79) (ab_io ci1 (by decide +kernel)) (by decide)
theorem k1_15 : At 1 15 [a0, some (.ref r), a2, a3, a4, a5, a6] st I J Q ↔ At 1 16 [a0, some (.ref r), a2, a3, a4, a5, a6] (.ref r :: st) I J Q := A_aload_n (q := 1) (ab_io ci1 (by decide +kernel)) rfl
theorem k1_16_5 : At 1 16 ls (.ref 5 :: st) I J Q ↔ At 1 19 ls (.ref 6 :: st) I J Q := A_getR (ab_io ci1 (by decide +kernel)) ow1 fq0_34_5
theorem k1_16_17 : At 1 16 ls (.ref 17 :: st) I J Q ↔ At 1 19 ls (.ref 18 :: st) I J Q := A_getR (ab_io ci1 (by decide +kernel)) ow1 fq0_34_17
theorem k1_19 : At 1 19 ls st I J Q ↔ At 1 20 ls (.int (nI 4) :: st) I J Q := A_iconst (ab_io ci1 (by decide +kernel)) ic_4
theorem k1_20 : At 1 20 [a0, a1, a2, a3, some (.int x), a5, a6] st I J Q ↔ At 1 22 [a0, a1, a2, a3, some (.int x), a5, a6] (.int x :: st) I J Q := A_iload (q := 4) (ab_io ci1 (by decide +kernel)) rfl
theorem k1_22 : At 1 22 ls (.int x1 :: .int x :: st) I J Q ↔ At 1 23 ls (.int (x * x1) :: st) I J Q := A_imul (ab_io ci1 (by decide +kernel))
theorem k1_23 : At 1 23 [a0, a1, some (.int x), a3, a4, a5, a6] st I J Q ↔ At 1 24 [a0, a1, some (.int x), a3, a4, a5, a6] (.int x :: st) I J Q := A_iload_n (q := 2) (ab_io ci1 (by decide +kernel)) rfl
theorem k1_24 : At 1 24 ls (.int x1 :: .int x :: st) I J Q ↔ At 1 25 ls (.int (x + x1) :: st) I J Q := A_iadd (ab_io ci1 (by decide +kernel))
theorem k1_25 : At 1 25 ls (.int x :: .ref r :: st) I J Q ↔ ((ab_ly r).1 = 1 ∧ r < 75 ∧ 0 ≤ x.toInt ∧ x.toInt < (ab_ly r).2) ∧ At 1 26 ls (.int (I r x.toNatClampNeg) :: st) I J Q := A_iaload (ab_io ci1 (by decide +kernel))
theorem k1_26 : At 1 26 [a0, a1, a2, a3, a4, a5, a6] (.int x :: st) I J Q ↔ At 1 28 [a0, a1, a2, a3, ab_nv a4, some (.int x), a6] st I J Q := A_istore (q := 5) (ab_io ci1 (by decide +kernel)) (Nat.le_of_ble_eq_true rfl) rfl
theorem k1_28 : At 1 28 [a0, some (.ref r), a2, a3, a4, a5, a6] st I J Q ↔ At 1 29 [a0, some (.ref r), a2, a3, a4, a5, a6] (.ref r :: st) I J Q := A_aload_n (q := 1) (ab_io ci1 (by decide +kernel)) rfl
theorem k1_29_5 : At 1 29 ls (.ref 5 :: st) I J Q ↔ At 1 32 ls (.ref 6 :: st) I J Q := A_getR (ab_io ci1 (by decide +kernel)) ow1 fq0_34_5
theorem k1_29_17 : At 1 29 ls (.ref 17 :: st) I J Q ↔ At 1 32 ls (.ref 18 :: st) I J Q := A_getR (ab_io ci1 (by decide +kernel)) ow1 fq0_34_17
theorem k1_32 : At 1 32 ls st I J Q ↔ At 1 33 ls (.int (nI 4) :: st) I J Q := A_iconst (ab_io ci1 (by decide +kernel)) ic_4
theorem k1_33 : At 1 33 [a0, a1, a2, a3, some (.int x), a5, a6] st I J Q ↔ At 1 35 [a0, a1, a2, a3, some (.int x), a5, a6] (.int x :: st) I J Q := A_iload (q := 4) (ab_io ci1 (by decide +kernel)) rfl
theorem k1_35 : At 1 35 ls (.int x1 :: .int x :: st) I J Q ↔ At 1 36 ls (.int (x * x1) :: st) I J Q := A_imul (ab_io ci1 (by decide +kernel))
theorem k1_36 : At 1 36 [a0, a1, a2, some (.int x), a4, a5, a6] st I J Q ↔ At 1 37 [a0, a1, a2, some (.int x), a4, a5, a6] (.int x :: st) I J Q := A_iload_n (q := 3) (ab_io ci1 (by decide +kernel)) rfl
theorem k1_37 : At 1 37 ls (.int x1 :: .int x :: st) I J Q ↔ At 1 38 ls (.int (x + x1) :: st) I J Q := A_iadd (ab_io ci1 (by decide +kernel))
theorem k1_38 : At 1 38 ls (.int x :: .ref r :: st) I J Q ↔ ((ab_ly r).1 = 1 ∧ r < 75 ∧ 0 ≤ x.toInt ∧ x.toInt < (ab_ly r).2) ∧ At 1 39 ls (.int (I r x.toNatClampNeg) :: st) I J Q := A_iaload (ab_io ci1 (by decide +kernel))
theorem k1_39 : At 1 39 [a0, a1, a2, a3, a4, a5, a6] (.int x :: st) I J Q ↔ At 1 41 [a0, a1, a2, a3, a4, ab_nv a5, some (.int x)] st I J Q := A_istore (q := 6) (ab_io ci1 (by decide +kernel)) (Nat.le_of_ble_eq_true rfl) rfl
theorem k1_41 : At 1 41 [a0, a1, a2, a3, a4, some (.int x), a6] st I J Q ↔ At 1 43 [a0, a1, a2, a3, a4, some (.int x), a6] (.int x :: st) I J Q := A_iload (q := 5) (ab_io ci1 (by decide +kernel)) rfl
theorem k1_43 : At 1 43 ls st I J Q ↔ At 1 44 ls (.int (-1) :: st) I J Q := A_iconst (ab_io ci1 (by decide +kernel)) ic_m1
theorem k1_44 : At 1 44 ls (.int x1 :: .int x :: st) I J Q ↔ if x = x1 then At 1 85 ls st I J Q else At 1 47 ls st I J Q := A_if_icmp_eq (o := 41) (ab_io ci1 (by decide +kernel)) (by decide)
theorem k1_47 : At 1 47 [a0, a1, a2, a3, a4, a5, some (.int x)] st I J Q ↔ At 1 49 [a0, a1, a2, a3, a4, a5, some (.int x)] (.int x :: st) I J Q := A_iload (q := 6) (ab_io ci1 (by decide +kernel)) rfl
theorem k1_49 : At 1 49 ls st I J Q ↔ At 1 50 ls (.int (-1) :: st) I J Q := A_iconst (ab_io ci1 (by decide +kernel)) ic_m1
theorem k1_50 : At 1 50 ls (.int x1 :: .int x :: st) I J Q ↔ if x = x1 then At 1 85 ls st I J Q else At 1 53 ls st I J Q := A_if_icmp_eq (o := 35) (ab_io ci1 (by decide +kernel)) (by decide)
theorem k1_53 : At 1 53 [some (.ref r), a1, a2, a3, a4, a5, a6] st I J Q ↔ At 1 54 [some (.ref r), a1, a2, a3, a4, a5, a6] (.ref r :: st) I J Q := A_aload_n (q := 0) (ab_io ci1 (by decide +kernel)) rfl
theorem k1_54 : At 1 54 ls (.ref 33 :: st) I J Q ↔ At 1 57 ls (.ref 34 :: st) I J Q := A_getR (ab_io ci1 (by decide +kernel)) ow1 fq0_9_33
theorem k1_57 : At 1 57 [some (.ref r), a1, a2, a3, a4, a5, a6] st I J Q ↔ At 1 58 [some (.ref r), a1, a2, a3, a4, a5, a6] (.ref r :: st) I J Q := A_aload_n (q := 0) (ab_io ci1 (by decide +kernel)) rfl
theorem k1_58 : At 1 58 ls (.ref 33 :: st) I J Q ↔ At 1 61 ls (.int (I 33 5) :: st) I J Q := A_getI (ab_io ci1 (by decide +kernel)) ow1 fq0_27_33
theorem k1_61 : At 1 61 [a0, a1, a2, a3, a4, some (.int x), a6] st I J Q ↔ At 1 63 [a0, a1, a2, a3, a4, some (.int x), a6] (.int x :: st) I J Q := A_iload (q := 5) (ab_io ci1 (by decide +kernel)) rfl
theorem k1_63 : At 1 63 ls (.int x1 :: .int x :: .ref r :: st) I J Q ↔ ((ab_ly r).1 = 1 ∧ r < 75 ∧ 0 ≤ x.toInt ∧ x.toInt < (ab_ly r).2) ∧ At 1 64 ls st (va_up I r (va_up (I r) x.toNatClampNeg x1)) J Q := A_iastore (ab_io ci1 (by decide +kernel))
theorem k1_64 : At 1 64 [some (.ref r), a1, a2, a3, a4, a5, a6] st I J Q ↔ At 1 65 [some (.ref r), a1, a2, a3, a4, a5, a6] (.ref r :: st) I J Q := A_aload_n (q := 0) (ab_io ci1 (by decide +kernel)) rfl
theorem k1_65 : At 1 65 ls (.ref 33 :: st) I J Q ↔ At 1 68 ls (.ref 35 :: st) I J Q := A_getR (ab_io ci1 (by decide +kernel)) ow1 fq0_15_33
theorem k1_68 : At 1 68 [some (.ref r), a1, a2, a3, a4, a5, a6] st I J Q ↔ At 1 69 [some (.ref r), a1, a2, a3, a4, a5, a6] (.ref r :: st) I J Q := A_aload_n (q := 0) (ab_io ci1 (by decide +kernel)) rfl
theorem k1_69 : At 1 69 ls (.ref 33 :: st) I J Q ↔ At 1 72 ls (.int (I 33 5) :: st) I J Q := A_getI (ab_io ci1 (by decide +kernel)) ow1 fq0_27_33
theorem k1_72 : At 1 72 [a0, a1, a2, a3, a4, a5, some (.int x)] st I J Q ↔ At 1 74 [a0, a1, a2, a3, a4, a5, some (.int x)] (.int x :: st) I J Q := A_iload (q := 6) (ab_io ci1 (by decide +kernel)) rfl
theorem k1_74 : At 1 74 ls (.int x1 :: .int x :: .ref r :: st) I J Q ↔ ((ab_ly r).1 = 1 ∧ r < 75 ∧ 0 ≤ x.toInt ∧ x.toInt < (ab_ly r).2) ∧ At 1 75 ls st (va_up I r (va_up (I r) x.toNatClampNeg x1)) J Q := A_iastore (ab_io ci1 (by decide +kernel))
theorem k1_75 : At 1 75 [some (.ref r), a1, a2, a3, a4, a5, a6] st I J Q ↔ At 1 76 [some (.ref r), a1, a2, a3, a4, a5, a6] (.ref r :: st) I J Q := A_aload_n (q := 0) (ab_io ci1 (by decide +kernel)) rfl
theorem k1_76 : At 1 76 ls (.ref r :: st) I J Q ↔ At 1 77 ls (.ref r :: .ref r :: st) I J Q := A_dupA (ab_io ci1 (by decide +kernel))
theorem k1_77 : At 1 77 ls (.ref 33 :: st) I J Q ↔ At 1 80 ls (.int (I 33 5) :: st) I J Q := A_getI (ab_io ci1 (by decide +kernel)) ow1 fq0_27_33
theorem k1_80 : At 1 80 ls st I J Q ↔ At 1 81 ls (.int (nI 1) :: st) I J Q := A_iconst (ab_io ci1 (by decide +kernel)) ic_1
theorem k1_81 : At 1 81 ls (.int x1 :: .int x :: st) I J Q ↔ At 1 82 ls (.int (x + x1) :: st) I J Q := A_iadd (ab_io ci1 (by decide +kernel))
theorem k1_82 : At 1 82 ls (.int x :: .ref 33 :: st) I J Q ↔ At 1 85 ls st (va_up I 33 (va_up (I 33) 5 x)) J Q := A_putI (ab_io ci1 (by decide +kernel)) ow1 fq0_27_33
theorem k1_85 : At 1 85 [a0, a1, a2, a3, some (.int x), a5, a6] st I J Q ↔ At 1 88 [a0, a1, a2, ab_nv a3, some (.int (x + (nI 1))), a5, a6] st I J Q := A_iinc (q := 4) (ab_io ci1 (by decide +kernel)) ic_1 (Nat.le_of_ble_eq_true rfl) rfl rfl
theorem k1_88 : At 1 88 ls st I J Q ↔ At 1 8 ls st I J Q := A_goto (o := (-80)) (ab_io ci1 (by decide +kernel)) (by decide)
theorem k1_91 : At 1 91 ls [] I J Q ↔ Q none I J := A_vret (ab_io ci1 (by decide +kernel)) rt1
theorem k2_0 : At 2 0 ls st I J Q ↔ At 2 1 ls (.int (nI 0) :: st) I J Q := A_iconst (ab_io ci2 (by decide +kernel)) ic_0
theorem k2_1 : At 2 1 [a0, a1, a2, a3] (.int x :: st) I J Q ↔ At 2 2 [ab_nv a0, some (.int x), a2, a3] st I J Q := A_istore_n (q := 1) (ab_io ci2 (by decide +kernel)) (Nat.le_of_ble_eq_true rfl) rfl
theorem k2_2 : At 2 2 ls st I J Q ↔ At 2 3 ls (.int (nI 0) :: st) I J Q := A_iconst (ab_io ci2 (by decide +kernel)) ic_0
theorem k2_3 : At 2 3 [a0, a1, a2, a3] (.int x :: st) I J Q ↔ At 2 4 [a0, ab_nv a1, some (.int x), a3] st I J Q := A_istore_n (q := 2) (ab_io ci2 (by decide +kernel)) (Nat.le_of_ble_eq_true rfl) rfl
theorem k2_4 : At 2 4 [a0, a1, some (.int x), a3] st I J Q ↔ At 2 5 [a0, a1, some (.int x), a3] (.int x :: st) I J Q := A_iload_n (q := 2) (ab_io ci2 (by decide +kernel)) rfl
theorem k2_5 : At 2 5 [some (.ref r), a1, a2, a3] st I J Q ↔ At 2 6 [some (.ref r), a1, a2, a3] (.ref r :: st) I J Q := A_aload_n (q := 0) (ab_io ci2 (by decide +kernel)) rfl
theorem k2_6 : At 2 6 ls (.ref 33 :: st) I J Q ↔ At 2 9 ls (.int (I 33 5) :: st) I J Q := A_getI (ab_io ci2 (by decide +kernel)) ow2 fq0_27_33
theorem k2_9 : At 2 9 ls (.int x1 :: .int x :: st) I J Q ↔ if x1 ≤ x then At 2 70 ls st I J Q else At 2 12 ls st I J Q := A_if_icmp_ge (o := 61) (ab_io ci2 (by decide +kernel)) (by decide)
theorem k2_12 : At 2 12 [a0, a1, some (.int x), a3] st I J Q ↔ At 2 13 [a0, a1, some (.int x), a3] (.int x :: st) I J Q := A_iload_n (q := 2) (ab_io ci2 (by decide +kernel)) rfl
theorem k2_13 : At 2 13 ls st I J Q ↔ At 2 14 ls (.int (nI 1) :: st) I J Q := A_iconst (ab_io ci2 (by decide +kernel)) ic_1
theorem k2_14 : At 2 14 ls (.int x1 :: .int x :: st) I J Q ↔ At 2 15 ls (.int (x + x1) :: st) I J Q := A_iadd (ab_io ci2 (by decide +kernel))
theorem k2_15 : At 2 15 [a0, a1, a2, a3] (.int x :: st) I J Q ↔ At 2 16 [a0, a1, ab_nv a2, some (.int x)] st I J Q := A_istore_n (q := 3) (ab_io ci2 (by decide +kernel)) (Nat.le_of_ble_eq_true rfl) rfl
theorem k2_16 : At 2 16 [a0, a1, a2, some (.int x)] st I J Q ↔ At 2 17 [a0, a1, a2, some (.int x)] (.int x :: st) I J Q := A_iload_n (q := 3) (ab_io ci2 (by decide +kernel)) rfl
theorem k2_17 : At 2 17 [some (.ref r), a1, a2, a3] st I J Q ↔ At 2 18 [some (.ref r), a1, a2, a3] (.ref r :: st) I J Q := A_aload_n (q := 0) (ab_io ci2 (by decide +kernel)) rfl
theorem k2_18 : At 2 18 ls (.ref 33 :: st) I J Q ↔ At 2 21 ls (.int (I 33 5) :: st) I J Q := A_getI (ab_io ci2 (by decide +kernel)) ow2 fq0_27_33
theorem k2_21 : At 2 21 ls (.int x1 :: .int x :: st) I J Q ↔ if x1 ≤ x then At 2 64 ls st I J Q else At 2 24 ls st I J Q := A_if_icmp_ge (o := 43) (ab_io ci2 (by decide +kernel)) (by decide)
theorem k2_24 : At 2 24 [a0, some (.int x), a2, a3] st I J Q ↔ At 2 25 [a0, some (.int x), a2, a3] (.int x :: st) I J Q := A_iload_n (q := 1) (ab_io ci2 (by decide +kernel)) rfl
theorem k2_25 : At 2 25 [some (.ref r), a1, a2, a3] st I J Q ↔ At 2 26 [some (.ref r), a1, a2, a3] (.ref r :: st) I J Q := A_aload_n (q := 0) (ab_io ci2 (by decide +kernel)) rfl
theorem k2_26 : At 2 26 ls (.ref 33 :: st) I J Q ↔ At 2 29 ls (.ref 34 :: st) I J Q := A_getR (ab_io ci2 (by decide +kernel)) ow2 fq0_9_33
theorem k2_29 : At 2 29 [a0, a1, some (.int x), a3] st I J Q ↔ At 2 30 [a0, a1, some (.int x), a3] (.int x :: st) I J Q := A_iload_n (q := 2) (ab_io ci2 (by decide +kernel)) rfl
theorem k2_30 : At 2 30 ls (.int x :: .ref r :: st) I J Q ↔ ((ab_ly r).1 = 1 ∧ r < 75 ∧ 0 ≤ x.toInt ∧ x.toInt < (ab_ly r).2) ∧ At 2 31 ls (.int (I r x.toNatClampNeg) :: st) I J Q := A_iaload (ab_io ci2 (by decide +kernel))
theorem k2_31 : At 2 31 [some (.ref r), a1, a2, a3] st I J Q ↔ At 2 32 [some (.ref r), a1, a2, a3] (.ref r :: st) I J Q := A_aload_n (q := 0) (ab_io ci2 (by decide +kernel)) rfl
theorem k2_32 : At 2 32 ls (.ref 33 :: st) I J Q ↔ At 2 35 ls (.ref 34 :: st) I J Q := A_getR (ab_io ci2 (by decide +kernel)) ow2 fq0_9_33
theorem k2_35 : At 2 35 [a0, a1, a2, some (.int x)] st I J Q ↔ At 2 36 [a0, a1, a2, some (.int x)] (.int x :: st) I J Q := A_iload_n (q := 3) (ab_io ci2 (by decide +kernel)) rfl
theorem k2_36 : At 2 36 ls (.int x :: .ref r :: st) I J Q ↔ ((ab_ly r).1 = 1 ∧ r < 75 ∧ 0 ≤ x.toInt ∧ x.toInt < (ab_ly r).2) ∧ At 2 37 ls (.int (I r x.toNatClampNeg) :: st) I J Q := A_iaload (ab_io ci2 (by decide +kernel))
theorem k2_37 : At 2 37 ls [.int p0, .int p1, .int q0] I J Q ↔ Cal 13 [.int p1, .int p0] I J (fun v I' J' => At 2 40 ls (v.toList ++ [.int q0]) I' J' Q) := A_cal (kd := 1) (j := 39) (na := 2) (ea := 2) (rk := 0) (by decide +kernel) rfl rfl rfl (Or.inl rfl) (Nat.le_of_ble_eq_true rfl)
theorem k2_40 : At 2 40 [some (.ref r), a1, a2, a3] st I J Q ↔ At 2 41 [some (.ref r), a1, a2, a3] (.ref r :: st) I J Q := A_aload_n (q := 0) (ab_io ci2 (by decide +kernel)) rfl
theorem k2_41 : At 2 41 ls (.ref 33 :: st) I J Q ↔ At 2 44 ls (.ref 35 :: st) I J Q := A_getR (ab_io ci2 (by decide +kernel)) ow2 fq0_15_33
theorem k2_44 : At 2 44 [a0, a1, some (.int x), a3] st I J Q ↔ At 2 45 [a0, a1, some (.int x), a3] (.int x :: st) I J Q := A_iload_n (q := 2) (ab_io ci2 (by decide +kernel)) rfl
theorem k2_45 : At 2 45 ls (.int x :: .ref r :: st) I J Q ↔ ((ab_ly r).1 = 1 ∧ r < 75 ∧ 0 ≤ x.toInt ∧ x.toInt < (ab_ly r).2) ∧ At 2 46 ls (.int (I r x.toNatClampNeg) :: st) I J Q := A_iaload (ab_io ci2 (by decide +kernel))
theorem k2_46 : At 2 46 [some (.ref r), a1, a2, a3] st I J Q ↔ At 2 47 [some (.ref r), a1, a2, a3] (.ref r :: st) I J Q := A_aload_n (q := 0) (ab_io ci2 (by decide +kernel)) rfl
theorem k2_47 : At 2 47 ls (.ref 33 :: st) I J Q ↔ At 2 50 ls (.ref 35 :: st) I J Q := A_getR (ab_io ci2 (by decide +kernel)) ow2 fq0_15_33
theorem k2_50 : At 2 50 [a0, a1, a2, some (.int x)] st I J Q ↔ At 2 51 [a0, a1, a2, some (.int x)] (.int x :: st) I J Q := A_iload_n (q := 3) (ab_io ci2 (by decide +kernel)) rfl
theorem k2_51 : At 2 51 ls (.int x :: .ref r :: st) I J Q ↔ ((ab_ly r).1 = 1 ∧ r < 75 ∧ 0 ≤ x.toInt ∧ x.toInt < (ab_ly r).2) ∧ At 2 52 ls (.int (I r x.toNatClampNeg) :: st) I J Q := A_iaload (ab_io ci2 (by decide +kernel))
theorem k2_52 : At 2 52 ls [.int p0, .int p1, .int q0, .int q1] I J Q ↔ Cal 13 [.int p1, .int p0] I J (fun v I' J' => At 2 55 ls (v.toList ++ [.int q0, .int q1]) I' J' Q) := A_cal (kd := 1) (j := 39) (na := 2) (ea := 2) (rk := 0) (by decide +kernel) rfl rfl rfl (Or.inl rfl) (Nat.le_of_ble_eq_true rfl)
theorem k2_55 : At 2 55 ls (.int x1 :: .int x :: st) I J Q ↔ At 2 56 ls (.int (x * x1) :: st) I J Q := A_imul (ab_io ci2 (by decide +kernel))
theorem k2_56 : At 2 56 ls (.int x1 :: .int x :: st) I J Q ↔ At 2 57 ls (.int (x + x1) :: st) I J Q := A_iadd (ab_io ci2 (by decide +kernel))
theorem k2_57 : At 2 57 [a0, a1, a2, a3] (.int x :: st) I J Q ↔ At 2 58 [ab_nv a0, some (.int x), a2, a3] st I J Q := A_istore_n (q := 1) (ab_io ci2 (by decide +kernel)) (Nat.le_of_ble_eq_true rfl) rfl
theorem k2_58 : At 2 58 [a0, a1, a2, some (.int x)] st I J Q ↔ At 2 61 [a0, a1, ab_nv a2, some (.int (x + (nI 1)))] st I J Q := A_iinc (q := 3) (ab_io ci2 (by decide +kernel)) ic_1 (Nat.le_of_ble_eq_true rfl) rfl rfl
theorem k2_61 : At 2 61 ls st I J Q ↔ At 2 16 ls st I J Q := A_goto (o := (-45)) (ab_io ci2 (by decide +kernel)) (by decide)
theorem k2_64 : At 2 64 [a0, a1, some (.int x), a3] st I J Q ↔ At 2 67 [a0, ab_nv a1, some (.int (x + (nI 1))), a3] st I J Q := A_iinc (q := 2) (ab_io ci2 (by decide +kernel)) ic_1 (Nat.le_of_ble_eq_true rfl) rfl rfl
theorem k2_67 : At 2 67 ls st I J Q ↔ At 2 4 ls st I J Q := A_goto (o := (-63)) (ab_io ci2 (by decide +kernel)) (by decide)
theorem k2_70 : At 2 70 [a0, some (.int x), a2, a3] st I J Q ↔ At 2 71 [a0, some (.int x), a2, a3] (.int x :: st) I J Q := A_iload_n (q := 1) (ab_io ci2 (by decide +kernel)) rfl
theorem k2_71 : At 2 71 ls [.int x] I J Q ↔ Q (some (.int x)) I J := A_iret (ab_io ci2 (by decide +kernel)) rt2
theorem k3_0 : At 3 0 [some (.ref r), a1, a2, a3, a4] st I J Q ↔ At 3 1 [some (.ref r), a1, a2, a3, a4] (.ref r :: st) I J Q := A_aload_n (q := 0) (ab_io ci3 (by decide +kernel)) rfl
theorem k3_1 : At 3 1 ls (.ref 33 :: st) I J Q ↔ At 3 4 ls (.int (I 33 5) :: st) I J Q := A_getI (ab_io ci3 (by decide +kernel)) ow3 fq0_27_33
theorem k3_4 : At 3 4 ls st I J Q ↔ At 3 6 ls (.int (nI 7) :: st) I J Q := A_bipush (ab_io ci3 (by decide +kernel)) bc_7
theorem k3_6 : At 3 6 ls (.int x1 :: .int x :: st) I J Q ↔ if x ≤ x1 then At 3 12 ls st I J Q else At 3 9 ls st I J Q := A_if_icmp_le (o := 6) (ab_io ci3 (by decide +kernel)) (by decide)
theorem k3_9 : At 3 9 ls st I J Q ↔ At 3 11 ls (.int (-4) :: st) I J Q := A_bipush (ab_io ci3 (by decide +kernel)) bc_m4
theorem k3_11 : At 3 11 ls [.int x] I J Q ↔ Q (some (.int x)) I J := A_iret (ab_io ci3 (by decide +kernel)) rt3
theorem k3_12 : At 3 12 [some (.ref r), a1, a2, a3, a4] st I J Q ↔ At 3 13 [some (.ref r), a1, a2, a3, a4] (.ref r :: st) I J Q := A_aload_n (q := 0) (ab_io ci3 (by decide +kernel)) rfl
theorem k3_13 : At 3 13 [some (.ref r), a1, a2, a3, a4] st I J Q ↔ At 3 14 [some (.ref r), a1, a2, a3, a4] (.ref r :: st) I J Q := A_aload_n (q := 0) (ab_io ci3 (by decide +kernel)) rfl
theorem k3_14 : At 3 14 ls [.ref 33, .ref qr0] I J Q ↔ Cal 2 [.ref 33] I J (fun v I' J' => At 3 17 ls (v.toList ++ [.ref qr0]) I' J' Q) := A_cal (kd := 0) (j := 43) (na := 1) (ea := 1) (rk := 33) (by decide +kernel) rfl rfl rfl (Or.inr rfl) (Nat.le_of_ble_eq_true rfl)
theorem k3_17 : At 3 17 ls (.int x :: .ref 33 :: st) I J Q ↔ At 3 20 ls st (va_up I 33 (va_up (I 33) 6 x)) J Q := A_putI (ab_io ci3 (by decide +kernel)) ow3 fq0_31_33
theorem k3_20 : At 3 20 ls st I J Q ↔ At 3 21 ls (.long 1 :: st) I J Q := A_lconst (n := 1) (ab_io ci3 (by decide +kernel)) rfl
theorem k3_21 : At 3 21 [a0, a1, a2, a3, a4] (.long u :: st) I J Q ↔ At 3 22 [ab_nv a0, some (.long u), none, a3, a4] st I J Q := A_lstore_n (q := 1) (ab_io ci3 (by decide +kernel)) (Nat.le_of_ble_eq_true rfl) rfl
theorem k3_22 : At 3 22 ls st I J Q ↔ At 3 23 ls (.int (nI 0) :: st) I J Q := A_iconst (ab_io ci3 (by decide +kernel)) ic_0
theorem k3_23 : At 3 23 [a0, a1, a2, a3, a4] (.int x :: st) I J Q ↔ At 3 24 [a0, a1, ab_nv a2, some (.int x), a4] st I J Q := A_istore_n (q := 3) (ab_io ci3 (by decide +kernel)) (Nat.le_of_ble_eq_true rfl) rfl
theorem k3_24 : At 3 24 [a0, a1, a2, some (.int x), a4] st I J Q ↔ At 3 25 [a0, a1, a2, some (.int x), a4] (.int x :: st) I J Q := A_iload_n (q := 3) (ab_io ci3 (by decide +kernel)) rfl
theorem k3_25 : At 3 25 [some (.ref r), a1, a2, a3, a4] st I J Q ↔ At 3 26 [some (.ref r), a1, a2, a3, a4] (.ref r :: st) I J Q := A_aload_n (q := 0) (ab_io ci3 (by decide +kernel)) rfl
theorem k3_26 : At 3 26 ls (.ref 33 :: st) I J Q ↔ At 3 29 ls (.int (I 33 5) :: st) I J Q := A_getI (ab_io ci3 (by decide +kernel)) ow3 fq0_27_33
theorem k3_29 : At 3 29 ls (.int x1 :: .int x :: st) I J Q ↔ if x1 ≤ x then At 3 119 ls st I J Q else At 3 32 ls st I J Q := A_if_icmp_ge (o := 90) (ab_io ci3 (by decide +kernel)) (by decide)
theorem k3_32 : At 3 32 [a0, some (.long u), a2, a3, a4] st I J Q ↔ At 3 33 [a0, some (.long u), a2, a3, a4] (.long u :: st) I J Q := A_lload_n (q := 1) (ab_io ci3 (by decide +kernel)) rfl
theorem k3_33 : At 3 33 [a0, a1, a2, some (.int x), a4] st I J Q ↔ At 3 34 [a0, a1, a2, some (.int x), a4] (.int x :: st) I J Q := A_iload_n (q := 3) (ab_io ci3 (by decide +kernel)) rfl
theorem k3_34 : At 3 34 ls st I J Q ↔ At 3 35 ls (.int (nI 1) :: st) I J Q := A_iconst (ab_io ci3 (by decide +kernel)) ic_1
theorem k3_35 : At 3 35 ls (.int x1 :: .int x :: st) I J Q ↔ At 3 36 ls (.int (x + x1) :: st) I J Q := A_iadd (ab_io ci3 (by decide +kernel))
theorem k3_36 : At 3 36 ls (.int x :: st) I J Q ↔ At 3 37 ls (.long x.toInt64 :: st) I J Q := A_i2l (ab_io ci3 (by decide +kernel))
theorem k3_37 : At 3 37 ls (.long u1 :: .long u :: st) I J Q ↔ At 3 38 ls (.long (u * u1) :: st) I J Q := A_lmul (ab_io ci3 (by decide +kernel))
theorem k3_38 : At 3 38 [a0, a1, a2, a3, a4] (.long u :: st) I J Q ↔ At 3 39 [ab_nv a0, some (.long u), none, a3, a4] st I J Q := A_lstore_n (q := 1) (ab_io ci3 (by decide +kernel)) (Nat.le_of_ble_eq_true rfl) rfl
theorem k3_39 : At 3 39 ls st I J Q ↔ At 3 40 ls (.int (nI 0) :: st) I J Q := A_iconst (ab_io ci3 (by decide +kernel)) ic_0
theorem k3_40 : At 3 40 [a0, a1, a2, a3, a4] (.int x :: st) I J Q ↔ At 3 42 [a0, a1, a2, ab_nv a3, some (.int x)] st I J Q := A_istore (q := 4) (ab_io ci3 (by decide +kernel)) (Nat.le_of_ble_eq_true rfl) rfl
theorem k3_42 : At 3 42 [a0, a1, a2, a3, some (.int x)] st I J Q ↔ At 3 44 [a0, a1, a2, a3, some (.int x)] (.int x :: st) I J Q := A_iload (q := 4) (ab_io ci3 (by decide +kernel)) rfl
theorem k3_44 : At 3 44 [some (.ref r), a1, a2, a3, a4] st I J Q ↔ At 3 45 [some (.ref r), a1, a2, a3, a4] (.ref r :: st) I J Q := A_aload_n (q := 0) (ab_io ci3 (by decide +kernel)) rfl
theorem k3_45 : At 3 45 ls (.ref 33 :: st) I J Q ↔ At 3 48 ls (.int (I 33 5) :: st) I J Q := A_getI (ab_io ci3 (by decide +kernel)) ow3 fq0_27_33
theorem k3_48 : At 3 48 ls (.int x1 :: .int x :: st) I J Q ↔ if x1 ≤ x then At 3 113 ls st I J Q else At 3 51 ls st I J Q := A_if_icmp_ge (o := 65) (ab_io ci3 (by decide +kernel)) (by decide)
theorem k3_51 : At 3 51 [some (.ref r), a1, a2, a3, a4] st I J Q ↔ At 3 52 [some (.ref r), a1, a2, a3, a4] (.ref r :: st) I J Q := A_aload_n (q := 0) (ab_io ci3 (by decide +kernel)) rfl
theorem k3_52 : At 3 52 ls (.ref 33 :: st) I J Q ↔ At 3 55 ls (.ref 36 :: st) I J Q := A_getR (ab_io ci3 (by decide +kernel)) ow3 fq0_18_33
theorem k3_55 : At 3 55 ls st I J Q ↔ At 3 57 ls (.int (nI 7) :: st) I J Q := A_bipush (ab_io ci3 (by decide +kernel)) bc_7
theorem k3_57 : At 3 57 [a0, a1, a2, some (.int x), a4] st I J Q ↔ At 3 58 [a0, a1, a2, some (.int x), a4] (.int x :: st) I J Q := A_iload_n (q := 3) (ab_io ci3 (by decide +kernel)) rfl
theorem k3_58 : At 3 58 ls (.int x1 :: .int x :: st) I J Q ↔ At 3 59 ls (.int (x * x1) :: st) I J Q := A_imul (ab_io ci3 (by decide +kernel))
theorem k3_59 : At 3 59 [a0, a1, a2, a3, some (.int x)] st I J Q ↔ At 3 61 [a0, a1, a2, a3, some (.int x)] (.int x :: st) I J Q := A_iload (q := 4) (ab_io ci3 (by decide +kernel)) rfl
theorem k3_61 : At 3 61 ls (.int x1 :: .int x :: st) I J Q ↔ At 3 62 ls (.int (x + x1) :: st) I J Q := A_iadd (ab_io ci3 (by decide +kernel))
theorem k3_62 : At 3 62 [some (.ref r), a1, a2, a3, a4] st I J Q ↔ At 3 63 [some (.ref r), a1, a2, a3, a4] (.ref r :: st) I J Q := A_aload_n (q := 0) (ab_io ci3 (by decide +kernel)) rfl
theorem k3_63 : At 3 63 ls (.ref 33 :: st) I J Q ↔ At 3 66 ls (.ref 34 :: st) I J Q := A_getR (ab_io ci3 (by decide +kernel)) ow3 fq0_9_33
theorem k3_66 : At 3 66 [a0, a1, a2, some (.int x), a4] st I J Q ↔ At 3 67 [a0, a1, a2, some (.int x), a4] (.int x :: st) I J Q := A_iload_n (q := 3) (ab_io ci3 (by decide +kernel)) rfl
theorem k3_67 : At 3 67 ls (.int x :: .ref r :: st) I J Q ↔ ((ab_ly r).1 = 1 ∧ r < 75 ∧ 0 ≤ x.toInt ∧ x.toInt < (ab_ly r).2) ∧ At 3 68 ls (.int (I r x.toNatClampNeg) :: st) I J Q := A_iaload (ab_io ci3 (by decide +kernel))
theorem k3_68 : At 3 68 [some (.ref r), a1, a2, a3, a4] st I J Q ↔ At 3 69 [some (.ref r), a1, a2, a3, a4] (.ref r :: st) I J Q := A_aload_n (q := 0) (ab_io ci3 (by decide +kernel)) rfl
theorem k3_69 : At 3 69 ls (.ref 33 :: st) I J Q ↔ At 3 72 ls (.ref 34 :: st) I J Q := A_getR (ab_io ci3 (by decide +kernel)) ow3 fq0_9_33
theorem k3_72 : At 3 72 [a0, a1, a2, a3, some (.int x)] st I J Q ↔ At 3 74 [a0, a1, a2, a3, some (.int x)] (.int x :: st) I J Q := A_iload (q := 4) (ab_io ci3 (by decide +kernel)) rfl
theorem k3_74 : At 3 74 ls (.int x :: .ref r :: st) I J Q ↔ ((ab_ly r).1 = 1 ∧ r < 75 ∧ 0 ≤ x.toInt ∧ x.toInt < (ab_ly r).2) ∧ At 3 75 ls (.int (I r x.toNatClampNeg) :: st) I J Q := A_iaload (ab_io ci3 (by decide +kernel))
theorem k3_75 : At 3 75 ls [.int p0, .int p1, .int q0, .ref qr1] I J Q ↔ Cal 13 [.int p1, .int p0] I J (fun v I' J' => At 3 78 ls (v.toList ++ [.int q0, .ref qr1]) I' J' Q) := A_cal (kd := 1) (j := 39) (na := 2) (ea := 2) (rk := 0) (by decide +kernel) rfl rfl rfl (Or.inl rfl) (Nat.le_of_ble_eq_true rfl)
theorem k3_78 : At 3 78 ls (.int x1 :: .int x :: .ref r :: st) I J Q ↔ ((ab_ly r).1 = 1 ∧ r < 75 ∧ 0 ≤ x.toInt ∧ x.toInt < (ab_ly r).2) ∧ At 3 79 ls st (va_up I r (va_up (I r) x.toNatClampNeg x1)) J Q := A_iastore (ab_io ci3 (by decide +kernel))
theorem k3_79 : At 3 79 [some (.ref r), a1, a2, a3, a4] st I J Q ↔ At 3 80 [some (.ref r), a1, a2, a3, a4] (.ref r :: st) I J Q := A_aload_n (q := 0) (ab_io ci3 (by decide +kernel)) rfl
theorem k3_80 : At 3 80 ls (.ref 33 :: st) I J Q ↔ At 3 83 ls (.ref 37 :: st) I J Q := A_getR (ab_io ci3 (by decide +kernel)) ow3 fq0_21_33
theorem k3_83 : At 3 83 ls st I J Q ↔ At 3 85 ls (.int (nI 7) :: st) I J Q := A_bipush (ab_io ci3 (by decide +kernel)) bc_7
theorem k3_85 : At 3 85 [a0, a1, a2, some (.int x), a4] st I J Q ↔ At 3 86 [a0, a1, a2, some (.int x), a4] (.int x :: st) I J Q := A_iload_n (q := 3) (ab_io ci3 (by decide +kernel)) rfl
theorem k3_86 : At 3 86 ls (.int x1 :: .int x :: st) I J Q ↔ At 3 87 ls (.int (x * x1) :: st) I J Q := A_imul (ab_io ci3 (by decide +kernel))
theorem k3_87 : At 3 87 [a0, a1, a2, a3, some (.int x)] st I J Q ↔ At 3 89 [a0, a1, a2, a3, some (.int x)] (.int x :: st) I J Q := A_iload (q := 4) (ab_io ci3 (by decide +kernel)) rfl
theorem k3_89 : At 3 89 ls (.int x1 :: .int x :: st) I J Q ↔ At 3 90 ls (.int (x + x1) :: st) I J Q := A_iadd (ab_io ci3 (by decide +kernel))
theorem k3_90 : At 3 90 [some (.ref r), a1, a2, a3, a4] st I J Q ↔ At 3 91 [some (.ref r), a1, a2, a3, a4] (.ref r :: st) I J Q := A_aload_n (q := 0) (ab_io ci3 (by decide +kernel)) rfl
theorem k3_91 : At 3 91 ls (.ref 33 :: st) I J Q ↔ At 3 94 ls (.ref 35 :: st) I J Q := A_getR (ab_io ci3 (by decide +kernel)) ow3 fq0_15_33
theorem k3_94 : At 3 94 [a0, a1, a2, some (.int x), a4] st I J Q ↔ At 3 95 [a0, a1, a2, some (.int x), a4] (.int x :: st) I J Q := A_iload_n (q := 3) (ab_io ci3 (by decide +kernel)) rfl
theorem k3_95 : At 3 95 ls (.int x :: .ref r :: st) I J Q ↔ ((ab_ly r).1 = 1 ∧ r < 75 ∧ 0 ≤ x.toInt ∧ x.toInt < (ab_ly r).2) ∧ At 3 96 ls (.int (I r x.toNatClampNeg) :: st) I J Q := A_iaload (ab_io ci3 (by decide +kernel))
theorem k3_96 : At 3 96 [some (.ref r), a1, a2, a3, a4] st I J Q ↔ At 3 97 [some (.ref r), a1, a2, a3, a4] (.ref r :: st) I J Q := A_aload_n (q := 0) (ab_io ci3 (by decide +kernel)) rfl
theorem k3_97 : At 3 97 ls (.ref 33 :: st) I J Q ↔ At 3 100 ls (.ref 35 :: st) I J Q := A_getR (ab_io ci3 (by decide +kernel)) ow3 fq0_15_33
theorem k3_100 : At 3 100 [a0, a1, a2, a3, some (.int x)] st I J Q ↔ At 3 102 [a0, a1, a2, a3, some (.int x)] (.int x :: st) I J Q := A_iload (q := 4) (ab_io ci3 (by decide +kernel)) rfl
theorem k3_102 : At 3 102 ls (.int x :: .ref r :: st) I J Q ↔ ((ab_ly r).1 = 1 ∧ r < 75 ∧ 0 ≤ x.toInt ∧ x.toInt < (ab_ly r).2) ∧ At 3 103 ls (.int (I r x.toNatClampNeg) :: st) I J Q := A_iaload (ab_io ci3 (by decide +kernel))
theorem k3_103 : At 3 103 ls [.int p0, .int p1, .int q0, .ref qr1] I J Q ↔ Cal 13 [.int p1, .int p0] I J (fun v I' J' => At 3 106 ls (v.toList ++ [.int q0, .ref qr1]) I' J' Q) := A_cal (kd := 1) (j := 39) (na := 2) (ea := 2) (rk := 0) (by decide +kernel) rfl rfl rfl (Or.inl rfl) (Nat.le_of_ble_eq_true rfl)
theorem k3_106 : At 3 106 ls (.int x1 :: .int x :: .ref r :: st) I J Q ↔ ((ab_ly r).1 = 1 ∧ r < 75 ∧ 0 ≤ x.toInt ∧ x.toInt < (ab_ly r).2) ∧ At 3 107 ls st (va_up I r (va_up (I r) x.toNatClampNeg x1)) J Q := A_iastore (ab_io ci3 (by decide +kernel))
theorem k3_107 : At 3 107 [a0, a1, a2, a3, some (.int x)] st I J Q ↔ At 3 110 [a0, a1, a2, ab_nv a3, some (.int (x + (nI 1)))] st I J Q := A_iinc (q := 4) (ab_io ci3 (by decide +kernel)) ic_1 (Nat.le_of_ble_eq_true rfl) rfl rfl
theorem k3_110 : At 3 110 ls st I J Q ↔ At 3 42 ls st I J Q := A_goto (o := (-68)) (ab_io ci3 (by decide +kernel)) (by decide)
theorem k3_113 : At 3 113 [a0, a1, a2, some (.int x), a4] st I J Q ↔ At 3 116 [a0, a1, ab_nv a2, some (.int (x + (nI 1))), a4] st I J Q := A_iinc (q := 3) (ab_io ci3 (by decide +kernel)) ic_1 (Nat.le_of_ble_eq_true rfl) rfl rfl
theorem k3_116 : At 3 116 ls st I J Q ↔ At 3 24 ls st I J Q := A_goto (o := (-92)) (ab_io ci3 (by decide +kernel)) (by decide)
theorem k3_119 : At 3 119 [a0, some (.long u), a2, a3, a4] st I J Q ↔ At 3 120 [a0, some (.long u), a2, a3, a4] (.long u :: st) I J Q := A_lload_n (q := 1) (ab_io ci3 (by decide +kernel)) rfl
theorem k3_120 : At 3 120 ls st I J Q ↔ At 3 121 ls (.long 0 :: st) I J Q := A_lconst (n := 0) (ab_io ci3 (by decide +kernel)) rfl
theorem k3_121 : At 3 121 ls (.long u1 :: .long u :: st) I J Q ↔ At 3 122 ls (.int (lg_cmp u u1) :: st) I J Q := A_lcmp (ab_io ci3 (by decide +kernel))
theorem k3_122 : At 3 122 ls (.int x :: st) I J Q ↔ if x ≤ 0 then At 3 143 ls st I J Q else At 3 125 ls st I J Q := A_ifCond_le (o := 21) (ab_io ci3 (by decide +kernel)) (by decide)
theorem k3_125 : At 3 125 ls st I J Q ↔ At 3 128 ls (.long 1000000 :: st) I J Q := A_ldc2_w (j := 47) (q := 710) (ab_io ci3 (by decide +kernel)) ow3 (by decide +kernel)
theorem k3_128 : At 3 128 [some (.ref r), a1, a2, a3, a4] st I J Q ↔ At 3 129 [some (.ref r), a1, a2, a3, a4] (.ref r :: st) I J Q := A_aload_n (q := 0) (ab_io ci3 (by decide +kernel)) rfl
theorem k3_129 : At 3 129 ls st I J Q ↔ At 3 130 ls (.int (nI 0) :: st) I J Q := A_iconst (ab_io ci3 (by decide +kernel)) ic_0
theorem k3_130 : At 3 130 ls st I J Q ↔ At 3 131 ls (.int (nI 0) :: st) I J Q := A_iconst (ab_io ci3 (by decide +kernel)) ic_0
theorem k3_131 : At 3 131 ls st I J Q ↔ At 3 132 ls (.int (nI 0) :: st) I J Q := A_iconst (ab_io ci3 (by decide +kernel)) ic_0
theorem k3_132 : At 3 132 ls [.int p0, .int p1, .int p2, .ref 33, .long qu0] I J Q ↔ Cal 4 [.ref 33, .int p2, .int p1, .int p0] I J (fun v I' J' => At 3 135 ls (v.toList ++ [.long qu0]) I' J' Q) := A_cal (kd := 0) (j := 49) (na := 4) (ea := 4) (rk := 33) (by decide +kernel) rfl rfl rfl (Or.inr rfl) (Nat.le_of_ble_eq_true rfl)
theorem k3_135 : At 3 135 ls (.int x :: st) I J Q ↔ At 3 136 ls (.long x.toInt64 :: st) I J Q := A_i2l (ab_io ci3 (by decide +kernel))
theorem k3_136 : At 3 136 ls (.long u1 :: .long u :: st) I J Q ↔ At 3 137 ls (.long (u * u1) :: st) I J Q := A_lmul (ab_io ci3 (by decide +kernel))
theorem k3_137 : At 3 137 [a0, some (.long u), a2, a3, a4] st I J Q ↔ At 3 138 [a0, some (.long u), a2, a3, a4] (.long u :: st) I J Q := A_lload_n (q := 1) (ab_io ci3 (by decide +kernel)) rfl
theorem k3_138 : At 3 138 ls (.long u1 :: .long u :: st) I J Q ↔ ¬ u1 = 0 ∧ At 3 139 ls (.long (u / u1) :: st) I J Q := A_ldiv (ab_io ci3 (by decide +kernel))
theorem k3_139 : At 3 139 ls (.long u :: st) I J Q ↔ At 3 140 ls (.int u.toInt32 :: st) I J Q := A_l2i (ab_io ci3 (by decide +kernel))
theorem k3_140 : At 3 140 ls st I J Q ↔ At 3 144 ls st I J Q := A_goto (o := 4) (ab_io ci3 (by decide +kernel)) (by decide)
theorem k3_143 : At 3 143 ls st I J Q ↔ At 3 144 ls (.int (nI 0) :: st) I J Q := A_iconst (ab_io ci3 (by decide +kernel)) ic_0
theorem k3_144 : At 3 144 ls [.int x] I J Q ↔ Q (some (.int x)) I J := A_iret (ab_io ci3 (by decide +kernel)) rt3
theorem k4_0 : At 4 0 [a0, some (.int x), a2, a3, a4, a5] st I J Q ↔ At 4 1 [a0, some (.int x), a2, a3, a4, a5] (.int x :: st) I J Q := A_iload_n (q := 1) (ab_io ci4 (by decide +kernel)) rfl
theorem k4_1 : At 4 1 [some (.ref r), a1, a2, a3, a4, a5] st I J Q ↔ At 4 2 [some (.ref r), a1, a2, a3, a4, a5] (.ref r :: st) I J Q := A_aload_n (q := 0) (ab_io ci4 (by decide +kernel)) rfl
theorem k4_2 : At 4 2 ls (.ref 33 :: st) I J Q ↔ At 4 5 ls (.int (I 33 5) :: st) I J Q := A_getI (ab_io ci4 (by decide +kernel)) ow4 fq0_27_33
theorem k4_5 : At 4 5 ls (.int x1 :: .int x :: st) I J Q ↔ if x1 ≤ x then At 4 14 ls st I J Q else At 4 8 ls st I J Q := A_if_icmp_ge (o := 9) (ab_io ci4 (by decide +kernel)) (by decide)
theorem k4_8 : At 4 8 [a0, some (.int x), a2, a3, a4, a5] st I J Q ↔ At 4 9 [a0, some (.int x), a2, a3, a4, a5] (.int x :: st) I J Q := A_iload_n (q := 1) (ab_io ci4 (by decide +kernel)) rfl
theorem k4_9 : At 4 9 ls st I J Q ↔ At 4 11 ls (.int (nI 7) :: st) I J Q := A_bipush (ab_io ci4 (by decide +kernel)) bc_7
theorem k4_11 : At 4 11 ls (.int x1 :: .int x :: st) I J Q ↔ if x < x1 then At 4 28 ls st I J Q else At 4 14 ls st I J Q := A_if_icmp_lt (o := 17) (ab_io ci4 (by decide +kernel)) (by decide)
theorem k4_14 : At 4 14 [a0, a1, a2, some (.int x), a4, a5] st I J Q ↔ At 4 15 [a0, a1, a2, some (.int x), a4, a5] (.int x :: st) I J Q := A_iload_n (q := 3) (ab_io ci4 (by decide +kernel)) rfl
theorem k4_15 : At 4 15 [some (.ref r), a1, a2, a3, a4, a5] st I J Q ↔ At 4 16 [some (.ref r), a1, a2, a3, a4, a5] (.ref r :: st) I J Q := A_aload_n (q := 0) (ab_io ci4 (by decide +kernel)) rfl
theorem k4_16 : At 4 16 ls (.ref 33 :: st) I J Q ↔ At 4 19 ls (.int (I 33 6) :: st) I J Q := A_getI (ab_io ci4 (by decide +kernel)) ow4 fq0_31_33
theorem k4_19 : At 4 19 ls (.int x1 :: .int x :: st) I J Q ↔ if x < x1 then At 4 26 ls st I J Q else At 4 22 ls st I J Q := A_if_icmp_lt (o := 7) (ab_io ci4 (by decide +kernel)) (by decide)
theorem k4_22 : At 4 22 ls st I J Q ↔ At 4 23 ls (.int (nI 1) :: st) I J Q := A_iconst (ab_io ci4 (by decide +kernel)) ic_1
theorem k4_23 : At 4 23 ls st I J Q ↔ At 4 27 ls st I J Q := A_goto (o := 4) (ab_io ci4 (by decide +kernel)) (by decide)
theorem k4_26 : At 4 26 ls st I J Q ↔ At 4 27 ls (.int (nI 0) :: st) I J Q := A_iconst (ab_io ci4 (by decide +kernel)) ic_0
theorem k4_27 : At 4 27 ls [.int x] I J Q ↔ Q (some (.int x)) I J := A_iret (ab_io ci4 (by decide +kernel)) rt4
theorem k4_28 : At 4 28 ls st I J Q ↔ At 4 29 ls (.int (nI 0) :: st) I J Q := A_iconst (ab_io ci4 (by decide +kernel)) ic_0
theorem k4_29 : At 4 29 [a0, a1, a2, a3, a4, a5] (.int x :: st) I J Q ↔ At 4 31 [a0, a1, a2, ab_nv a3, some (.int x), a5] st I J Q := A_istore (q := 4) (ab_io ci4 (by decide +kernel)) (Nat.le_of_ble_eq_true rfl) rfl
theorem k4_31 : At 4 31 ls st I J Q ↔ At 4 32 ls (.int (nI 0) :: st) I J Q := A_iconst (ab_io ci4 (by decide +kernel)) ic_0
theorem k4_32 : At 4 32 [a0, a1, a2, a3, a4, a5] (.int x :: st) I J Q ↔ At 4 34 [a0, a1, a2, a3, ab_nv a4, some (.int x)] st I J Q := A_istore (q := 5) (ab_io ci4 (by decide +kernel)) (Nat.le_of_ble_eq_true rfl) rfl
theorem k4_34 : At 4 34 [a0, a1, a2, a3, a4, some (.int x)] st I J Q ↔ At 4 36 [a0, a1, a2, a3, a4, some (.int x)] (.int x :: st) I J Q := A_iload (q := 5) (ab_io ci4 (by decide +kernel)) rfl
theorem k4_36 : At 4 36 [some (.ref r), a1, a2, a3, a4, a5] st I J Q ↔ At 4 37 [some (.ref r), a1, a2, a3, a4, a5] (.ref r :: st) I J Q := A_aload_n (q := 0) (ab_io ci4 (by decide +kernel)) rfl
theorem k4_37 : At 4 37 ls (.ref 33 :: st) I J Q ↔ At 4 40 ls (.int (I 33 5) :: st) I J Q := A_getI (ab_io ci4 (by decide +kernel)) ow4 fq0_27_33
theorem k4_40 : At 4 40 ls (.int x1 :: .int x :: st) I J Q ↔ if x1 ≤ x then At 4 93 ls st I J Q else At 4 43 ls st I J Q := A_if_icmp_ge (o := 53) (ab_io ci4 (by decide +kernel)) (by decide)
theorem k4_43 : At 4 43 [a0, a1, some (.int x), a3, a4, a5] st I J Q ↔ At 4 44 [a0, a1, some (.int x), a3, a4, a5] (.int x :: st) I J Q := A_iload_n (q := 2) (ab_io ci4 (by decide +kernel)) rfl
theorem k4_44 : At 4 44 [a0, a1, a2, a3, a4, some (.int x)] st I J Q ↔ At 4 46 [a0, a1, a2, a3, a4, some (.int x)] (.int x :: st) I J Q := A_iload (q := 5) (ab_io ci4 (by decide +kernel)) rfl
theorem k4_46 : At 4 46 ls (.int x1 :: .int x :: st) I J Q ↔ At 4 47 ls (.int (x >>> (x1 &&& 31)) :: st) I J Q := A_ishr (ab_io ci4 (by decide +kernel))
theorem k4_47 : At 4 47 ls st I J Q ↔ At 4 48 ls (.int (nI 1) :: st) I J Q := A_iconst (ab_io ci4 (by decide +kernel)) ic_1
theorem k4_48 : At 4 48 ls (.int x1 :: .int x :: st) I J Q ↔ At 4 49 ls (.int (x &&& x1) :: st) I J Q := A_iand (ab_io ci4 (by decide +kernel))
theorem k4_49 : At 4 49 ls (.int x :: st) I J Q ↔ if ¬ x = 0 then At 4 87 ls st I J Q else At 4 52 ls st I J Q := A_ifCond_ne (o := 38) (ab_io ci4 (by decide +kernel)) (by decide)
theorem k4_52 : At 4 52 [some (.ref r), a1, a2, a3, a4, a5] st I J Q ↔ At 4 53 [some (.ref r), a1, a2, a3, a4, a5] (.ref r :: st) I J Q := A_aload_n (q := 0) (ab_io ci4 (by decide +kernel)) rfl
theorem k4_53 : At 4 53 ls (.ref 33 :: st) I J Q ↔ At 4 56 ls (.ref 38 :: st) I J Q := A_getR (ab_io ci4 (by decide +kernel)) ow4 fq0_24_33
theorem k4_56 : At 4 56 [a0, some (.int x), a2, a3, a4, a5] st I J Q ↔ At 4 57 [a0, some (.int x), a2, a3, a4, a5] (.int x :: st) I J Q := A_iload_n (q := 1) (ab_io ci4 (by decide +kernel)) rfl
theorem k4_57 : At 4 57 [a0, a1, a2, a3, a4, some (.int x)] st I J Q ↔ At 4 59 [a0, a1, a2, a3, a4, some (.int x)] (.int x :: st) I J Q := A_iload (q := 5) (ab_io ci4 (by decide +kernel)) rfl
theorem k4_59 : At 4 59 ls (.int x1 :: .int x :: .ref r :: st) I J Q ↔ ((ab_ly r).1 = 1 ∧ r < 75 ∧ 0 ≤ x.toInt ∧ x.toInt < (ab_ly r).2) ∧ At 4 60 ls st (va_up I r (va_up (I r) x.toNatClampNeg x1)) J Q := A_iastore (ab_io ci4 (by decide +kernel))
theorem k4_60 : At 4 60 [a0, a1, a2, a3, some (.int x), a5] st I J Q ↔ At 4 62 [a0, a1, a2, a3, some (.int x), a5] (.int x :: st) I J Q := A_iload (q := 4) (ab_io ci4 (by decide +kernel)) rfl
theorem k4_62 : At 4 62 [some (.ref r), a1, a2, a3, a4, a5] st I J Q ↔ At 4 63 [some (.ref r), a1, a2, a3, a4, a5] (.ref r :: st) I J Q := A_aload_n (q := 0) (ab_io ci4 (by decide +kernel)) rfl
theorem k4_63 : At 4 63 [a0, some (.int x), a2, a3, a4, a5] st I J Q ↔ At 4 64 [a0, some (.int x), a2, a3, a4, a5] (.int x :: st) I J Q := A_iload_n (q := 1) (ab_io ci4 (by decide +kernel)) rfl
theorem k4_64 : At 4 64 ls st I J Q ↔ At 4 65 ls (.int (nI 1) :: st) I J Q := A_iconst (ab_io ci4 (by decide +kernel)) ic_1
theorem k4_65 : At 4 65 ls (.int x1 :: .int x :: st) I J Q ↔ At 4 66 ls (.int (x + x1) :: st) I J Q := A_iadd (ab_io ci4 (by decide +kernel))
theorem k4_66 : At 4 66 [a0, a1, some (.int x), a3, a4, a5] st I J Q ↔ At 4 67 [a0, a1, some (.int x), a3, a4, a5] (.int x :: st) I J Q := A_iload_n (q := 2) (ab_io ci4 (by decide +kernel)) rfl
theorem k4_67 : At 4 67 ls st I J Q ↔ At 4 68 ls (.int (nI 1) :: st) I J Q := A_iconst (ab_io ci4 (by decide +kernel)) ic_1
theorem k4_68 : At 4 68 [a0, a1, a2, a3, a4, some (.int x)] st I J Q ↔ At 4 70 [a0, a1, a2, a3, a4, some (.int x)] (.int x :: st) I J Q := A_iload (q := 5) (ab_io ci4 (by decide +kernel)) rfl
theorem k4_70 : At 4 70 ls (.int x1 :: .int x :: st) I J Q ↔ At 4 71 ls (.int (x <<< (x1 &&& 31)) :: st) I J Q := A_ishl (ab_io ci4 (by decide +kernel))
theorem k4_71 : At 4 71 ls (.int x1 :: .int x :: st) I J Q ↔ At 4 72 ls (.int (x ||| x1) :: st) I J Q := A_ior (ab_io ci4 (by decide +kernel))
theorem k4_72 : At 4 72 [a0, a1, a2, some (.int x), a4, a5] st I J Q ↔ At 4 73 [a0, a1, a2, some (.int x), a4, a5] (.int x :: st) I J Q := A_iload_n (q := 3) (ab_io ci4 (by decide +kernel)) rfl
theorem k4_73 : At 4 73 [some (.ref r), a1, a2, a3, a4, a5] st I J Q ↔ At 4 74 [some (.ref r), a1, a2, a3, a4, a5] (.ref r :: st) I J Q := A_aload_n (q := 0) (ab_io ci4 (by decide +kernel)) rfl
theorem k4_74 : At 4 74 [a0, some (.int x), a2, a3, a4, a5] st I J Q ↔ At 4 75 [a0, some (.int x), a2, a3, a4, a5] (.int x :: st) I J Q := A_iload_n (q := 1) (ab_io ci4 (by decide +kernel)) rfl
theorem k4_75 : At 4 75 [a0, a1, a2, a3, a4, some (.int x)] st I J Q ↔ At 4 77 [a0, a1, a2, a3, a4, some (.int x)] (.int x :: st) I J Q := A_iload (q := 5) (ab_io ci4 (by decide +kernel)) rfl
theorem k4_77 : At 4 77 ls [.int p0, .int p1, .ref 33, .int q0, .int q1, .int q2, .ref qr3, .int q4] I J Q ↔ Cal 12 [.ref 33, .int p1, .int p0] I J (fun v I' J' => At 4 80 ls (v.toList ++ [.int q0, .int q1, .int q2, .ref qr3, .int q4]) I' J' Q) := A_cal (kd := 0) (j := 53) (na := 3) (ea := 3) (rk := 33) (by decide +kernel) rfl rfl rfl (Or.inr rfl) (Nat.le_of_ble_eq_true rfl)
theorem k4_80 : At 4 80 ls (.int x1 :: .int x :: st) I J Q ↔ At 4 81 ls (.int (x + x1) :: st) I J Q := A_iadd (ab_io ci4 (by decide +kernel))
theorem k4_81 : At 4 81 ls [.int p0, .int p1, .int p2, .ref 33, .int q0] I J Q ↔ Cal 5 [.ref 33, .int p2, .int p1, .int p0] I J (fun v I' J' => At 4 84 ls (v.toList ++ [.int q0]) I' J' Q) := A_cal (kd := 0) (j := 49) (na := 4) (ea := 4) (rk := 33) (by decide +kernel) rfl rfl rfl (Or.inr rfl) (Nat.le_of_ble_eq_true rfl)
theorem k4_84 : At 4 84 ls (.int x1 :: .int x :: st) I J Q ↔ At 4 85 ls (.int (x + x1) :: st) I J Q := A_iadd (ab_io ci4 (by decide +kernel))
theorem k4_85 : At 4 85 [a0, a1, a2, a3, a4, a5] (.int x :: st) I J Q ↔ At 4 87 [a0, a1, a2, ab_nv a3, some (.int x), a5] st I J Q := A_istore (q := 4) (ab_io ci4 (by decide +kernel)) (Nat.le_of_ble_eq_true rfl) rfl
theorem k4_87 : At 4 87 [a0, a1, a2, a3, a4, some (.int x)] st I J Q ↔ At 4 90 [a0, a1, a2, a3, ab_nv a4, some (.int (x + (nI 1)))] st I J Q := A_iinc (q := 5) (ab_io ci4 (by decide +kernel)) ic_1 (Nat.le_of_ble_eq_true rfl) rfl rfl
theorem k4_90 : At 4 90 ls st I J Q ↔ At 4 34 ls st I J Q := A_goto (o := (-56)) (ab_io ci4 (by decide +kernel)) (by decide)
theorem k4_93 : At 4 93 [a0, a1, a2, a3, some (.int x), a5] st I J Q ↔ At 4 95 [a0, a1, a2, a3, some (.int x), a5] (.int x :: st) I J Q := A_iload (q := 4) (ab_io ci4 (by decide +kernel)) rfl
theorem k4_95 : At 4 95 ls [.int x] I J Q ↔ Q (some (.int x)) I J := A_iret (ab_io ci4 (by decide +kernel)) rt4
theorem k5_0 : At 5 0 [a0, some (.int x), a2, a3, a4, a5] st I J Q ↔ At 5 1 [a0, some (.int x), a2, a3, a4, a5] (.int x :: st) I J Q := A_iload_n (q := 1) (ab_io ci5 (by decide +kernel)) rfl
theorem k5_1 : At 5 1 [some (.ref r), a1, a2, a3, a4, a5] st I J Q ↔ At 5 2 [some (.ref r), a1, a2, a3, a4, a5] (.ref r :: st) I J Q := A_aload_n (q := 0) (ab_io ci5 (by decide +kernel)) rfl
theorem k5_2 : At 5 2 ls (.ref 33 :: st) I J Q ↔ At 5 5 ls (.int (I 33 5) :: st) I J Q := A_getI (ab_io ci5 (by decide +kernel)) ow5 fq0_27_33
theorem k5_5 : At 5 5 ls (.int x1 :: .int x :: st) I J Q ↔ if x1 ≤ x then At 5 14 ls st I J Q else At 5 8 ls st I J Q := A_if_icmp_ge (o := 9) (ab_io ci5 (by decide +kernel)) (by decide)
theorem k5_8 : At 5 8 [a0, some (.int x), a2, a3, a4, a5] st I J Q ↔ At 5 9 [a0, some (.int x), a2, a3, a4, a5] (.int x :: st) I J Q := A_iload_n (q := 1) (ab_io ci5 (by decide +kernel)) rfl
theorem k5_9 : At 5 9 ls st I J Q ↔ At 5 11 ls (.int (nI 7) :: st) I J Q := A_bipush (ab_io ci5 (by decide +kernel)) bc_7
theorem k5_11 : At 5 11 ls (.int x1 :: .int x :: st) I J Q ↔ if x < x1 then At 5 28 ls st I J Q else At 5 14 ls st I J Q := A_if_icmp_lt (o := 17) (ab_io ci5 (by decide +kernel)) (by decide)
theorem k5_14 : At 5 14 [a0, a1, a2, some (.int x), a4, a5] st I J Q ↔ At 5 15 [a0, a1, a2, some (.int x), a4, a5] (.int x :: st) I J Q := A_iload_n (q := 3) (ab_io ci5 (by decide +kernel)) rfl
theorem k5_15 : At 5 15 [some (.ref r), a1, a2, a3, a4, a5] st I J Q ↔ At 5 16 [some (.ref r), a1, a2, a3, a4, a5] (.ref r :: st) I J Q := A_aload_n (q := 0) (ab_io ci5 (by decide +kernel)) rfl
theorem k5_16 : At 5 16 ls (.ref 33 :: st) I J Q ↔ At 5 19 ls (.int (I 33 6) :: st) I J Q := A_getI (ab_io ci5 (by decide +kernel)) ow5 fq0_31_33
theorem k5_19 : At 5 19 ls (.int x1 :: .int x :: st) I J Q ↔ if x < x1 then At 5 26 ls st I J Q else At 5 22 ls st I J Q := A_if_icmp_lt (o := 7) (ab_io ci5 (by decide +kernel)) (by decide)
theorem k5_22 : At 5 22 ls st I J Q ↔ At 5 23 ls (.int (nI 1) :: st) I J Q := A_iconst (ab_io ci5 (by decide +kernel)) ic_1
theorem k5_23 : At 5 23 ls st I J Q ↔ At 5 27 ls st I J Q := A_goto (o := 4) (ab_io ci5 (by decide +kernel)) (by decide)
theorem k5_26 : At 5 26 ls st I J Q ↔ At 5 27 ls (.int (nI 0) :: st) I J Q := A_iconst (ab_io ci5 (by decide +kernel)) ic_0
theorem k5_27 : At 5 27 ls [.int x] I J Q ↔ Q (some (.int x)) I J := A_iret (ab_io ci5 (by decide +kernel)) rt5
theorem k5_28 : At 5 28 ls st I J Q ↔ At 5 29 ls (.int (nI 0) :: st) I J Q := A_iconst (ab_io ci5 (by decide +kernel)) ic_0
theorem k5_29 : At 5 29 [a0, a1, a2, a3, a4, a5] (.int x :: st) I J Q ↔ At 5 31 [a0, a1, a2, ab_nv a3, some (.int x), a5] st I J Q := A_istore (q := 4) (ab_io ci5 (by decide +kernel)) (Nat.le_of_ble_eq_true rfl) rfl
theorem k5_31 : At 5 31 ls st I J Q ↔ At 5 32 ls (.int (nI 0) :: st) I J Q := A_iconst (ab_io ci5 (by decide +kernel)) ic_0
theorem k5_32 : At 5 32 [a0, a1, a2, a3, a4, a5] (.int x :: st) I J Q ↔ At 5 34 [a0, a1, a2, a3, ab_nv a4, some (.int x)] st I J Q := A_istore (q := 5) (ab_io ci5 (by decide +kernel)) (Nat.le_of_ble_eq_true rfl) rfl
theorem k5_34 : At 5 34 [a0, a1, a2, a3, a4, some (.int x)] st I J Q ↔ At 5 36 [a0, a1, a2, a3, a4, some (.int x)] (.int x :: st) I J Q := A_iload (q := 5) (ab_io ci5 (by decide +kernel)) rfl
theorem k5_36 : At 5 36 [some (.ref r), a1, a2, a3, a4, a5] st I J Q ↔ At 5 37 [some (.ref r), a1, a2, a3, a4, a5] (.ref r :: st) I J Q := A_aload_n (q := 0) (ab_io ci5 (by decide +kernel)) rfl
theorem k5_37 : At 5 37 ls (.ref 33 :: st) I J Q ↔ At 5 40 ls (.int (I 33 5) :: st) I J Q := A_getI (ab_io ci5 (by decide +kernel)) ow5 fq0_27_33
theorem k5_40 : At 5 40 ls (.int x1 :: .int x :: st) I J Q ↔ if x1 ≤ x then At 5 93 ls st I J Q else At 5 43 ls st I J Q := A_if_icmp_ge (o := 53) (ab_io ci5 (by decide +kernel)) (by decide)
theorem k5_43 : At 5 43 [a0, a1, some (.int x), a3, a4, a5] st I J Q ↔ At 5 44 [a0, a1, some (.int x), a3, a4, a5] (.int x :: st) I J Q := A_iload_n (q := 2) (ab_io ci5 (by decide +kernel)) rfl
theorem k5_44 : At 5 44 [a0, a1, a2, a3, a4, some (.int x)] st I J Q ↔ At 5 46 [a0, a1, a2, a3, a4, some (.int x)] (.int x :: st) I J Q := A_iload (q := 5) (ab_io ci5 (by decide +kernel)) rfl
theorem k5_46 : At 5 46 ls (.int x1 :: .int x :: st) I J Q ↔ At 5 47 ls (.int (x >>> (x1 &&& 31)) :: st) I J Q := A_ishr (ab_io ci5 (by decide +kernel))
theorem k5_47 : At 5 47 ls st I J Q ↔ At 5 48 ls (.int (nI 1) :: st) I J Q := A_iconst (ab_io ci5 (by decide +kernel)) ic_1
theorem k5_48 : At 5 48 ls (.int x1 :: .int x :: st) I J Q ↔ At 5 49 ls (.int (x &&& x1) :: st) I J Q := A_iand (ab_io ci5 (by decide +kernel))
theorem k5_49 : At 5 49 ls (.int x :: st) I J Q ↔ if ¬ x = 0 then At 5 87 ls st I J Q else At 5 52 ls st I J Q := A_ifCond_ne (o := 38) (ab_io ci5 (by decide +kernel)) (by decide)
theorem k5_52 : At 5 52 [some (.ref r), a1, a2, a3, a4, a5] st I J Q ↔ At 5 53 [some (.ref r), a1, a2, a3, a4, a5] (.ref r :: st) I J Q := A_aload_n (q := 0) (ab_io ci5 (by decide +kernel)) rfl
theorem k5_53 : At 5 53 ls (.ref 33 :: st) I J Q ↔ At 5 56 ls (.ref 38 :: st) I J Q := A_getR (ab_io ci5 (by decide +kernel)) ow5 fq0_24_33
theorem k5_56 : At 5 56 [a0, some (.int x), a2, a3, a4, a5] st I J Q ↔ At 5 57 [a0, some (.int x), a2, a3, a4, a5] (.int x :: st) I J Q := A_iload_n (q := 1) (ab_io ci5 (by decide +kernel)) rfl
theorem k5_57 : At 5 57 [a0, a1, a2, a3, a4, some (.int x)] st I J Q ↔ At 5 59 [a0, a1, a2, a3, a4, some (.int x)] (.int x :: st) I J Q := A_iload (q := 5) (ab_io ci5 (by decide +kernel)) rfl
theorem k5_59 : At 5 59 ls (.int x1 :: .int x :: .ref r :: st) I J Q ↔ ((ab_ly r).1 = 1 ∧ r < 75 ∧ 0 ≤ x.toInt ∧ x.toInt < (ab_ly r).2) ∧ At 5 60 ls st (va_up I r (va_up (I r) x.toNatClampNeg x1)) J Q := A_iastore (ab_io ci5 (by decide +kernel))
theorem k5_60 : At 5 60 [a0, a1, a2, a3, some (.int x), a5] st I J Q ↔ At 5 62 [a0, a1, a2, a3, some (.int x), a5] (.int x :: st) I J Q := A_iload (q := 4) (ab_io ci5 (by decide +kernel)) rfl
theorem k5_62 : At 5 62 [some (.ref r), a1, a2, a3, a4, a5] st I J Q ↔ At 5 63 [some (.ref r), a1, a2, a3, a4, a5] (.ref r :: st) I J Q := A_aload_n (q := 0) (ab_io ci5 (by decide +kernel)) rfl
theorem k5_63 : At 5 63 [a0, some (.int x), a2, a3, a4, a5] st I J Q ↔ At 5 64 [a0, some (.int x), a2, a3, a4, a5] (.int x :: st) I J Q := A_iload_n (q := 1) (ab_io ci5 (by decide +kernel)) rfl
theorem k5_64 : At 5 64 ls st I J Q ↔ At 5 65 ls (.int (nI 1) :: st) I J Q := A_iconst (ab_io ci5 (by decide +kernel)) ic_1
theorem k5_65 : At 5 65 ls (.int x1 :: .int x :: st) I J Q ↔ At 5 66 ls (.int (x + x1) :: st) I J Q := A_iadd (ab_io ci5 (by decide +kernel))
theorem k5_66 : At 5 66 [a0, a1, some (.int x), a3, a4, a5] st I J Q ↔ At 5 67 [a0, a1, some (.int x), a3, a4, a5] (.int x :: st) I J Q := A_iload_n (q := 2) (ab_io ci5 (by decide +kernel)) rfl
theorem k5_67 : At 5 67 ls st I J Q ↔ At 5 68 ls (.int (nI 1) :: st) I J Q := A_iconst (ab_io ci5 (by decide +kernel)) ic_1
theorem k5_68 : At 5 68 [a0, a1, a2, a3, a4, some (.int x)] st I J Q ↔ At 5 70 [a0, a1, a2, a3, a4, some (.int x)] (.int x :: st) I J Q := A_iload (q := 5) (ab_io ci5 (by decide +kernel)) rfl
theorem k5_70 : At 5 70 ls (.int x1 :: .int x :: st) I J Q ↔ At 5 71 ls (.int (x <<< (x1 &&& 31)) :: st) I J Q := A_ishl (ab_io ci5 (by decide +kernel))
theorem k5_71 : At 5 71 ls (.int x1 :: .int x :: st) I J Q ↔ At 5 72 ls (.int (x ||| x1) :: st) I J Q := A_ior (ab_io ci5 (by decide +kernel))
theorem k5_72 : At 5 72 [a0, a1, a2, some (.int x), a4, a5] st I J Q ↔ At 5 73 [a0, a1, a2, some (.int x), a4, a5] (.int x :: st) I J Q := A_iload_n (q := 3) (ab_io ci5 (by decide +kernel)) rfl
theorem k5_73 : At 5 73 [some (.ref r), a1, a2, a3, a4, a5] st I J Q ↔ At 5 74 [some (.ref r), a1, a2, a3, a4, a5] (.ref r :: st) I J Q := A_aload_n (q := 0) (ab_io ci5 (by decide +kernel)) rfl
theorem k5_74 : At 5 74 [a0, some (.int x), a2, a3, a4, a5] st I J Q ↔ At 5 75 [a0, some (.int x), a2, a3, a4, a5] (.int x :: st) I J Q := A_iload_n (q := 1) (ab_io ci5 (by decide +kernel)) rfl
theorem k5_75 : At 5 75 [a0, a1, a2, a3, a4, some (.int x)] st I J Q ↔ At 5 77 [a0, a1, a2, a3, a4, some (.int x)] (.int x :: st) I J Q := A_iload (q := 5) (ab_io ci5 (by decide +kernel)) rfl
theorem k5_77 : At 5 77 ls [.int p0, .int p1, .ref 33, .int q0, .int q1, .int q2, .ref qr3, .int q4] I J Q ↔ Cal 12 [.ref 33, .int p1, .int p0] I J (fun v I' J' => At 5 80 ls (v.toList ++ [.int q0, .int q1, .int q2, .ref qr3, .int q4]) I' J' Q) := A_cal (kd := 0) (j := 53) (na := 3) (ea := 3) (rk := 33) (by decide +kernel) rfl rfl rfl (Or.inr rfl) (Nat.le_of_ble_eq_true rfl)
theorem k5_80 : At 5 80 ls (.int x1 :: .int x :: st) I J Q ↔ At 5 81 ls (.int (x + x1) :: st) I J Q := A_iadd (ab_io ci5 (by decide +kernel))
theorem k5_81 : At 5 81 ls [.int p0, .int p1, .int p2, .ref 33, .int q0] I J Q ↔ Cal 6 [.ref 33, .int p2, .int p1, .int p0] I J (fun v I' J' => At 5 84 ls (v.toList ++ [.int q0]) I' J' Q) := A_cal (kd := 0) (j := 49) (na := 4) (ea := 4) (rk := 33) (by decide +kernel) rfl rfl rfl (Or.inr rfl) (Nat.le_of_ble_eq_true rfl)
theorem k5_84 : At 5 84 ls (.int x1 :: .int x :: st) I J Q ↔ At 5 85 ls (.int (x + x1) :: st) I J Q := A_iadd (ab_io ci5 (by decide +kernel))
theorem k5_85 : At 5 85 [a0, a1, a2, a3, a4, a5] (.int x :: st) I J Q ↔ At 5 87 [a0, a1, a2, ab_nv a3, some (.int x), a5] st I J Q := A_istore (q := 4) (ab_io ci5 (by decide +kernel)) (Nat.le_of_ble_eq_true rfl) rfl
theorem k5_87 : At 5 87 [a0, a1, a2, a3, a4, some (.int x)] st I J Q ↔ At 5 90 [a0, a1, a2, a3, ab_nv a4, some (.int (x + (nI 1)))] st I J Q := A_iinc (q := 5) (ab_io ci5 (by decide +kernel)) ic_1 (Nat.le_of_ble_eq_true rfl) rfl rfl
theorem k5_90 : At 5 90 ls st I J Q ↔ At 5 34 ls st I J Q := A_goto (o := (-56)) (ab_io ci5 (by decide +kernel)) (by decide)
theorem k5_93 : At 5 93 [a0, a1, a2, a3, some (.int x), a5] st I J Q ↔ At 5 95 [a0, a1, a2, a3, some (.int x), a5] (.int x :: st) I J Q := A_iload (q := 4) (ab_io ci5 (by decide +kernel)) rfl
theorem k5_95 : At 5 95 ls [.int x] I J Q ↔ Q (some (.int x)) I J := A_iret (ab_io ci5 (by decide +kernel)) rt5
theorem k6_0 : At 6 0 [a0, some (.int x), a2, a3, a4, a5] st I J Q ↔ At 6 1 [a0, some (.int x), a2, a3, a4, a5] (.int x :: st) I J Q := A_iload_n (q := 1) (ab_io ci6 (by decide +kernel)) rfl
theorem k6_1 : At 6 1 [some (.ref r), a1, a2, a3, a4, a5] st I J Q ↔ At 6 2 [some (.ref r), a1, a2, a3, a4, a5] (.ref r :: st) I J Q := A_aload_n (q := 0) (ab_io ci6 (by decide +kernel)) rfl
theorem k6_2 : At 6 2 ls (.ref 33 :: st) I J Q ↔ At 6 5 ls (.int (I 33 5) :: st) I J Q := A_getI (ab_io ci6 (by decide +kernel)) ow6 fq0_27_33
theorem k6_5 : At 6 5 ls (.int x1 :: .int x :: st) I J Q ↔ if x1 ≤ x then At 6 14 ls st I J Q else At 6 8 ls st I J Q := A_if_icmp_ge (o := 9) (ab_io ci6 (by decide +kernel)) (by decide)
theorem k6_8 : At 6 8 [a0, some (.int x), a2, a3, a4, a5] st I J Q ↔ At 6 9 [a0, some (.int x), a2, a3, a4, a5] (.int x :: st) I J Q := A_iload_n (q := 1) (ab_io ci6 (by decide +kernel)) rfl
theorem k6_9 : At 6 9 ls st I J Q ↔ At 6 11 ls (.int (nI 7) :: st) I J Q := A_bipush (ab_io ci6 (by decide +kernel)) bc_7
theorem k6_11 : At 6 11 ls (.int x1 :: .int x :: st) I J Q ↔ if x < x1 then At 6 28 ls st I J Q else At 6 14 ls st I J Q := A_if_icmp_lt (o := 17) (ab_io ci6 (by decide +kernel)) (by decide)
theorem k6_14 : At 6 14 [a0, a1, a2, some (.int x), a4, a5] st I J Q ↔ At 6 15 [a0, a1, a2, some (.int x), a4, a5] (.int x :: st) I J Q := A_iload_n (q := 3) (ab_io ci6 (by decide +kernel)) rfl
theorem k6_15 : At 6 15 [some (.ref r), a1, a2, a3, a4, a5] st I J Q ↔ At 6 16 [some (.ref r), a1, a2, a3, a4, a5] (.ref r :: st) I J Q := A_aload_n (q := 0) (ab_io ci6 (by decide +kernel)) rfl
theorem k6_16 : At 6 16 ls (.ref 33 :: st) I J Q ↔ At 6 19 ls (.int (I 33 6) :: st) I J Q := A_getI (ab_io ci6 (by decide +kernel)) ow6 fq0_31_33
theorem k6_19 : At 6 19 ls (.int x1 :: .int x :: st) I J Q ↔ if x < x1 then At 6 26 ls st I J Q else At 6 22 ls st I J Q := A_if_icmp_lt (o := 7) (ab_io ci6 (by decide +kernel)) (by decide)
theorem k6_22 : At 6 22 ls st I J Q ↔ At 6 23 ls (.int (nI 1) :: st) I J Q := A_iconst (ab_io ci6 (by decide +kernel)) ic_1
theorem k6_23 : At 6 23 ls st I J Q ↔ At 6 27 ls st I J Q := A_goto (o := 4) (ab_io ci6 (by decide +kernel)) (by decide)
theorem k6_26 : At 6 26 ls st I J Q ↔ At 6 27 ls (.int (nI 0) :: st) I J Q := A_iconst (ab_io ci6 (by decide +kernel)) ic_0
theorem k6_27 : At 6 27 ls [.int x] I J Q ↔ Q (some (.int x)) I J := A_iret (ab_io ci6 (by decide +kernel)) rt6
theorem k6_28 : At 6 28 ls st I J Q ↔ At 6 29 ls (.int (nI 0) :: st) I J Q := A_iconst (ab_io ci6 (by decide +kernel)) ic_0
theorem k6_29 : At 6 29 [a0, a1, a2, a3, a4, a5] (.int x :: st) I J Q ↔ At 6 31 [a0, a1, a2, ab_nv a3, some (.int x), a5] st I J Q := A_istore (q := 4) (ab_io ci6 (by decide +kernel)) (Nat.le_of_ble_eq_true rfl) rfl
theorem k6_31 : At 6 31 ls st I J Q ↔ At 6 32 ls (.int (nI 0) :: st) I J Q := A_iconst (ab_io ci6 (by decide +kernel)) ic_0
theorem k6_32 : At 6 32 [a0, a1, a2, a3, a4, a5] (.int x :: st) I J Q ↔ At 6 34 [a0, a1, a2, a3, ab_nv a4, some (.int x)] st I J Q := A_istore (q := 5) (ab_io ci6 (by decide +kernel)) (Nat.le_of_ble_eq_true rfl) rfl
theorem k6_34 : At 6 34 [a0, a1, a2, a3, a4, some (.int x)] st I J Q ↔ At 6 36 [a0, a1, a2, a3, a4, some (.int x)] (.int x :: st) I J Q := A_iload (q := 5) (ab_io ci6 (by decide +kernel)) rfl
theorem k6_36 : At 6 36 [some (.ref r), a1, a2, a3, a4, a5] st I J Q ↔ At 6 37 [some (.ref r), a1, a2, a3, a4, a5] (.ref r :: st) I J Q := A_aload_n (q := 0) (ab_io ci6 (by decide +kernel)) rfl
theorem k6_37 : At 6 37 ls (.ref 33 :: st) I J Q ↔ At 6 40 ls (.int (I 33 5) :: st) I J Q := A_getI (ab_io ci6 (by decide +kernel)) ow6 fq0_27_33
theorem k6_40 : At 6 40 ls (.int x1 :: .int x :: st) I J Q ↔ if x1 ≤ x then At 6 93 ls st I J Q else At 6 43 ls st I J Q := A_if_icmp_ge (o := 53) (ab_io ci6 (by decide +kernel)) (by decide)
theorem k6_43 : At 6 43 [a0, a1, some (.int x), a3, a4, a5] st I J Q ↔ At 6 44 [a0, a1, some (.int x), a3, a4, a5] (.int x :: st) I J Q := A_iload_n (q := 2) (ab_io ci6 (by decide +kernel)) rfl
theorem k6_44 : At 6 44 [a0, a1, a2, a3, a4, some (.int x)] st I J Q ↔ At 6 46 [a0, a1, a2, a3, a4, some (.int x)] (.int x :: st) I J Q := A_iload (q := 5) (ab_io ci6 (by decide +kernel)) rfl
theorem k6_46 : At 6 46 ls (.int x1 :: .int x :: st) I J Q ↔ At 6 47 ls (.int (x >>> (x1 &&& 31)) :: st) I J Q := A_ishr (ab_io ci6 (by decide +kernel))
theorem k6_47 : At 6 47 ls st I J Q ↔ At 6 48 ls (.int (nI 1) :: st) I J Q := A_iconst (ab_io ci6 (by decide +kernel)) ic_1
theorem k6_48 : At 6 48 ls (.int x1 :: .int x :: st) I J Q ↔ At 6 49 ls (.int (x &&& x1) :: st) I J Q := A_iand (ab_io ci6 (by decide +kernel))
theorem k6_49 : At 6 49 ls (.int x :: st) I J Q ↔ if ¬ x = 0 then At 6 87 ls st I J Q else At 6 52 ls st I J Q := A_ifCond_ne (o := 38) (ab_io ci6 (by decide +kernel)) (by decide)
theorem k6_52 : At 6 52 [some (.ref r), a1, a2, a3, a4, a5] st I J Q ↔ At 6 53 [some (.ref r), a1, a2, a3, a4, a5] (.ref r :: st) I J Q := A_aload_n (q := 0) (ab_io ci6 (by decide +kernel)) rfl
theorem k6_53 : At 6 53 ls (.ref 33 :: st) I J Q ↔ At 6 56 ls (.ref 38 :: st) I J Q := A_getR (ab_io ci6 (by decide +kernel)) ow6 fq0_24_33
theorem k6_56 : At 6 56 [a0, some (.int x), a2, a3, a4, a5] st I J Q ↔ At 6 57 [a0, some (.int x), a2, a3, a4, a5] (.int x :: st) I J Q := A_iload_n (q := 1) (ab_io ci6 (by decide +kernel)) rfl
theorem k6_57 : At 6 57 [a0, a1, a2, a3, a4, some (.int x)] st I J Q ↔ At 6 59 [a0, a1, a2, a3, a4, some (.int x)] (.int x :: st) I J Q := A_iload (q := 5) (ab_io ci6 (by decide +kernel)) rfl
theorem k6_59 : At 6 59 ls (.int x1 :: .int x :: .ref r :: st) I J Q ↔ ((ab_ly r).1 = 1 ∧ r < 75 ∧ 0 ≤ x.toInt ∧ x.toInt < (ab_ly r).2) ∧ At 6 60 ls st (va_up I r (va_up (I r) x.toNatClampNeg x1)) J Q := A_iastore (ab_io ci6 (by decide +kernel))
theorem k6_60 : At 6 60 [a0, a1, a2, a3, some (.int x), a5] st I J Q ↔ At 6 62 [a0, a1, a2, a3, some (.int x), a5] (.int x :: st) I J Q := A_iload (q := 4) (ab_io ci6 (by decide +kernel)) rfl
theorem k6_62 : At 6 62 [some (.ref r), a1, a2, a3, a4, a5] st I J Q ↔ At 6 63 [some (.ref r), a1, a2, a3, a4, a5] (.ref r :: st) I J Q := A_aload_n (q := 0) (ab_io ci6 (by decide +kernel)) rfl
theorem k6_63 : At 6 63 [a0, some (.int x), a2, a3, a4, a5] st I J Q ↔ At 6 64 [a0, some (.int x), a2, a3, a4, a5] (.int x :: st) I J Q := A_iload_n (q := 1) (ab_io ci6 (by decide +kernel)) rfl
theorem k6_64 : At 6 64 ls st I J Q ↔ At 6 65 ls (.int (nI 1) :: st) I J Q := A_iconst (ab_io ci6 (by decide +kernel)) ic_1
theorem k6_65 : At 6 65 ls (.int x1 :: .int x :: st) I J Q ↔ At 6 66 ls (.int (x + x1) :: st) I J Q := A_iadd (ab_io ci6 (by decide +kernel))
theorem k6_66 : At 6 66 [a0, a1, some (.int x), a3, a4, a5] st I J Q ↔ At 6 67 [a0, a1, some (.int x), a3, a4, a5] (.int x :: st) I J Q := A_iload_n (q := 2) (ab_io ci6 (by decide +kernel)) rfl
theorem k6_67 : At 6 67 ls st I J Q ↔ At 6 68 ls (.int (nI 1) :: st) I J Q := A_iconst (ab_io ci6 (by decide +kernel)) ic_1
theorem k6_68 : At 6 68 [a0, a1, a2, a3, a4, some (.int x)] st I J Q ↔ At 6 70 [a0, a1, a2, a3, a4, some (.int x)] (.int x :: st) I J Q := A_iload (q := 5) (ab_io ci6 (by decide +kernel)) rfl
theorem k6_70 : At 6 70 ls (.int x1 :: .int x :: st) I J Q ↔ At 6 71 ls (.int (x <<< (x1 &&& 31)) :: st) I J Q := A_ishl (ab_io ci6 (by decide +kernel))
theorem k6_71 : At 6 71 ls (.int x1 :: .int x :: st) I J Q ↔ At 6 72 ls (.int (x ||| x1) :: st) I J Q := A_ior (ab_io ci6 (by decide +kernel))
theorem k6_72 : At 6 72 [a0, a1, a2, some (.int x), a4, a5] st I J Q ↔ At 6 73 [a0, a1, a2, some (.int x), a4, a5] (.int x :: st) I J Q := A_iload_n (q := 3) (ab_io ci6 (by decide +kernel)) rfl
theorem k6_73 : At 6 73 [some (.ref r), a1, a2, a3, a4, a5] st I J Q ↔ At 6 74 [some (.ref r), a1, a2, a3, a4, a5] (.ref r :: st) I J Q := A_aload_n (q := 0) (ab_io ci6 (by decide +kernel)) rfl
theorem k6_74 : At 6 74 [a0, some (.int x), a2, a3, a4, a5] st I J Q ↔ At 6 75 [a0, some (.int x), a2, a3, a4, a5] (.int x :: st) I J Q := A_iload_n (q := 1) (ab_io ci6 (by decide +kernel)) rfl
theorem k6_75 : At 6 75 [a0, a1, a2, a3, a4, some (.int x)] st I J Q ↔ At 6 77 [a0, a1, a2, a3, a4, some (.int x)] (.int x :: st) I J Q := A_iload (q := 5) (ab_io ci6 (by decide +kernel)) rfl
theorem k6_77 : At 6 77 ls [.int p0, .int p1, .ref 33, .int q0, .int q1, .int q2, .ref qr3, .int q4] I J Q ↔ Cal 12 [.ref 33, .int p1, .int p0] I J (fun v I' J' => At 6 80 ls (v.toList ++ [.int q0, .int q1, .int q2, .ref qr3, .int q4]) I' J' Q) := A_cal (kd := 0) (j := 53) (na := 3) (ea := 3) (rk := 33) (by decide +kernel) rfl rfl rfl (Or.inr rfl) (Nat.le_of_ble_eq_true rfl)
theorem k6_80 : At 6 80 ls (.int x1 :: .int x :: st) I J Q ↔ At 6 81 ls (.int (x + x1) :: st) I J Q := A_iadd (ab_io ci6 (by decide +kernel))
theorem k6_81 : At 6 81 ls [.int p0, .int p1, .int p2, .ref 33, .int q0] I J Q ↔ Cal 7 [.ref 33, .int p2, .int p1, .int p0] I J (fun v I' J' => At 6 84 ls (v.toList ++ [.int q0]) I' J' Q) := A_cal (kd := 0) (j := 49) (na := 4) (ea := 4) (rk := 33) (by decide +kernel) rfl rfl rfl (Or.inr rfl) (Nat.le_of_ble_eq_true rfl)
theorem k6_84 : At 6 84 ls (.int x1 :: .int x :: st) I J Q ↔ At 6 85 ls (.int (x + x1) :: st) I J Q := A_iadd (ab_io ci6 (by decide +kernel))
theorem k6_85 : At 6 85 [a0, a1, a2, a3, a4, a5] (.int x :: st) I J Q ↔ At 6 87 [a0, a1, a2, ab_nv a3, some (.int x), a5] st I J Q := A_istore (q := 4) (ab_io ci6 (by decide +kernel)) (Nat.le_of_ble_eq_true rfl) rfl
theorem k6_87 : At 6 87 [a0, a1, a2, a3, a4, some (.int x)] st I J Q ↔ At 6 90 [a0, a1, a2, a3, ab_nv a4, some (.int (x + (nI 1)))] st I J Q := A_iinc (q := 5) (ab_io ci6 (by decide +kernel)) ic_1 (Nat.le_of_ble_eq_true rfl) rfl rfl
theorem k6_90 : At 6 90 ls st I J Q ↔ At 6 34 ls st I J Q := A_goto (o := (-56)) (ab_io ci6 (by decide +kernel)) (by decide)
theorem k6_93 : At 6 93 [a0, a1, a2, a3, some (.int x), a5] st I J Q ↔ At 6 95 [a0, a1, a2, a3, some (.int x), a5] (.int x :: st) I J Q := A_iload (q := 4) (ab_io ci6 (by decide +kernel)) rfl
theorem k6_95 : At 6 95 ls [.int x] I J Q ↔ Q (some (.int x)) I J := A_iret (ab_io ci6 (by decide +kernel)) rt6
theorem k7_0 : At 7 0 [a0, some (.int x), a2, a3, a4, a5] st I J Q ↔ At 7 1 [a0, some (.int x), a2, a3, a4, a5] (.int x :: st) I J Q := A_iload_n (q := 1) (ab_io ci7 (by decide +kernel)) rfl
theorem k7_1 : At 7 1 [some (.ref r), a1, a2, a3, a4, a5] st I J Q ↔ At 7 2 [some (.ref r), a1, a2, a3, a4, a5] (.ref r :: st) I J Q := A_aload_n (q := 0) (ab_io ci7 (by decide +kernel)) rfl
theorem k7_2 : At 7 2 ls (.ref 33 :: st) I J Q ↔ At 7 5 ls (.int (I 33 5) :: st) I J Q := A_getI (ab_io ci7 (by decide +kernel)) ow7 fq0_27_33
theorem k7_5 : At 7 5 ls (.int x1 :: .int x :: st) I J Q ↔ if x1 ≤ x then At 7 14 ls st I J Q else At 7 8 ls st I J Q := A_if_icmp_ge (o := 9) (ab_io ci7 (by decide +kernel)) (by decide)
theorem k7_8 : At 7 8 [a0, some (.int x), a2, a3, a4, a5] st I J Q ↔ At 7 9 [a0, some (.int x), a2, a3, a4, a5] (.int x :: st) I J Q := A_iload_n (q := 1) (ab_io ci7 (by decide +kernel)) rfl
theorem k7_9 : At 7 9 ls st I J Q ↔ At 7 11 ls (.int (nI 7) :: st) I J Q := A_bipush (ab_io ci7 (by decide +kernel)) bc_7
theorem k7_11 : At 7 11 ls (.int x1 :: .int x :: st) I J Q ↔ if x < x1 then At 7 28 ls st I J Q else At 7 14 ls st I J Q := A_if_icmp_lt (o := 17) (ab_io ci7 (by decide +kernel)) (by decide)
theorem k7_14 : At 7 14 [a0, a1, a2, some (.int x), a4, a5] st I J Q ↔ At 7 15 [a0, a1, a2, some (.int x), a4, a5] (.int x :: st) I J Q := A_iload_n (q := 3) (ab_io ci7 (by decide +kernel)) rfl
theorem k7_15 : At 7 15 [some (.ref r), a1, a2, a3, a4, a5] st I J Q ↔ At 7 16 [some (.ref r), a1, a2, a3, a4, a5] (.ref r :: st) I J Q := A_aload_n (q := 0) (ab_io ci7 (by decide +kernel)) rfl
theorem k7_16 : At 7 16 ls (.ref 33 :: st) I J Q ↔ At 7 19 ls (.int (I 33 6) :: st) I J Q := A_getI (ab_io ci7 (by decide +kernel)) ow7 fq0_31_33
theorem k7_19 : At 7 19 ls (.int x1 :: .int x :: st) I J Q ↔ if x < x1 then At 7 26 ls st I J Q else At 7 22 ls st I J Q := A_if_icmp_lt (o := 7) (ab_io ci7 (by decide +kernel)) (by decide)
theorem k7_22 : At 7 22 ls st I J Q ↔ At 7 23 ls (.int (nI 1) :: st) I J Q := A_iconst (ab_io ci7 (by decide +kernel)) ic_1
theorem k7_23 : At 7 23 ls st I J Q ↔ At 7 27 ls st I J Q := A_goto (o := 4) (ab_io ci7 (by decide +kernel)) (by decide)
theorem k7_26 : At 7 26 ls st I J Q ↔ At 7 27 ls (.int (nI 0) :: st) I J Q := A_iconst (ab_io ci7 (by decide +kernel)) ic_0
theorem k7_27 : At 7 27 ls [.int x] I J Q ↔ Q (some (.int x)) I J := A_iret (ab_io ci7 (by decide +kernel)) rt7
theorem k7_28 : At 7 28 ls st I J Q ↔ At 7 29 ls (.int (nI 0) :: st) I J Q := A_iconst (ab_io ci7 (by decide +kernel)) ic_0
theorem k7_29 : At 7 29 [a0, a1, a2, a3, a4, a5] (.int x :: st) I J Q ↔ At 7 31 [a0, a1, a2, ab_nv a3, some (.int x), a5] st I J Q := A_istore (q := 4) (ab_io ci7 (by decide +kernel)) (Nat.le_of_ble_eq_true rfl) rfl
theorem k7_31 : At 7 31 ls st I J Q ↔ At 7 32 ls (.int (nI 0) :: st) I J Q := A_iconst (ab_io ci7 (by decide +kernel)) ic_0
theorem k7_32 : At 7 32 [a0, a1, a2, a3, a4, a5] (.int x :: st) I J Q ↔ At 7 34 [a0, a1, a2, a3, ab_nv a4, some (.int x)] st I J Q := A_istore (q := 5) (ab_io ci7 (by decide +kernel)) (Nat.le_of_ble_eq_true rfl) rfl
theorem k7_34 : At 7 34 [a0, a1, a2, a3, a4, some (.int x)] st I J Q ↔ At 7 36 [a0, a1, a2, a3, a4, some (.int x)] (.int x :: st) I J Q := A_iload (q := 5) (ab_io ci7 (by decide +kernel)) rfl
theorem k7_36 : At 7 36 [some (.ref r), a1, a2, a3, a4, a5] st I J Q ↔ At 7 37 [some (.ref r), a1, a2, a3, a4, a5] (.ref r :: st) I J Q := A_aload_n (q := 0) (ab_io ci7 (by decide +kernel)) rfl
theorem k7_37 : At 7 37 ls (.ref 33 :: st) I J Q ↔ At 7 40 ls (.int (I 33 5) :: st) I J Q := A_getI (ab_io ci7 (by decide +kernel)) ow7 fq0_27_33
theorem k7_40 : At 7 40 ls (.int x1 :: .int x :: st) I J Q ↔ if x1 ≤ x then At 7 93 ls st I J Q else At 7 43 ls st I J Q := A_if_icmp_ge (o := 53) (ab_io ci7 (by decide +kernel)) (by decide)
theorem k7_43 : At 7 43 [a0, a1, some (.int x), a3, a4, a5] st I J Q ↔ At 7 44 [a0, a1, some (.int x), a3, a4, a5] (.int x :: st) I J Q := A_iload_n (q := 2) (ab_io ci7 (by decide +kernel)) rfl
theorem k7_44 : At 7 44 [a0, a1, a2, a3, a4, some (.int x)] st I J Q ↔ At 7 46 [a0, a1, a2, a3, a4, some (.int x)] (.int x :: st) I J Q := A_iload (q := 5) (ab_io ci7 (by decide +kernel)) rfl
theorem k7_46 : At 7 46 ls (.int x1 :: .int x :: st) I J Q ↔ At 7 47 ls (.int (x >>> (x1 &&& 31)) :: st) I J Q := A_ishr (ab_io ci7 (by decide +kernel))
theorem k7_47 : At 7 47 ls st I J Q ↔ At 7 48 ls (.int (nI 1) :: st) I J Q := A_iconst (ab_io ci7 (by decide +kernel)) ic_1
theorem k7_48 : At 7 48 ls (.int x1 :: .int x :: st) I J Q ↔ At 7 49 ls (.int (x &&& x1) :: st) I J Q := A_iand (ab_io ci7 (by decide +kernel))
theorem k7_49 : At 7 49 ls (.int x :: st) I J Q ↔ if ¬ x = 0 then At 7 87 ls st I J Q else At 7 52 ls st I J Q := A_ifCond_ne (o := 38) (ab_io ci7 (by decide +kernel)) (by decide)
theorem k7_52 : At 7 52 [some (.ref r), a1, a2, a3, a4, a5] st I J Q ↔ At 7 53 [some (.ref r), a1, a2, a3, a4, a5] (.ref r :: st) I J Q := A_aload_n (q := 0) (ab_io ci7 (by decide +kernel)) rfl
theorem k7_53 : At 7 53 ls (.ref 33 :: st) I J Q ↔ At 7 56 ls (.ref 38 :: st) I J Q := A_getR (ab_io ci7 (by decide +kernel)) ow7 fq0_24_33
theorem k7_56 : At 7 56 [a0, some (.int x), a2, a3, a4, a5] st I J Q ↔ At 7 57 [a0, some (.int x), a2, a3, a4, a5] (.int x :: st) I J Q := A_iload_n (q := 1) (ab_io ci7 (by decide +kernel)) rfl
theorem k7_57 : At 7 57 [a0, a1, a2, a3, a4, some (.int x)] st I J Q ↔ At 7 59 [a0, a1, a2, a3, a4, some (.int x)] (.int x :: st) I J Q := A_iload (q := 5) (ab_io ci7 (by decide +kernel)) rfl
theorem k7_59 : At 7 59 ls (.int x1 :: .int x :: .ref r :: st) I J Q ↔ ((ab_ly r).1 = 1 ∧ r < 75 ∧ 0 ≤ x.toInt ∧ x.toInt < (ab_ly r).2) ∧ At 7 60 ls st (va_up I r (va_up (I r) x.toNatClampNeg x1)) J Q := A_iastore (ab_io ci7 (by decide +kernel))
theorem k7_60 : At 7 60 [a0, a1, a2, a3, some (.int x), a5] st I J Q ↔ At 7 62 [a0, a1, a2, a3, some (.int x), a5] (.int x :: st) I J Q := A_iload (q := 4) (ab_io ci7 (by decide +kernel)) rfl
theorem k7_62 : At 7 62 [some (.ref r), a1, a2, a3, a4, a5] st I J Q ↔ At 7 63 [some (.ref r), a1, a2, a3, a4, a5] (.ref r :: st) I J Q := A_aload_n (q := 0) (ab_io ci7 (by decide +kernel)) rfl
theorem k7_63 : At 7 63 [a0, some (.int x), a2, a3, a4, a5] st I J Q ↔ At 7 64 [a0, some (.int x), a2, a3, a4, a5] (.int x :: st) I J Q := A_iload_n (q := 1) (ab_io ci7 (by decide +kernel)) rfl
theorem k7_64 : At 7 64 ls st I J Q ↔ At 7 65 ls (.int (nI 1) :: st) I J Q := A_iconst (ab_io ci7 (by decide +kernel)) ic_1
theorem k7_65 : At 7 65 ls (.int x1 :: .int x :: st) I J Q ↔ At 7 66 ls (.int (x + x1) :: st) I J Q := A_iadd (ab_io ci7 (by decide +kernel))
theorem k7_66 : At 7 66 [a0, a1, some (.int x), a3, a4, a5] st I J Q ↔ At 7 67 [a0, a1, some (.int x), a3, a4, a5] (.int x :: st) I J Q := A_iload_n (q := 2) (ab_io ci7 (by decide +kernel)) rfl
theorem k7_67 : At 7 67 ls st I J Q ↔ At 7 68 ls (.int (nI 1) :: st) I J Q := A_iconst (ab_io ci7 (by decide +kernel)) ic_1
theorem k7_68 : At 7 68 [a0, a1, a2, a3, a4, some (.int x)] st I J Q ↔ At 7 70 [a0, a1, a2, a3, a4, some (.int x)] (.int x :: st) I J Q := A_iload (q := 5) (ab_io ci7 (by decide +kernel)) rfl
theorem k7_70 : At 7 70 ls (.int x1 :: .int x :: st) I J Q ↔ At 7 71 ls (.int (x <<< (x1 &&& 31)) :: st) I J Q := A_ishl (ab_io ci7 (by decide +kernel))
theorem k7_71 : At 7 71 ls (.int x1 :: .int x :: st) I J Q ↔ At 7 72 ls (.int (x ||| x1) :: st) I J Q := A_ior (ab_io ci7 (by decide +kernel))
theorem k7_72 : At 7 72 [a0, a1, a2, some (.int x), a4, a5] st I J Q ↔ At 7 73 [a0, a1, a2, some (.int x), a4, a5] (.int x :: st) I J Q := A_iload_n (q := 3) (ab_io ci7 (by decide +kernel)) rfl
theorem k7_73 : At 7 73 [some (.ref r), a1, a2, a3, a4, a5] st I J Q ↔ At 7 74 [some (.ref r), a1, a2, a3, a4, a5] (.ref r :: st) I J Q := A_aload_n (q := 0) (ab_io ci7 (by decide +kernel)) rfl
theorem k7_74 : At 7 74 [a0, some (.int x), a2, a3, a4, a5] st I J Q ↔ At 7 75 [a0, some (.int x), a2, a3, a4, a5] (.int x :: st) I J Q := A_iload_n (q := 1) (ab_io ci7 (by decide +kernel)) rfl
theorem k7_75 : At 7 75 [a0, a1, a2, a3, a4, some (.int x)] st I J Q ↔ At 7 77 [a0, a1, a2, a3, a4, some (.int x)] (.int x :: st) I J Q := A_iload (q := 5) (ab_io ci7 (by decide +kernel)) rfl
theorem k7_77 : At 7 77 ls [.int p0, .int p1, .ref 33, .int q0, .int q1, .int q2, .ref qr3, .int q4] I J Q ↔ Cal 12 [.ref 33, .int p1, .int p0] I J (fun v I' J' => At 7 80 ls (v.toList ++ [.int q0, .int q1, .int q2, .ref qr3, .int q4]) I' J' Q) := A_cal (kd := 0) (j := 53) (na := 3) (ea := 3) (rk := 33) (by decide +kernel) rfl rfl rfl (Or.inr rfl) (Nat.le_of_ble_eq_true rfl)
theorem k7_80 : At 7 80 ls (.int x1 :: .int x :: st) I J Q ↔ At 7 81 ls (.int (x + x1) :: st) I J Q := A_iadd (ab_io ci7 (by decide +kernel))
theorem k7_81 : At 7 81 ls [.int p0, .int p1, .int p2, .ref 33, .int q0] I J Q ↔ Cal 8 [.ref 33, .int p2, .int p1, .int p0] I J (fun v I' J' => At 7 84 ls (v.toList ++ [.int q0]) I' J' Q) := A_cal (kd := 0) (j := 49) (na := 4) (ea := 4) (rk := 33) (by decide +kernel) rfl rfl rfl (Or.inr rfl) (Nat.le_of_ble_eq_true rfl)
theorem k7_84 : At 7 84 ls (.int x1 :: .int x :: st) I J Q ↔ At 7 85 ls (.int (x + x1) :: st) I J Q := A_iadd (ab_io ci7 (by decide +kernel))
theorem k7_85 : At 7 85 [a0, a1, a2, a3, a4, a5] (.int x :: st) I J Q ↔ At 7 87 [a0, a1, a2, ab_nv a3, some (.int x), a5] st I J Q := A_istore (q := 4) (ab_io ci7 (by decide +kernel)) (Nat.le_of_ble_eq_true rfl) rfl
theorem k7_87 : At 7 87 [a0, a1, a2, a3, a4, some (.int x)] st I J Q ↔ At 7 90 [a0, a1, a2, a3, ab_nv a4, some (.int (x + (nI 1)))] st I J Q := A_iinc (q := 5) (ab_io ci7 (by decide +kernel)) ic_1 (Nat.le_of_ble_eq_true rfl) rfl rfl
theorem k7_90 : At 7 90 ls st I J Q ↔ At 7 34 ls st I J Q := A_goto (o := (-56)) (ab_io ci7 (by decide +kernel)) (by decide)
theorem k7_93 : At 7 93 [a0, a1, a2, a3, some (.int x), a5] st I J Q ↔ At 7 95 [a0, a1, a2, a3, some (.int x), a5] (.int x :: st) I J Q := A_iload (q := 4) (ab_io ci7 (by decide +kernel)) rfl
theorem k7_95 : At 7 95 ls [.int x] I J Q ↔ Q (some (.int x)) I J := A_iret (ab_io ci7 (by decide +kernel)) rt7
theorem k8_0 : At 8 0 [a0, some (.int x), a2, a3, a4, a5] st I J Q ↔ At 8 1 [a0, some (.int x), a2, a3, a4, a5] (.int x :: st) I J Q := A_iload_n (q := 1) (ab_io ci8 (by decide +kernel)) rfl
theorem k8_1 : At 8 1 [some (.ref r), a1, a2, a3, a4, a5] st I J Q ↔ At 8 2 [some (.ref r), a1, a2, a3, a4, a5] (.ref r :: st) I J Q := A_aload_n (q := 0) (ab_io ci8 (by decide +kernel)) rfl
theorem k8_2 : At 8 2 ls (.ref 33 :: st) I J Q ↔ At 8 5 ls (.int (I 33 5) :: st) I J Q := A_getI (ab_io ci8 (by decide +kernel)) ow8 fq0_27_33
theorem k8_5 : At 8 5 ls (.int x1 :: .int x :: st) I J Q ↔ if x1 ≤ x then At 8 14 ls st I J Q else At 8 8 ls st I J Q := A_if_icmp_ge (o := 9) (ab_io ci8 (by decide +kernel)) (by decide)
theorem k8_8 : At 8 8 [a0, some (.int x), a2, a3, a4, a5] st I J Q ↔ At 8 9 [a0, some (.int x), a2, a3, a4, a5] (.int x :: st) I J Q := A_iload_n (q := 1) (ab_io ci8 (by decide +kernel)) rfl
theorem k8_9 : At 8 9 ls st I J Q ↔ At 8 11 ls (.int (nI 7) :: st) I J Q := A_bipush (ab_io ci8 (by decide +kernel)) bc_7
theorem k8_11 : At 8 11 ls (.int x1 :: .int x :: st) I J Q ↔ if x < x1 then At 8 28 ls st I J Q else At 8 14 ls st I J Q := A_if_icmp_lt (o := 17) (ab_io ci8 (by decide +kernel)) (by decide)
theorem k8_14 : At 8 14 [a0, a1, a2, some (.int x), a4, a5] st I J Q ↔ At 8 15 [a0, a1, a2, some (.int x), a4, a5] (.int x :: st) I J Q := A_iload_n (q := 3) (ab_io ci8 (by decide +kernel)) rfl
theorem k8_15 : At 8 15 [some (.ref r), a1, a2, a3, a4, a5] st I J Q ↔ At 8 16 [some (.ref r), a1, a2, a3, a4, a5] (.ref r :: st) I J Q := A_aload_n (q := 0) (ab_io ci8 (by decide +kernel)) rfl
theorem k8_16 : At 8 16 ls (.ref 33 :: st) I J Q ↔ At 8 19 ls (.int (I 33 6) :: st) I J Q := A_getI (ab_io ci8 (by decide +kernel)) ow8 fq0_31_33
theorem k8_19 : At 8 19 ls (.int x1 :: .int x :: st) I J Q ↔ if x < x1 then At 8 26 ls st I J Q else At 8 22 ls st I J Q := A_if_icmp_lt (o := 7) (ab_io ci8 (by decide +kernel)) (by decide)
theorem k8_22 : At 8 22 ls st I J Q ↔ At 8 23 ls (.int (nI 1) :: st) I J Q := A_iconst (ab_io ci8 (by decide +kernel)) ic_1
theorem k8_23 : At 8 23 ls st I J Q ↔ At 8 27 ls st I J Q := A_goto (o := 4) (ab_io ci8 (by decide +kernel)) (by decide)
theorem k8_26 : At 8 26 ls st I J Q ↔ At 8 27 ls (.int (nI 0) :: st) I J Q := A_iconst (ab_io ci8 (by decide +kernel)) ic_0
theorem k8_27 : At 8 27 ls [.int x] I J Q ↔ Q (some (.int x)) I J := A_iret (ab_io ci8 (by decide +kernel)) rt8
theorem k8_28 : At 8 28 ls st I J Q ↔ At 8 29 ls (.int (nI 0) :: st) I J Q := A_iconst (ab_io ci8 (by decide +kernel)) ic_0
theorem k8_29 : At 8 29 [a0, a1, a2, a3, a4, a5] (.int x :: st) I J Q ↔ At 8 31 [a0, a1, a2, ab_nv a3, some (.int x), a5] st I J Q := A_istore (q := 4) (ab_io ci8 (by decide +kernel)) (Nat.le_of_ble_eq_true rfl) rfl
theorem k8_31 : At 8 31 ls st I J Q ↔ At 8 32 ls (.int (nI 0) :: st) I J Q := A_iconst (ab_io ci8 (by decide +kernel)) ic_0
theorem k8_32 : At 8 32 [a0, a1, a2, a3, a4, a5] (.int x :: st) I J Q ↔ At 8 34 [a0, a1, a2, a3, ab_nv a4, some (.int x)] st I J Q := A_istore (q := 5) (ab_io ci8 (by decide +kernel)) (Nat.le_of_ble_eq_true rfl) rfl
theorem k8_34 : At 8 34 [a0, a1, a2, a3, a4, some (.int x)] st I J Q ↔ At 8 36 [a0, a1, a2, a3, a4, some (.int x)] (.int x :: st) I J Q := A_iload (q := 5) (ab_io ci8 (by decide +kernel)) rfl
theorem k8_36 : At 8 36 [some (.ref r), a1, a2, a3, a4, a5] st I J Q ↔ At 8 37 [some (.ref r), a1, a2, a3, a4, a5] (.ref r :: st) I J Q := A_aload_n (q := 0) (ab_io ci8 (by decide +kernel)) rfl
theorem k8_37 : At 8 37 ls (.ref 33 :: st) I J Q ↔ At 8 40 ls (.int (I 33 5) :: st) I J Q := A_getI (ab_io ci8 (by decide +kernel)) ow8 fq0_27_33
theorem k8_40 : At 8 40 ls (.int x1 :: .int x :: st) I J Q ↔ if x1 ≤ x then At 8 93 ls st I J Q else At 8 43 ls st I J Q := A_if_icmp_ge (o := 53) (ab_io ci8 (by decide +kernel)) (by decide)
theorem k8_43 : At 8 43 [a0, a1, some (.int x), a3, a4, a5] st I J Q ↔ At 8 44 [a0, a1, some (.int x), a3, a4, a5] (.int x :: st) I J Q := A_iload_n (q := 2) (ab_io ci8 (by decide +kernel)) rfl
theorem k8_44 : At 8 44 [a0, a1, a2, a3, a4, some (.int x)] st I J Q ↔ At 8 46 [a0, a1, a2, a3, a4, some (.int x)] (.int x :: st) I J Q := A_iload (q := 5) (ab_io ci8 (by decide +kernel)) rfl
theorem k8_46 : At 8 46 ls (.int x1 :: .int x :: st) I J Q ↔ At 8 47 ls (.int (x >>> (x1 &&& 31)) :: st) I J Q := A_ishr (ab_io ci8 (by decide +kernel))
theorem k8_47 : At 8 47 ls st I J Q ↔ At 8 48 ls (.int (nI 1) :: st) I J Q := A_iconst (ab_io ci8 (by decide +kernel)) ic_1
theorem k8_48 : At 8 48 ls (.int x1 :: .int x :: st) I J Q ↔ At 8 49 ls (.int (x &&& x1) :: st) I J Q := A_iand (ab_io ci8 (by decide +kernel))
theorem k8_49 : At 8 49 ls (.int x :: st) I J Q ↔ if ¬ x = 0 then At 8 87 ls st I J Q else At 8 52 ls st I J Q := A_ifCond_ne (o := 38) (ab_io ci8 (by decide +kernel)) (by decide)
theorem k8_52 : At 8 52 [some (.ref r), a1, a2, a3, a4, a5] st I J Q ↔ At 8 53 [some (.ref r), a1, a2, a3, a4, a5] (.ref r :: st) I J Q := A_aload_n (q := 0) (ab_io ci8 (by decide +kernel)) rfl
theorem k8_53 : At 8 53 ls (.ref 33 :: st) I J Q ↔ At 8 56 ls (.ref 38 :: st) I J Q := A_getR (ab_io ci8 (by decide +kernel)) ow8 fq0_24_33
theorem k8_56 : At 8 56 [a0, some (.int x), a2, a3, a4, a5] st I J Q ↔ At 8 57 [a0, some (.int x), a2, a3, a4, a5] (.int x :: st) I J Q := A_iload_n (q := 1) (ab_io ci8 (by decide +kernel)) rfl
theorem k8_57 : At 8 57 [a0, a1, a2, a3, a4, some (.int x)] st I J Q ↔ At 8 59 [a0, a1, a2, a3, a4, some (.int x)] (.int x :: st) I J Q := A_iload (q := 5) (ab_io ci8 (by decide +kernel)) rfl
theorem k8_59 : At 8 59 ls (.int x1 :: .int x :: .ref r :: st) I J Q ↔ ((ab_ly r).1 = 1 ∧ r < 75 ∧ 0 ≤ x.toInt ∧ x.toInt < (ab_ly r).2) ∧ At 8 60 ls st (va_up I r (va_up (I r) x.toNatClampNeg x1)) J Q := A_iastore (ab_io ci8 (by decide +kernel))
theorem k8_60 : At 8 60 [a0, a1, a2, a3, some (.int x), a5] st I J Q ↔ At 8 62 [a0, a1, a2, a3, some (.int x), a5] (.int x :: st) I J Q := A_iload (q := 4) (ab_io ci8 (by decide +kernel)) rfl
theorem k8_62 : At 8 62 [some (.ref r), a1, a2, a3, a4, a5] st I J Q ↔ At 8 63 [some (.ref r), a1, a2, a3, a4, a5] (.ref r :: st) I J Q := A_aload_n (q := 0) (ab_io ci8 (by decide +kernel)) rfl
theorem k8_63 : At 8 63 [a0, some (.int x), a2, a3, a4, a5] st I J Q ↔ At 8 64 [a0, some (.int x), a2, a3, a4, a5] (.int x :: st) I J Q := A_iload_n (q := 1) (ab_io ci8 (by decide +kernel)) rfl
theorem k8_64 : At 8 64 ls st I J Q ↔ At 8 65 ls (.int (nI 1) :: st) I J Q := A_iconst (ab_io ci8 (by decide +kernel)) ic_1
theorem k8_65 : At 8 65 ls (.int x1 :: .int x :: st) I J Q ↔ At 8 66 ls (.int (x + x1) :: st) I J Q := A_iadd (ab_io ci8 (by decide +kernel))
theorem k8_66 : At 8 66 [a0, a1, some (.int x), a3, a4, a5] st I J Q ↔ At 8 67 [a0, a1, some (.int x), a3, a4, a5] (.int x :: st) I J Q := A_iload_n (q := 2) (ab_io ci8 (by decide +kernel)) rfl
theorem k8_67 : At 8 67 ls st I J Q ↔ At 8 68 ls (.int (nI 1) :: st) I J Q := A_iconst (ab_io ci8 (by decide +kernel)) ic_1
theorem k8_68 : At 8 68 [a0, a1, a2, a3, a4, some (.int x)] st I J Q ↔ At 8 70 [a0, a1, a2, a3, a4, some (.int x)] (.int x :: st) I J Q := A_iload (q := 5) (ab_io ci8 (by decide +kernel)) rfl
theorem k8_70 : At 8 70 ls (.int x1 :: .int x :: st) I J Q ↔ At 8 71 ls (.int (x <<< (x1 &&& 31)) :: st) I J Q := A_ishl (ab_io ci8 (by decide +kernel))
theorem k8_71 : At 8 71 ls (.int x1 :: .int x :: st) I J Q ↔ At 8 72 ls (.int (x ||| x1) :: st) I J Q := A_ior (ab_io ci8 (by decide +kernel))
theorem k8_72 : At 8 72 [a0, a1, a2, some (.int x), a4, a5] st I J Q ↔ At 8 73 [a0, a1, a2, some (.int x), a4, a5] (.int x :: st) I J Q := A_iload_n (q := 3) (ab_io ci8 (by decide +kernel)) rfl
theorem k8_73 : At 8 73 [some (.ref r), a1, a2, a3, a4, a5] st I J Q ↔ At 8 74 [some (.ref r), a1, a2, a3, a4, a5] (.ref r :: st) I J Q := A_aload_n (q := 0) (ab_io ci8 (by decide +kernel)) rfl
theorem k8_74 : At 8 74 [a0, some (.int x), a2, a3, a4, a5] st I J Q ↔ At 8 75 [a0, some (.int x), a2, a3, a4, a5] (.int x :: st) I J Q := A_iload_n (q := 1) (ab_io ci8 (by decide +kernel)) rfl
theorem k8_75 : At 8 75 [a0, a1, a2, a3, a4, some (.int x)] st I J Q ↔ At 8 77 [a0, a1, a2, a3, a4, some (.int x)] (.int x :: st) I J Q := A_iload (q := 5) (ab_io ci8 (by decide +kernel)) rfl
theorem k8_77 : At 8 77 ls [.int p0, .int p1, .ref 33, .int q0, .int q1, .int q2, .ref qr3, .int q4] I J Q ↔ Cal 12 [.ref 33, .int p1, .int p0] I J (fun v I' J' => At 8 80 ls (v.toList ++ [.int q0, .int q1, .int q2, .ref qr3, .int q4]) I' J' Q) := A_cal (kd := 0) (j := 53) (na := 3) (ea := 3) (rk := 33) (by decide +kernel) rfl rfl rfl (Or.inr rfl) (Nat.le_of_ble_eq_true rfl)
theorem k8_80 : At 8 80 ls (.int x1 :: .int x :: st) I J Q ↔ At 8 81 ls (.int (x + x1) :: st) I J Q := A_iadd (ab_io ci8 (by decide +kernel))
theorem k8_81 : At 8 81 ls [.int p0, .int p1, .int p2, .ref 33, .int q0] I J Q ↔ Cal 9 [.ref 33, .int p2, .int p1, .int p0] I J (fun v I' J' => At 8 84 ls (v.toList ++ [.int q0]) I' J' Q) := A_cal (kd := 0) (j := 49) (na := 4) (ea := 4) (rk := 33) (by decide +kernel) rfl rfl rfl (Or.inr rfl) (Nat.le_of_ble_eq_true rfl)
theorem k8_84 : At 8 84 ls (.int x1 :: .int x :: st) I J Q ↔ At 8 85 ls (.int (x + x1) :: st) I J Q := A_iadd (ab_io ci8 (by decide +kernel))
theorem k8_85 : At 8 85 [a0, a1, a2, a3, a4, a5] (.int x :: st) I J Q ↔ At 8 87 [a0, a1, a2, ab_nv a3, some (.int x), a5] st I J Q := A_istore (q := 4) (ab_io ci8 (by decide +kernel)) (Nat.le_of_ble_eq_true rfl) rfl
theorem k8_87 : At 8 87 [a0, a1, a2, a3, a4, some (.int x)] st I J Q ↔ At 8 90 [a0, a1, a2, a3, ab_nv a4, some (.int (x + (nI 1)))] st I J Q := A_iinc (q := 5) (ab_io ci8 (by decide +kernel)) ic_1 (Nat.le_of_ble_eq_true rfl) rfl rfl
theorem k8_90 : At 8 90 ls st I J Q ↔ At 8 34 ls st I J Q := A_goto (o := (-56)) (ab_io ci8 (by decide +kernel)) (by decide)
theorem k8_93 : At 8 93 [a0, a1, a2, a3, some (.int x), a5] st I J Q ↔ At 8 95 [a0, a1, a2, a3, some (.int x), a5] (.int x :: st) I J Q := A_iload (q := 4) (ab_io ci8 (by decide +kernel)) rfl
theorem k8_95 : At 8 95 ls [.int x] I J Q ↔ Q (some (.int x)) I J := A_iret (ab_io ci8 (by decide +kernel)) rt8
theorem k9_0 : At 9 0 [a0, some (.int x), a2, a3, a4, a5] st I J Q ↔ At 9 1 [a0, some (.int x), a2, a3, a4, a5] (.int x :: st) I J Q := A_iload_n (q := 1) (ab_io ci9 (by decide +kernel)) rfl
theorem k9_1 : At 9 1 [some (.ref r), a1, a2, a3, a4, a5] st I J Q ↔ At 9 2 [some (.ref r), a1, a2, a3, a4, a5] (.ref r :: st) I J Q := A_aload_n (q := 0) (ab_io ci9 (by decide +kernel)) rfl
theorem k9_2 : At 9 2 ls (.ref 33 :: st) I J Q ↔ At 9 5 ls (.int (I 33 5) :: st) I J Q := A_getI (ab_io ci9 (by decide +kernel)) ow9 fq0_27_33
theorem k9_5 : At 9 5 ls (.int x1 :: .int x :: st) I J Q ↔ if x1 ≤ x then At 9 14 ls st I J Q else At 9 8 ls st I J Q := A_if_icmp_ge (o := 9) (ab_io ci9 (by decide +kernel)) (by decide)
theorem k9_8 : At 9 8 [a0, some (.int x), a2, a3, a4, a5] st I J Q ↔ At 9 9 [a0, some (.int x), a2, a3, a4, a5] (.int x :: st) I J Q := A_iload_n (q := 1) (ab_io ci9 (by decide +kernel)) rfl
theorem k9_9 : At 9 9 ls st I J Q ↔ At 9 11 ls (.int (nI 7) :: st) I J Q := A_bipush (ab_io ci9 (by decide +kernel)) bc_7
theorem k9_11 : At 9 11 ls (.int x1 :: .int x :: st) I J Q ↔ if x < x1 then At 9 28 ls st I J Q else At 9 14 ls st I J Q := A_if_icmp_lt (o := 17) (ab_io ci9 (by decide +kernel)) (by decide)
theorem k9_14 : At 9 14 [a0, a1, a2, some (.int x), a4, a5] st I J Q ↔ At 9 15 [a0, a1, a2, some (.int x), a4, a5] (.int x :: st) I J Q := A_iload_n (q := 3) (ab_io ci9 (by decide +kernel)) rfl
theorem k9_15 : At 9 15 [some (.ref r), a1, a2, a3, a4, a5] st I J Q ↔ At 9 16 [some (.ref r), a1, a2, a3, a4, a5] (.ref r :: st) I J Q := A_aload_n (q := 0) (ab_io ci9 (by decide +kernel)) rfl
theorem k9_16 : At 9 16 ls (.ref 33 :: st) I J Q ↔ At 9 19 ls (.int (I 33 6) :: st) I J Q := A_getI (ab_io ci9 (by decide +kernel)) ow9 fq0_31_33
theorem k9_19 : At 9 19 ls (.int x1 :: .int x :: st) I J Q ↔ if x < x1 then At 9 26 ls st I J Q else At 9 22 ls st I J Q := A_if_icmp_lt (o := 7) (ab_io ci9 (by decide +kernel)) (by decide)
theorem k9_22 : At 9 22 ls st I J Q ↔ At 9 23 ls (.int (nI 1) :: st) I J Q := A_iconst (ab_io ci9 (by decide +kernel)) ic_1
theorem k9_23 : At 9 23 ls st I J Q ↔ At 9 27 ls st I J Q := A_goto (o := 4) (ab_io ci9 (by decide +kernel)) (by decide)
theorem k9_26 : At 9 26 ls st I J Q ↔ At 9 27 ls (.int (nI 0) :: st) I J Q := A_iconst (ab_io ci9 (by decide +kernel)) ic_0
theorem k9_27 : At 9 27 ls [.int x] I J Q ↔ Q (some (.int x)) I J := A_iret (ab_io ci9 (by decide +kernel)) rt9
theorem k9_28 : At 9 28 ls st I J Q ↔ At 9 29 ls (.int (nI 0) :: st) I J Q := A_iconst (ab_io ci9 (by decide +kernel)) ic_0
theorem k9_29 : At 9 29 [a0, a1, a2, a3, a4, a5] (.int x :: st) I J Q ↔ At 9 31 [a0, a1, a2, ab_nv a3, some (.int x), a5] st I J Q := A_istore (q := 4) (ab_io ci9 (by decide +kernel)) (Nat.le_of_ble_eq_true rfl) rfl
theorem k9_31 : At 9 31 ls st I J Q ↔ At 9 32 ls (.int (nI 0) :: st) I J Q := A_iconst (ab_io ci9 (by decide +kernel)) ic_0
theorem k9_32 : At 9 32 [a0, a1, a2, a3, a4, a5] (.int x :: st) I J Q ↔ At 9 34 [a0, a1, a2, a3, ab_nv a4, some (.int x)] st I J Q := A_istore (q := 5) (ab_io ci9 (by decide +kernel)) (Nat.le_of_ble_eq_true rfl) rfl
theorem k9_34 : At 9 34 [a0, a1, a2, a3, a4, some (.int x)] st I J Q ↔ At 9 36 [a0, a1, a2, a3, a4, some (.int x)] (.int x :: st) I J Q := A_iload (q := 5) (ab_io ci9 (by decide +kernel)) rfl
theorem k9_36 : At 9 36 [some (.ref r), a1, a2, a3, a4, a5] st I J Q ↔ At 9 37 [some (.ref r), a1, a2, a3, a4, a5] (.ref r :: st) I J Q := A_aload_n (q := 0) (ab_io ci9 (by decide +kernel)) rfl
theorem k9_37 : At 9 37 ls (.ref 33 :: st) I J Q ↔ At 9 40 ls (.int (I 33 5) :: st) I J Q := A_getI (ab_io ci9 (by decide +kernel)) ow9 fq0_27_33
theorem k9_40 : At 9 40 ls (.int x1 :: .int x :: st) I J Q ↔ if x1 ≤ x then At 9 93 ls st I J Q else At 9 43 ls st I J Q := A_if_icmp_ge (o := 53) (ab_io ci9 (by decide +kernel)) (by decide)
theorem k9_43 : At 9 43 [a0, a1, some (.int x), a3, a4, a5] st I J Q ↔ At 9 44 [a0, a1, some (.int x), a3, a4, a5] (.int x :: st) I J Q := A_iload_n (q := 2) (ab_io ci9 (by decide +kernel)) rfl
theorem k9_44 : At 9 44 [a0, a1, a2, a3, a4, some (.int x)] st I J Q ↔ At 9 46 [a0, a1, a2, a3, a4, some (.int x)] (.int x :: st) I J Q := A_iload (q := 5) (ab_io ci9 (by decide +kernel)) rfl
theorem k9_46 : At 9 46 ls (.int x1 :: .int x :: st) I J Q ↔ At 9 47 ls (.int (x >>> (x1 &&& 31)) :: st) I J Q := A_ishr (ab_io ci9 (by decide +kernel))
theorem k9_47 : At 9 47 ls st I J Q ↔ At 9 48 ls (.int (nI 1) :: st) I J Q := A_iconst (ab_io ci9 (by decide +kernel)) ic_1
theorem k9_48 : At 9 48 ls (.int x1 :: .int x :: st) I J Q ↔ At 9 49 ls (.int (x &&& x1) :: st) I J Q := A_iand (ab_io ci9 (by decide +kernel))
theorem k9_49 : At 9 49 ls (.int x :: st) I J Q ↔ if ¬ x = 0 then At 9 87 ls st I J Q else At 9 52 ls st I J Q := A_ifCond_ne (o := 38) (ab_io ci9 (by decide +kernel)) (by decide)
theorem k9_52 : At 9 52 [some (.ref r), a1, a2, a3, a4, a5] st I J Q ↔ At 9 53 [some (.ref r), a1, a2, a3, a4, a5] (.ref r :: st) I J Q := A_aload_n (q := 0) (ab_io ci9 (by decide +kernel)) rfl
theorem k9_53 : At 9 53 ls (.ref 33 :: st) I J Q ↔ At 9 56 ls (.ref 38 :: st) I J Q := A_getR (ab_io ci9 (by decide +kernel)) ow9 fq0_24_33
theorem k9_56 : At 9 56 [a0, some (.int x), a2, a3, a4, a5] st I J Q ↔ At 9 57 [a0, some (.int x), a2, a3, a4, a5] (.int x :: st) I J Q := A_iload_n (q := 1) (ab_io ci9 (by decide +kernel)) rfl
theorem k9_57 : At 9 57 [a0, a1, a2, a3, a4, some (.int x)] st I J Q ↔ At 9 59 [a0, a1, a2, a3, a4, some (.int x)] (.int x :: st) I J Q := A_iload (q := 5) (ab_io ci9 (by decide +kernel)) rfl
theorem k9_59 : At 9 59 ls (.int x1 :: .int x :: .ref r :: st) I J Q ↔ ((ab_ly r).1 = 1 ∧ r < 75 ∧ 0 ≤ x.toInt ∧ x.toInt < (ab_ly r).2) ∧ At 9 60 ls st (va_up I r (va_up (I r) x.toNatClampNeg x1)) J Q := A_iastore (ab_io ci9 (by decide +kernel))
theorem k9_60 : At 9 60 [a0, a1, a2, a3, some (.int x), a5] st I J Q ↔ At 9 62 [a0, a1, a2, a3, some (.int x), a5] (.int x :: st) I J Q := A_iload (q := 4) (ab_io ci9 (by decide +kernel)) rfl
theorem k9_62 : At 9 62 [some (.ref r), a1, a2, a3, a4, a5] st I J Q ↔ At 9 63 [some (.ref r), a1, a2, a3, a4, a5] (.ref r :: st) I J Q := A_aload_n (q := 0) (ab_io ci9 (by decide +kernel)) rfl
theorem k9_63 : At 9 63 [a0, some (.int x), a2, a3, a4, a5] st I J Q ↔ At 9 64 [a0, some (.int x), a2, a3, a4, a5] (.int x :: st) I J Q := A_iload_n (q := 1) (ab_io ci9 (by decide +kernel)) rfl
theorem k9_64 : At 9 64 ls st I J Q ↔ At 9 65 ls (.int (nI 1) :: st) I J Q := A_iconst (ab_io ci9 (by decide +kernel)) ic_1
theorem k9_65 : At 9 65 ls (.int x1 :: .int x :: st) I J Q ↔ At 9 66 ls (.int (x + x1) :: st) I J Q := A_iadd (ab_io ci9 (by decide +kernel))
theorem k9_66 : At 9 66 [a0, a1, some (.int x), a3, a4, a5] st I J Q ↔ At 9 67 [a0, a1, some (.int x), a3, a4, a5] (.int x :: st) I J Q := A_iload_n (q := 2) (ab_io ci9 (by decide +kernel)) rfl
theorem k9_67 : At 9 67 ls st I J Q ↔ At 9 68 ls (.int (nI 1) :: st) I J Q := A_iconst (ab_io ci9 (by decide +kernel)) ic_1
theorem k9_68 : At 9 68 [a0, a1, a2, a3, a4, some (.int x)] st I J Q ↔ At 9 70 [a0, a1, a2, a3, a4, some (.int x)] (.int x :: st) I J Q := A_iload (q := 5) (ab_io ci9 (by decide +kernel)) rfl
theorem k9_70 : At 9 70 ls (.int x1 :: .int x :: st) I J Q ↔ At 9 71 ls (.int (x <<< (x1 &&& 31)) :: st) I J Q := A_ishl (ab_io ci9 (by decide +kernel))
theorem k9_71 : At 9 71 ls (.int x1 :: .int x :: st) I J Q ↔ At 9 72 ls (.int (x ||| x1) :: st) I J Q := A_ior (ab_io ci9 (by decide +kernel))
theorem k9_72 : At 9 72 [a0, a1, a2, some (.int x), a4, a5] st I J Q ↔ At 9 73 [a0, a1, a2, some (.int x), a4, a5] (.int x :: st) I J Q := A_iload_n (q := 3) (ab_io ci9 (by decide +kernel)) rfl
theorem k9_73 : At 9 73 [some (.ref r), a1, a2, a3, a4, a5] st I J Q ↔ At 9 74 [some (.ref r), a1, a2, a3, a4, a5] (.ref r :: st) I J Q := A_aload_n (q := 0) (ab_io ci9 (by decide +kernel)) rfl
theorem k9_74 : At 9 74 [a0, some (.int x), a2, a3, a4, a5] st I J Q ↔ At 9 75 [a0, some (.int x), a2, a3, a4, a5] (.int x :: st) I J Q := A_iload_n (q := 1) (ab_io ci9 (by decide +kernel)) rfl
theorem k9_75 : At 9 75 [a0, a1, a2, a3, a4, some (.int x)] st I J Q ↔ At 9 77 [a0, a1, a2, a3, a4, some (.int x)] (.int x :: st) I J Q := A_iload (q := 5) (ab_io ci9 (by decide +kernel)) rfl
theorem k9_77 : At 9 77 ls [.int p0, .int p1, .ref 33, .int q0, .int q1, .int q2, .ref qr3, .int q4] I J Q ↔ Cal 12 [.ref 33, .int p1, .int p0] I J (fun v I' J' => At 9 80 ls (v.toList ++ [.int q0, .int q1, .int q2, .ref qr3, .int q4]) I' J' Q) := A_cal (kd := 0) (j := 53) (na := 3) (ea := 3) (rk := 33) (by decide +kernel) rfl rfl rfl (Or.inr rfl) (Nat.le_of_ble_eq_true rfl)
theorem k9_80 : At 9 80 ls (.int x1 :: .int x :: st) I J Q ↔ At 9 81 ls (.int (x + x1) :: st) I J Q := A_iadd (ab_io ci9 (by decide +kernel))
theorem k9_81 : At 9 81 ls [.int p0, .int p1, .int p2, .ref 33, .int q0] I J Q ↔ Cal 10 [.ref 33, .int p2, .int p1, .int p0] I J (fun v I' J' => At 9 84 ls (v.toList ++ [.int q0]) I' J' Q) := A_cal (kd := 0) (j := 49) (na := 4) (ea := 4) (rk := 33) (by decide +kernel) rfl rfl rfl (Or.inr rfl) (Nat.le_of_ble_eq_true rfl)
theorem k9_84 : At 9 84 ls (.int x1 :: .int x :: st) I J Q ↔ At 9 85 ls (.int (x + x1) :: st) I J Q := A_iadd (ab_io ci9 (by decide +kernel))
theorem k9_85 : At 9 85 [a0, a1, a2, a3, a4, a5] (.int x :: st) I J Q ↔ At 9 87 [a0, a1, a2, ab_nv a3, some (.int x), a5] st I J Q := A_istore (q := 4) (ab_io ci9 (by decide +kernel)) (Nat.le_of_ble_eq_true rfl) rfl
theorem k9_87 : At 9 87 [a0, a1, a2, a3, a4, some (.int x)] st I J Q ↔ At 9 90 [a0, a1, a2, a3, ab_nv a4, some (.int (x + (nI 1)))] st I J Q := A_iinc (q := 5) (ab_io ci9 (by decide +kernel)) ic_1 (Nat.le_of_ble_eq_true rfl) rfl rfl
theorem k9_90 : At 9 90 ls st I J Q ↔ At 9 34 ls st I J Q := A_goto (o := (-56)) (ab_io ci9 (by decide +kernel)) (by decide)
theorem k9_93 : At 9 93 [a0, a1, a2, a3, some (.int x), a5] st I J Q ↔ At 9 95 [a0, a1, a2, a3, some (.int x), a5] (.int x :: st) I J Q := A_iload (q := 4) (ab_io ci9 (by decide +kernel)) rfl
theorem k9_95 : At 9 95 ls [.int x] I J Q ↔ Q (some (.int x)) I J := A_iret (ab_io ci9 (by decide +kernel)) rt9
theorem k10_0 : At 10 0 [a0, some (.int x), a2, a3, a4, a5] st I J Q ↔ At 10 1 [a0, some (.int x), a2, a3, a4, a5] (.int x :: st) I J Q := A_iload_n (q := 1) (ab_io ci10 (by decide +kernel)) rfl
theorem k10_1 : At 10 1 [some (.ref r), a1, a2, a3, a4, a5] st I J Q ↔ At 10 2 [some (.ref r), a1, a2, a3, a4, a5] (.ref r :: st) I J Q := A_aload_n (q := 0) (ab_io ci10 (by decide +kernel)) rfl
theorem k10_2 : At 10 2 ls (.ref 33 :: st) I J Q ↔ At 10 5 ls (.int (I 33 5) :: st) I J Q := A_getI (ab_io ci10 (by decide +kernel)) ow10 fq0_27_33
theorem k10_5 : At 10 5 ls (.int x1 :: .int x :: st) I J Q ↔ if x1 ≤ x then At 10 14 ls st I J Q else At 10 8 ls st I J Q := A_if_icmp_ge (o := 9) (ab_io ci10 (by decide +kernel)) (by decide)
theorem k10_8 : At 10 8 [a0, some (.int x), a2, a3, a4, a5] st I J Q ↔ At 10 9 [a0, some (.int x), a2, a3, a4, a5] (.int x :: st) I J Q := A_iload_n (q := 1) (ab_io ci10 (by decide +kernel)) rfl
theorem k10_9 : At 10 9 ls st I J Q ↔ At 10 11 ls (.int (nI 7) :: st) I J Q := A_bipush (ab_io ci10 (by decide +kernel)) bc_7
theorem k10_11 : At 10 11 ls (.int x1 :: .int x :: st) I J Q ↔ if x < x1 then At 10 28 ls st I J Q else At 10 14 ls st I J Q := A_if_icmp_lt (o := 17) (ab_io ci10 (by decide +kernel)) (by decide)
theorem k10_14 : At 10 14 [a0, a1, a2, some (.int x), a4, a5] st I J Q ↔ At 10 15 [a0, a1, a2, some (.int x), a4, a5] (.int x :: st) I J Q := A_iload_n (q := 3) (ab_io ci10 (by decide +kernel)) rfl
theorem k10_15 : At 10 15 [some (.ref r), a1, a2, a3, a4, a5] st I J Q ↔ At 10 16 [some (.ref r), a1, a2, a3, a4, a5] (.ref r :: st) I J Q := A_aload_n (q := 0) (ab_io ci10 (by decide +kernel)) rfl
theorem k10_16 : At 10 16 ls (.ref 33 :: st) I J Q ↔ At 10 19 ls (.int (I 33 6) :: st) I J Q := A_getI (ab_io ci10 (by decide +kernel)) ow10 fq0_31_33
theorem k10_19 : At 10 19 ls (.int x1 :: .int x :: st) I J Q ↔ if x < x1 then At 10 26 ls st I J Q else At 10 22 ls st I J Q := A_if_icmp_lt (o := 7) (ab_io ci10 (by decide +kernel)) (by decide)
theorem k10_22 : At 10 22 ls st I J Q ↔ At 10 23 ls (.int (nI 1) :: st) I J Q := A_iconst (ab_io ci10 (by decide +kernel)) ic_1
theorem k10_23 : At 10 23 ls st I J Q ↔ At 10 27 ls st I J Q := A_goto (o := 4) (ab_io ci10 (by decide +kernel)) (by decide)
theorem k10_26 : At 10 26 ls st I J Q ↔ At 10 27 ls (.int (nI 0) :: st) I J Q := A_iconst (ab_io ci10 (by decide +kernel)) ic_0
theorem k10_27 : At 10 27 ls [.int x] I J Q ↔ Q (some (.int x)) I J := A_iret (ab_io ci10 (by decide +kernel)) rt10
theorem k10_28 : At 10 28 ls st I J Q ↔ At 10 29 ls (.int (nI 0) :: st) I J Q := A_iconst (ab_io ci10 (by decide +kernel)) ic_0
theorem k10_29 : At 10 29 [a0, a1, a2, a3, a4, a5] (.int x :: st) I J Q ↔ At 10 31 [a0, a1, a2, ab_nv a3, some (.int x), a5] st I J Q := A_istore (q := 4) (ab_io ci10 (by decide +kernel)) (Nat.le_of_ble_eq_true rfl) rfl
theorem k10_31 : At 10 31 ls st I J Q ↔ At 10 32 ls (.int (nI 0) :: st) I J Q := A_iconst (ab_io ci10 (by decide +kernel)) ic_0
theorem k10_32 : At 10 32 [a0, a1, a2, a3, a4, a5] (.int x :: st) I J Q ↔ At 10 34 [a0, a1, a2, a3, ab_nv a4, some (.int x)] st I J Q := A_istore (q := 5) (ab_io ci10 (by decide +kernel)) (Nat.le_of_ble_eq_true rfl) rfl
theorem k10_34 : At 10 34 [a0, a1, a2, a3, a4, some (.int x)] st I J Q ↔ At 10 36 [a0, a1, a2, a3, a4, some (.int x)] (.int x :: st) I J Q := A_iload (q := 5) (ab_io ci10 (by decide +kernel)) rfl
theorem k10_36 : At 10 36 [some (.ref r), a1, a2, a3, a4, a5] st I J Q ↔ At 10 37 [some (.ref r), a1, a2, a3, a4, a5] (.ref r :: st) I J Q := A_aload_n (q := 0) (ab_io ci10 (by decide +kernel)) rfl
theorem k10_37 : At 10 37 ls (.ref 33 :: st) I J Q ↔ At 10 40 ls (.int (I 33 5) :: st) I J Q := A_getI (ab_io ci10 (by decide +kernel)) ow10 fq0_27_33
theorem k10_40 : At 10 40 ls (.int x1 :: .int x :: st) I J Q ↔ if x1 ≤ x then At 10 93 ls st I J Q else At 10 43 ls st I J Q := A_if_icmp_ge (o := 53) (ab_io ci10 (by decide +kernel)) (by decide)
theorem k10_43 : At 10 43 [a0, a1, some (.int x), a3, a4, a5] st I J Q ↔ At 10 44 [a0, a1, some (.int x), a3, a4, a5] (.int x :: st) I J Q := A_iload_n (q := 2) (ab_io ci10 (by decide +kernel)) rfl
theorem k10_44 : At 10 44 [a0, a1, a2, a3, a4, some (.int x)] st I J Q ↔ At 10 46 [a0, a1, a2, a3, a4, some (.int x)] (.int x :: st) I J Q := A_iload (q := 5) (ab_io ci10 (by decide +kernel)) rfl
theorem k10_46 : At 10 46 ls (.int x1 :: .int x :: st) I J Q ↔ At 10 47 ls (.int (x >>> (x1 &&& 31)) :: st) I J Q := A_ishr (ab_io ci10 (by decide +kernel))
theorem k10_47 : At 10 47 ls st I J Q ↔ At 10 48 ls (.int (nI 1) :: st) I J Q := A_iconst (ab_io ci10 (by decide +kernel)) ic_1
theorem k10_48 : At 10 48 ls (.int x1 :: .int x :: st) I J Q ↔ At 10 49 ls (.int (x &&& x1) :: st) I J Q := A_iand (ab_io ci10 (by decide +kernel))
theorem k10_49 : At 10 49 ls (.int x :: st) I J Q ↔ if ¬ x = 0 then At 10 87 ls st I J Q else At 10 52 ls st I J Q := A_ifCond_ne (o := 38) (ab_io ci10 (by decide +kernel)) (by decide)
theorem k10_52 : At 10 52 [some (.ref r), a1, a2, a3, a4, a5] st I J Q ↔ At 10 53 [some (.ref r), a1, a2, a3, a4, a5] (.ref r :: st) I J Q := A_aload_n (q := 0) (ab_io ci10 (by decide +kernel)) rfl
theorem k10_53 : At 10 53 ls (.ref 33 :: st) I J Q ↔ At 10 56 ls (.ref 38 :: st) I J Q := A_getR (ab_io ci10 (by decide +kernel)) ow10 fq0_24_33
theorem k10_56 : At 10 56 [a0, some (.int x), a2, a3, a4, a5] st I J Q ↔ At 10 57 [a0, some (.int x), a2, a3, a4, a5] (.int x :: st) I J Q := A_iload_n (q := 1) (ab_io ci10 (by decide +kernel)) rfl
theorem k10_57 : At 10 57 [a0, a1, a2, a3, a4, some (.int x)] st I J Q ↔ At 10 59 [a0, a1, a2, a3, a4, some (.int x)] (.int x :: st) I J Q := A_iload (q := 5) (ab_io ci10 (by decide +kernel)) rfl
theorem k10_59 : At 10 59 ls (.int x1 :: .int x :: .ref r :: st) I J Q ↔ ((ab_ly r).1 = 1 ∧ r < 75 ∧ 0 ≤ x.toInt ∧ x.toInt < (ab_ly r).2) ∧ At 10 60 ls st (va_up I r (va_up (I r) x.toNatClampNeg x1)) J Q := A_iastore (ab_io ci10 (by decide +kernel))
theorem k10_60 : At 10 60 [a0, a1, a2, a3, some (.int x), a5] st I J Q ↔ At 10 62 [a0, a1, a2, a3, some (.int x), a5] (.int x :: st) I J Q := A_iload (q := 4) (ab_io ci10 (by decide +kernel)) rfl
theorem k10_62 : At 10 62 [some (.ref r), a1, a2, a3, a4, a5] st I J Q ↔ At 10 63 [some (.ref r), a1, a2, a3, a4, a5] (.ref r :: st) I J Q := A_aload_n (q := 0) (ab_io ci10 (by decide +kernel)) rfl
theorem k10_63 : At 10 63 [a0, some (.int x), a2, a3, a4, a5] st I J Q ↔ At 10 64 [a0, some (.int x), a2, a3, a4, a5] (.int x :: st) I J Q := A_iload_n (q := 1) (ab_io ci10 (by decide +kernel)) rfl
theorem k10_64 : At 10 64 ls st I J Q ↔ At 10 65 ls (.int (nI 1) :: st) I J Q := A_iconst (ab_io ci10 (by decide +kernel)) ic_1
theorem k10_65 : At 10 65 ls (.int x1 :: .int x :: st) I J Q ↔ At 10 66 ls (.int (x + x1) :: st) I J Q := A_iadd (ab_io ci10 (by decide +kernel))
theorem k10_66 : At 10 66 [a0, a1, some (.int x), a3, a4, a5] st I J Q ↔ At 10 67 [a0, a1, some (.int x), a3, a4, a5] (.int x :: st) I J Q := A_iload_n (q := 2) (ab_io ci10 (by decide +kernel)) rfl
theorem k10_67 : At 10 67 ls st I J Q ↔ At 10 68 ls (.int (nI 1) :: st) I J Q := A_iconst (ab_io ci10 (by decide +kernel)) ic_1
theorem k10_68 : At 10 68 [a0, a1, a2, a3, a4, some (.int x)] st I J Q ↔ At 10 70 [a0, a1, a2, a3, a4, some (.int x)] (.int x :: st) I J Q := A_iload (q := 5) (ab_io ci10 (by decide +kernel)) rfl
theorem k10_70 : At 10 70 ls (.int x1 :: .int x :: st) I J Q ↔ At 10 71 ls (.int (x <<< (x1 &&& 31)) :: st) I J Q := A_ishl (ab_io ci10 (by decide +kernel))
theorem k10_71 : At 10 71 ls (.int x1 :: .int x :: st) I J Q ↔ At 10 72 ls (.int (x ||| x1) :: st) I J Q := A_ior (ab_io ci10 (by decide +kernel))
theorem k10_72 : At 10 72 [a0, a1, a2, some (.int x), a4, a5] st I J Q ↔ At 10 73 [a0, a1, a2, some (.int x), a4, a5] (.int x :: st) I J Q := A_iload_n (q := 3) (ab_io ci10 (by decide +kernel)) rfl
theorem k10_73 : At 10 73 [some (.ref r), a1, a2, a3, a4, a5] st I J Q ↔ At 10 74 [some (.ref r), a1, a2, a3, a4, a5] (.ref r :: st) I J Q := A_aload_n (q := 0) (ab_io ci10 (by decide +kernel)) rfl
theorem k10_74 : At 10 74 [a0, some (.int x), a2, a3, a4, a5] st I J Q ↔ At 10 75 [a0, some (.int x), a2, a3, a4, a5] (.int x :: st) I J Q := A_iload_n (q := 1) (ab_io ci10 (by decide +kernel)) rfl
theorem k10_75 : At 10 75 [a0, a1, a2, a3, a4, some (.int x)] st I J Q ↔ At 10 77 [a0, a1, a2, a3, a4, some (.int x)] (.int x :: st) I J Q := A_iload (q := 5) (ab_io ci10 (by decide +kernel)) rfl
theorem k10_77 : At 10 77 ls [.int p0, .int p1, .ref 33, .int q0, .int q1, .int q2, .ref qr3, .int q4] I J Q ↔ Cal 12 [.ref 33, .int p1, .int p0] I J (fun v I' J' => At 10 80 ls (v.toList ++ [.int q0, .int q1, .int q2, .ref qr3, .int q4]) I' J' Q) := A_cal (kd := 0) (j := 53) (na := 3) (ea := 3) (rk := 33) (by decide +kernel) rfl rfl rfl (Or.inr rfl) (Nat.le_of_ble_eq_true rfl)
theorem k10_80 : At 10 80 ls (.int x1 :: .int x :: st) I J Q ↔ At 10 81 ls (.int (x + x1) :: st) I J Q := A_iadd (ab_io ci10 (by decide +kernel))
theorem k10_81 : At 10 81 ls [.int p0, .int p1, .int p2, .ref 33, .int q0] I J Q ↔ Cal 11 [.ref 33, .int p2, .int p1, .int p0] I J (fun v I' J' => At 10 84 ls (v.toList ++ [.int q0]) I' J' Q) := A_cal (kd := 0) (j := 49) (na := 4) (ea := 4) (rk := 33) (by decide +kernel) rfl rfl rfl (Or.inr rfl) (Nat.le_of_ble_eq_true rfl)
theorem k10_84 : At 10 84 ls (.int x1 :: .int x :: st) I J Q ↔ At 10 85 ls (.int (x + x1) :: st) I J Q := A_iadd (ab_io ci10 (by decide +kernel))
theorem k10_85 : At 10 85 [a0, a1, a2, a3, a4, a5] (.int x :: st) I J Q ↔ At 10 87 [a0, a1, a2, ab_nv a3, some (.int x), a5] st I J Q := A_istore (q := 4) (ab_io ci10 (by decide +kernel)) (Nat.le_of_ble_eq_true rfl) rfl
theorem k10_87 : At 10 87 [a0, a1, a2, a3, a4, some (.int x)] st I J Q ↔ At 10 90 [a0, a1, a2, a3, ab_nv a4, some (.int (x + (nI 1)))] st I J Q := A_iinc (q := 5) (ab_io ci10 (by decide +kernel)) ic_1 (Nat.le_of_ble_eq_true rfl) rfl rfl
theorem k10_90 : At 10 90 ls st I J Q ↔ At 10 34 ls st I J Q := A_goto (o := (-56)) (ab_io ci10 (by decide +kernel)) (by decide)
theorem k10_93 : At 10 93 [a0, a1, a2, a3, some (.int x), a5] st I J Q ↔ At 10 95 [a0, a1, a2, a3, some (.int x), a5] (.int x :: st) I J Q := A_iload (q := 4) (ab_io ci10 (by decide +kernel)) rfl
theorem k10_95 : At 10 95 ls [.int x] I J Q ↔ Q (some (.int x)) I J := A_iret (ab_io ci10 (by decide +kernel)) rt10
theorem k11_0 : At 11 0 [a0, some (.int x), a2, a3, a4, a5] st I J Q ↔ At 11 1 [a0, some (.int x), a2, a3, a4, a5] (.int x :: st) I J Q := A_iload_n (q := 1) (ab_io ci11 (by decide +kernel)) rfl
theorem k11_1 : At 11 1 [some (.ref r), a1, a2, a3, a4, a5] st I J Q ↔ At 11 2 [some (.ref r), a1, a2, a3, a4, a5] (.ref r :: st) I J Q := A_aload_n (q := 0) (ab_io ci11 (by decide +kernel)) rfl
theorem k11_2 : At 11 2 ls (.ref 33 :: st) I J Q ↔ At 11 5 ls (.int (I 33 5) :: st) I J Q := A_getI (ab_io ci11 (by decide +kernel)) ow11 fq0_27_33
theorem k11_5 : At 11 5 ls (.int x1 :: .int x :: st) I J Q ↔ if x1 ≤ x then At 11 14 ls st I J Q else At 11 8 ls st I J Q := A_if_icmp_ge (o := 9) (ab_io ci11 (by decide +kernel)) (by decide)
theorem k11_8 : At 11 8 [a0, some (.int x), a2, a3, a4, a5] st I J Q ↔ At 11 9 [a0, some (.int x), a2, a3, a4, a5] (.int x :: st) I J Q := A_iload_n (q := 1) (ab_io ci11 (by decide +kernel)) rfl
theorem k11_9 : At 11 9 ls st I J Q ↔ At 11 11 ls (.int (nI 7) :: st) I J Q := A_bipush (ab_io ci11 (by decide +kernel)) bc_7
theorem k11_11 : At 11 11 ls (.int x1 :: .int x :: st) I J Q ↔ if x < x1 then At 11 28 ls st I J Q else At 11 14 ls st I J Q := A_if_icmp_lt (o := 17) (ab_io ci11 (by decide +kernel)) (by decide)
theorem k11_14 : At 11 14 [a0, a1, a2, some (.int x), a4, a5] st I J Q ↔ At 11 15 [a0, a1, a2, some (.int x), a4, a5] (.int x :: st) I J Q := A_iload_n (q := 3) (ab_io ci11 (by decide +kernel)) rfl
theorem k11_15 : At 11 15 [some (.ref r), a1, a2, a3, a4, a5] st I J Q ↔ At 11 16 [some (.ref r), a1, a2, a3, a4, a5] (.ref r :: st) I J Q := A_aload_n (q := 0) (ab_io ci11 (by decide +kernel)) rfl
theorem k11_16 : At 11 16 ls (.ref 33 :: st) I J Q ↔ At 11 19 ls (.int (I 33 6) :: st) I J Q := A_getI (ab_io ci11 (by decide +kernel)) ow11 fq0_31_33
theorem k11_19 : At 11 19 ls (.int x1 :: .int x :: st) I J Q ↔ if x < x1 then At 11 26 ls st I J Q else At 11 22 ls st I J Q := A_if_icmp_lt (o := 7) (ab_io ci11 (by decide +kernel)) (by decide)
theorem k11_22 : At 11 22 ls st I J Q ↔ At 11 23 ls (.int (nI 1) :: st) I J Q := A_iconst (ab_io ci11 (by decide +kernel)) ic_1
theorem k11_23 : At 11 23 ls st I J Q ↔ At 11 27 ls st I J Q := A_goto (o := 4) (ab_io ci11 (by decide +kernel)) (by decide)
theorem k11_26 : At 11 26 ls st I J Q ↔ At 11 27 ls (.int (nI 0) :: st) I J Q := A_iconst (ab_io ci11 (by decide +kernel)) ic_0
theorem k11_27 : At 11 27 ls [.int x] I J Q ↔ Q (some (.int x)) I J := A_iret (ab_io ci11 (by decide +kernel)) rt11
theorem k11_28 : At 11 28 ls st I J Q ↔ At 11 29 ls (.int (nI 0) :: st) I J Q := A_iconst (ab_io ci11 (by decide +kernel)) ic_0
theorem k11_29 : At 11 29 [a0, a1, a2, a3, a4, a5] (.int x :: st) I J Q ↔ At 11 31 [a0, a1, a2, ab_nv a3, some (.int x), a5] st I J Q := A_istore (q := 4) (ab_io ci11 (by decide +kernel)) (Nat.le_of_ble_eq_true rfl) rfl
theorem k11_31 : At 11 31 ls st I J Q ↔ At 11 32 ls (.int (nI 0) :: st) I J Q := A_iconst (ab_io ci11 (by decide +kernel)) ic_0
theorem k11_32 : At 11 32 [a0, a1, a2, a3, a4, a5] (.int x :: st) I J Q ↔ At 11 34 [a0, a1, a2, a3, ab_nv a4, some (.int x)] st I J Q := A_istore (q := 5) (ab_io ci11 (by decide +kernel)) (Nat.le_of_ble_eq_true rfl) rfl
theorem k11_34 : At 11 34 [a0, a1, a2, a3, a4, some (.int x)] st I J Q ↔ At 11 36 [a0, a1, a2, a3, a4, some (.int x)] (.int x :: st) I J Q := A_iload (q := 5) (ab_io ci11 (by decide +kernel)) rfl
theorem k11_36 : At 11 36 [some (.ref r), a1, a2, a3, a4, a5] st I J Q ↔ At 11 37 [some (.ref r), a1, a2, a3, a4, a5] (.ref r :: st) I J Q := A_aload_n (q := 0) (ab_io ci11 (by decide +kernel)) rfl
theorem k11_37 : At 11 37 ls (.ref 33 :: st) I J Q ↔ At 11 40 ls (.int (I 33 5) :: st) I J Q := A_getI (ab_io ci11 (by decide +kernel)) ow11 fq0_27_33
theorem k11_40 : At 11 40 ls (.int x1 :: .int x :: st) I J Q ↔ if x1 ≤ x then At 11 93 ls st I J Q else At 11 43 ls st I J Q := A_if_icmp_ge (o := 53) (ab_io ci11 (by decide +kernel)) (by decide)
theorem k11_43 : At 11 43 [a0, a1, some (.int x), a3, a4, a5] st I J Q ↔ At 11 44 [a0, a1, some (.int x), a3, a4, a5] (.int x :: st) I J Q := A_iload_n (q := 2) (ab_io ci11 (by decide +kernel)) rfl
theorem k11_44 : At 11 44 [a0, a1, a2, a3, a4, some (.int x)] st I J Q ↔ At 11 46 [a0, a1, a2, a3, a4, some (.int x)] (.int x :: st) I J Q := A_iload (q := 5) (ab_io ci11 (by decide +kernel)) rfl
theorem k11_46 : At 11 46 ls (.int x1 :: .int x :: st) I J Q ↔ At 11 47 ls (.int (x >>> (x1 &&& 31)) :: st) I J Q := A_ishr (ab_io ci11 (by decide +kernel))
theorem k11_47 : At 11 47 ls st I J Q ↔ At 11 48 ls (.int (nI 1) :: st) I J Q := A_iconst (ab_io ci11 (by decide +kernel)) ic_1
theorem k11_48 : At 11 48 ls (.int x1 :: .int x :: st) I J Q ↔ At 11 49 ls (.int (x &&& x1) :: st) I J Q := A_iand (ab_io ci11 (by decide +kernel))
theorem k11_49 : At 11 49 ls (.int x :: st) I J Q ↔ if ¬ x = 0 then At 11 87 ls st I J Q else At 11 52 ls st I J Q := A_ifCond_ne (o := 38) (ab_io ci11 (by decide +kernel)) (by decide)
theorem k11_52 : At 11 52 [some (.ref r), a1, a2, a3, a4, a5] st I J Q ↔ At 11 53 [some (.ref r), a1, a2, a3, a4, a5] (.ref r :: st) I J Q := A_aload_n (q := 0) (ab_io ci11 (by decide +kernel)) rfl
theorem k11_53 : At 11 53 ls (.ref 33 :: st) I J Q ↔ At 11 56 ls (.ref 38 :: st) I J Q := A_getR (ab_io ci11 (by decide +kernel)) ow11 fq0_24_33
theorem k11_56 : At 11 56 [a0, some (.int x), a2, a3, a4, a5] st I J Q ↔ At 11 57 [a0, some (.int x), a2, a3, a4, a5] (.int x :: st) I J Q := A_iload_n (q := 1) (ab_io ci11 (by decide +kernel)) rfl
theorem k11_57 : At 11 57 [a0, a1, a2, a3, a4, some (.int x)] st I J Q ↔ At 11 59 [a0, a1, a2, a3, a4, some (.int x)] (.int x :: st) I J Q := A_iload (q := 5) (ab_io ci11 (by decide +kernel)) rfl
theorem k11_59 : At 11 59 ls (.int x1 :: .int x :: .ref r :: st) I J Q ↔ ((ab_ly r).1 = 1 ∧ r < 75 ∧ 0 ≤ x.toInt ∧ x.toInt < (ab_ly r).2) ∧ At 11 60 ls st (va_up I r (va_up (I r) x.toNatClampNeg x1)) J Q := A_iastore (ab_io ci11 (by decide +kernel))
theorem k11_60 : At 11 60 [a0, a1, a2, a3, some (.int x), a5] st I J Q ↔ At 11 62 [a0, a1, a2, a3, some (.int x), a5] (.int x :: st) I J Q := A_iload (q := 4) (ab_io ci11 (by decide +kernel)) rfl
theorem k11_62 : At 11 62 [some (.ref r), a1, a2, a3, a4, a5] st I J Q ↔ At 11 63 [some (.ref r), a1, a2, a3, a4, a5] (.ref r :: st) I J Q := A_aload_n (q := 0) (ab_io ci11 (by decide +kernel)) rfl
theorem k11_63 : At 11 63 [a0, some (.int x), a2, a3, a4, a5] st I J Q ↔ At 11 64 [a0, some (.int x), a2, a3, a4, a5] (.int x :: st) I J Q := A_iload_n (q := 1) (ab_io ci11 (by decide +kernel)) rfl
theorem k11_64 : At 11 64 ls st I J Q ↔ At 11 65 ls (.int (nI 1) :: st) I J Q := A_iconst (ab_io ci11 (by decide +kernel)) ic_1
theorem k11_65 : At 11 65 ls (.int x1 :: .int x :: st) I J Q ↔ At 11 66 ls (.int (x + x1) :: st) I J Q := A_iadd (ab_io ci11 (by decide +kernel))
theorem k11_66 : At 11 66 [a0, a1, some (.int x), a3, a4, a5] st I J Q ↔ At 11 67 [a0, a1, some (.int x), a3, a4, a5] (.int x :: st) I J Q := A_iload_n (q := 2) (ab_io ci11 (by decide +kernel)) rfl
theorem k11_67 : At 11 67 ls st I J Q ↔ At 11 68 ls (.int (nI 1) :: st) I J Q := A_iconst (ab_io ci11 (by decide +kernel)) ic_1
theorem k11_68 : At 11 68 [a0, a1, a2, a3, a4, some (.int x)] st I J Q ↔ At 11 70 [a0, a1, a2, a3, a4, some (.int x)] (.int x :: st) I J Q := A_iload (q := 5) (ab_io ci11 (by decide +kernel)) rfl
theorem k11_70 : At 11 70 ls (.int x1 :: .int x :: st) I J Q ↔ At 11 71 ls (.int (x <<< (x1 &&& 31)) :: st) I J Q := A_ishl (ab_io ci11 (by decide +kernel))
theorem k11_71 : At 11 71 ls (.int x1 :: .int x :: st) I J Q ↔ At 11 72 ls (.int (x ||| x1) :: st) I J Q := A_ior (ab_io ci11 (by decide +kernel))
theorem k11_72 : At 11 72 [a0, a1, a2, some (.int x), a4, a5] st I J Q ↔ At 11 73 [a0, a1, a2, some (.int x), a4, a5] (.int x :: st) I J Q := A_iload_n (q := 3) (ab_io ci11 (by decide +kernel)) rfl
theorem k11_73 : At 11 73 [some (.ref r), a1, a2, a3, a4, a5] st I J Q ↔ At 11 74 [some (.ref r), a1, a2, a3, a4, a5] (.ref r :: st) I J Q := A_aload_n (q := 0) (ab_io ci11 (by decide +kernel)) rfl
theorem k11_74 : At 11 74 [a0, some (.int x), a2, a3, a4, a5] st I J Q ↔ At 11 75 [a0, some (.int x), a2, a3, a4, a5] (.int x :: st) I J Q := A_iload_n (q := 1) (ab_io ci11 (by decide +kernel)) rfl
theorem k11_75 : At 11 75 [a0, a1, a2, a3, a4, some (.int x)] st I J Q ↔ At 11 77 [a0, a1, a2, a3, a4, some (.int x)] (.int x :: st) I J Q := A_iload (q := 5) (ab_io ci11 (by decide +kernel)) rfl
theorem k11_77 : At 11 77 ls [.int p0, .int p1, .ref 33, .int q0, .int q1, .int q2, .ref qr3, .int q4] I J Q ↔ Cal 12 [.ref 33, .int p1, .int p0] I J (fun v I' J' => At 11 80 ls (v.toList ++ [.int q0, .int q1, .int q2, .ref qr3, .int q4]) I' J' Q) := A_cal (kd := 0) (j := 53) (na := 3) (ea := 3) (rk := 33) (by decide +kernel) rfl rfl rfl (Or.inr rfl) (Nat.le_of_ble_eq_true rfl)
theorem k11_80 : At 11 80 ls (.int x1 :: .int x :: st) I J Q ↔ At 11 81 ls (.int (x + x1) :: st) I J Q := A_iadd (ab_io ci11 (by decide +kernel))
theorem k11_84 : At 11 84 ls (.int x1 :: .int x :: st) I J Q ↔ At 11 85 ls (.int (x + x1) :: st) I J Q := A_iadd (ab_io ci11 (by decide +kernel))
theorem k11_85 : At 11 85 [a0, a1, a2, a3, a4, a5] (.int x :: st) I J Q ↔ At 11 87 [a0, a1, a2, ab_nv a3, some (.int x), a5] st I J Q := A_istore (q := 4) (ab_io ci11 (by decide +kernel)) (Nat.le_of_ble_eq_true rfl) rfl
theorem k11_87 : At 11 87 [a0, a1, a2, a3, a4, some (.int x)] st I J Q ↔ At 11 90 [a0, a1, a2, a3, ab_nv a4, some (.int (x + (nI 1)))] st I J Q := A_iinc (q := 5) (ab_io ci11 (by decide +kernel)) ic_1 (Nat.le_of_ble_eq_true rfl) rfl rfl
theorem k11_90 : At 11 90 ls st I J Q ↔ At 11 34 ls st I J Q := A_goto (o := (-56)) (ab_io ci11 (by decide +kernel)) (by decide)
theorem k11_93 : At 11 93 [a0, a1, a2, a3, some (.int x), a5] st I J Q ↔ At 11 95 [a0, a1, a2, a3, some (.int x), a5] (.int x :: st) I J Q := A_iload (q := 4) (ab_io ci11 (by decide +kernel)) rfl
theorem k11_95 : At 11 95 ls [.int x] I J Q ↔ Q (some (.int x)) I J := A_iret (ab_io ci11 (by decide +kernel)) rt11
theorem k12_0 : At 12 0 ls st I J Q ↔ At 12 1 ls (.int (nI 0) :: st) I J Q := A_iconst (ab_io ci12 (by decide +kernel)) ic_0
theorem k12_1 : At 12 1 [a0, a1, a2, a3, a4] (.int x :: st) I J Q ↔ At 12 2 [a0, a1, ab_nv a2, some (.int x), a4] st I J Q := A_istore_n (q := 3) (ab_io ci12 (by decide +kernel)) (Nat.le_of_ble_eq_true rfl) rfl
theorem k12_2 : At 12 2 ls st I J Q ↔ At 12 3 ls (.int (nI 0) :: st) I J Q := A_iconst (ab_io ci12 (by decide +kernel)) ic_0
theorem k12_3 : At 12 3 [a0, a1, a2, a3, a4] (.int x :: st) I J Q ↔ At 12 5 [a0, a1, a2, ab_nv a3, some (.int x)] st I J Q := A_istore (q := 4) (ab_io ci12 (by decide +kernel)) (Nat.le_of_ble_eq_true rfl) rfl
theorem k12_5 : At 12 5 [a0, a1, a2, a3, some (.int x)] st I J Q ↔ At 12 7 [a0, a1, a2, a3, some (.int x)] (.int x :: st) I J Q := A_iload (q := 4) (ab_io ci12 (by decide +kernel)) rfl
theorem k12_7 : At 12 7 [a0, some (.int x), a2, a3, a4] st I J Q ↔ At 12 8 [a0, some (.int x), a2, a3, a4] (.int x :: st) I J Q := A_iload_n (q := 1) (ab_io ci12 (by decide +kernel)) rfl
theorem k12_8 : At 12 8 ls (.int x1 :: .int x :: st) I J Q ↔ if x1 ≤ x then At 12 50 ls st I J Q else At 12 11 ls st I J Q := A_if_icmp_ge (o := 42) (ab_io ci12 (by decide +kernel)) (by decide)
theorem k12_11 : At 12 11 [a0, a1, a2, some (.int x), a4] st I J Q ↔ At 12 12 [a0, a1, a2, some (.int x), a4] (.int x :: st) I J Q := A_iload_n (q := 3) (ab_io ci12 (by decide +kernel)) rfl
theorem k12_12 : At 12 12 [some (.ref r), a1, a2, a3, a4] st I J Q ↔ At 12 13 [some (.ref r), a1, a2, a3, a4] (.ref r :: st) I J Q := A_aload_n (q := 0) (ab_io ci12 (by decide +kernel)) rfl
theorem k12_13 : At 12 13 ls (.ref 33 :: st) I J Q ↔ At 12 16 ls (.ref 36 :: st) I J Q := A_getR (ab_io ci12 (by decide +kernel)) ow12 fq0_18_33
theorem k12_16 : At 12 16 ls st I J Q ↔ At 12 18 ls (.int (nI 7) :: st) I J Q := A_bipush (ab_io ci12 (by decide +kernel)) bc_7
theorem k12_18 : At 12 18 [a0, some (.int x), a2, a3, a4] st I J Q ↔ At 12 19 [a0, some (.int x), a2, a3, a4] (.int x :: st) I J Q := A_iload_n (q := 1) (ab_io ci12 (by decide +kernel)) rfl
theorem k12_19 : At 12 19 ls (.int x1 :: .int x :: st) I J Q ↔ At 12 20 ls (.int (x * x1) :: st) I J Q := A_imul (ab_io ci12 (by decide +kernel))
theorem k12_20 : At 12 20 [a0, a1, a2, a3, some (.int x)] st I J Q ↔ At 12 22 [a0, a1, a2, a3, some (.int x)] (.int x :: st) I J Q := A_iload (q := 4) (ab_io ci12 (by decide +kernel)) rfl
theorem k12_22 : At 12 22 ls (.int x1 :: .int x :: st) I J Q ↔ At 12 23 ls (.int (x + x1) :: st) I J Q := A_iadd (ab_io ci12 (by decide +kernel))
theorem k12_23 : At 12 23 ls (.int x :: .ref r :: st) I J Q ↔ ((ab_ly r).1 = 1 ∧ r < 75 ∧ 0 ≤ x.toInt ∧ x.toInt < (ab_ly r).2) ∧ At 12 24 ls (.int (I r x.toNatClampNeg) :: st) I J Q := A_iaload (ab_io ci12 (by decide +kernel))
theorem k12_24 : At 12 24 [some (.ref r), a1, a2, a3, a4] st I J Q ↔ At 12 25 [some (.ref r), a1, a2, a3, a4] (.ref r :: st) I J Q := A_aload_n (q := 0) (ab_io ci12 (by decide +kernel)) rfl
theorem k12_25 : At 12 25 ls (.ref 33 :: st) I J Q ↔ At 12 28 ls (.ref 37 :: st) I J Q := A_getR (ab_io ci12 (by decide +kernel)) ow12 fq0_21_33
theorem k12_28 : At 12 28 ls st I J Q ↔ At 12 30 ls (.int (nI 7) :: st) I J Q := A_bipush (ab_io ci12 (by decide +kernel)) bc_7
theorem k12_30 : At 12 30 [a0, a1, some (.int x), a3, a4] st I J Q ↔ At 12 31 [a0, a1, some (.int x), a3, a4] (.int x :: st) I J Q := A_iload_n (q := 2) (ab_io ci12 (by decide +kernel)) rfl
theorem k12_31 : At 12 31 ls (.int x1 :: .int x :: st) I J Q ↔ At 12 32 ls (.int (x * x1) :: st) I J Q := A_imul (ab_io ci12 (by decide +kernel))
theorem k12_32 : At 12 32 [some (.ref r), a1, a2, a3, a4] st I J Q ↔ At 12 33 [some (.ref r), a1, a2, a3, a4] (.ref r :: st) I J Q := A_aload_n (q := 0) (ab_io ci12 (by decide +kernel)) rfl
theorem k12_33 : At 12 33 ls (.ref 33 :: st) I J Q ↔ At 12 36 ls (.ref 38 :: st) I J Q := A_getR (ab_io ci12 (by decide +kernel)) ow12 fq0_24_33
theorem k12_36 : At 12 36 [a0, a1, a2, a3, some (.int x)] st I J Q ↔ At 12 38 [a0, a1, a2, a3, some (.int x)] (.int x :: st) I J Q := A_iload (q := 4) (ab_io ci12 (by decide +kernel)) rfl
theorem k12_38 : At 12 38 ls (.int x :: .ref r :: st) I J Q ↔ ((ab_ly r).1 = 1 ∧ r < 75 ∧ 0 ≤ x.toInt ∧ x.toInt < (ab_ly r).2) ∧ At 12 39 ls (.int (I r x.toNatClampNeg) :: st) I J Q := A_iaload (ab_io ci12 (by decide +kernel))
theorem k12_39 : At 12 39 ls (.int x1 :: .int x :: st) I J Q ↔ At 12 40 ls (.int (x + x1) :: st) I J Q := A_iadd (ab_io ci12 (by decide +kernel))
theorem k12_40 : At 12 40 ls (.int x :: .ref r :: st) I J Q ↔ ((ab_ly r).1 = 1 ∧ r < 75 ∧ 0 ≤ x.toInt ∧ x.toInt < (ab_ly r).2) ∧ At 12 41 ls (.int (I r x.toNatClampNeg) :: st) I J Q := A_iaload (ab_io ci12 (by decide +kernel))
theorem k12_41 : At 12 41 ls (.int x1 :: .int x :: st) I J Q ↔ At 12 42 ls (.int (x * x1) :: st) I J Q := A_imul (ab_io ci12 (by decide +kernel))
theorem k12_42 : At 12 42 ls (.int x1 :: .int x :: st) I J Q ↔ At 12 43 ls (.int (x + x1) :: st) I J Q := A_iadd (ab_io ci12 (by decide +kernel))
theorem k12_43 : At 12 43 [a0, a1, a2, a3, a4] (.int x :: st) I J Q ↔ At 12 44 [a0, a1, ab_nv a2, some (.int x), a4] st I J Q := A_istore_n (q := 3) (ab_io ci12 (by decide +kernel)) (Nat.le_of_ble_eq_true rfl) rfl
theorem k12_44 : At 12 44 [a0, a1, a2, a3, some (.int x)] st I J Q ↔ At 12 47 [a0, a1, a2, ab_nv a3, some (.int (x + (nI 1)))] st I J Q := A_iinc (q := 4) (ab_io ci12 (by decide +kernel)) ic_1 (Nat.le_of_ble_eq_true rfl) rfl rfl
theorem k12_47 : At 12 47 ls st I J Q ↔ At 12 5 ls st I J Q := A_goto (o := (-42)) (ab_io ci12 (by decide +kernel)) (by decide)
theorem k12_50 : At 12 50 [a0, a1, a2, some (.int x), a4] st I J Q ↔ At 12 51 [a0, a1, a2, some (.int x), a4] (.int x :: st) I J Q := A_iload_n (q := 3) (ab_io ci12 (by decide +kernel)) rfl
theorem k12_51 : At 12 51 ls [.int x] I J Q ↔ Q (some (.int x)) I J := A_iret (ab_io ci12 (by decide +kernel)) rt12
theorem k13_0 : At 13 0 [some (.int x), a1] st I J Q ↔ At 13 1 [some (.int x), a1] (.int x :: st) I J Q := A_iload_n (q := 0) (ab_io ci13 (by decide +kernel)) rfl
theorem k13_1 : At 13 1 [a0, some (.int x)] st I J Q ↔ At 13 2 [a0, some (.int x)] (.int x :: st) I J Q := A_iload_n (q := 1) (ab_io ci13 (by decide +kernel)) rfl
theorem k13_2 : At 13 2 ls (.int x1 :: .int x :: st) I J Q ↔ if ¬ x = x1 then At 13 7 ls st I J Q else At 13 5 ls st I J Q := A_if_icmp_ne (o := 5) (ab_io ci13 (by decide +kernel)) (by decide)
theorem k13_5 : At 13 5 ls st I J Q ↔ At 13 6 ls (.int (nI 0) :: st) I J Q := A_iconst (ab_io ci13 (by decide +kernel)) ic_0
theorem k13_6 : At 13 6 ls [.int x] I J Q ↔ Q (some (.int x)) I J := A_iret (ab_io ci13 (by decide +kernel)) rt13
theorem k13_7 : At 13 7 [some (.int x), a1] st I J Q ↔ At 13 8 [some (.int x), a1] (.int x :: st) I J Q := A_iload_n (q := 0) (ab_io ci13 (by decide +kernel)) rfl
theorem k13_8 : At 13 8 [a0, some (.int x)] st I J Q ↔ At 13 9 [a0, some (.int x)] (.int x :: st) I J Q := A_iload_n (q := 1) (ab_io ci13 (by decide +kernel)) rfl
theorem k13_9 : At 13 9 ls (.int x1 :: .int x :: st) I J Q ↔ if x1 ≤ x then At 13 16 ls st I J Q else At 13 12 ls st I J Q := A_if_icmp_ge (o := 7) (ab_io ci13 (by decide +kernel)) (by decide)
theorem k13_12 : At 13 12 ls st I J Q ↔ At 13 13 ls (.int (-1) :: st) I J Q := A_iconst (ab_io ci13 (by decide +kernel)) ic_m1
theorem k13_13 : At 13 13 ls st I J Q ↔ At 13 17 ls st I J Q := A_goto (o := 4) (ab_io ci13 (by decide +kernel)) (by decide)
theorem k13_16 : At 13 16 ls st I J Q ↔ At 13 17 ls (.int (nI 1) :: st) I J Q := A_iconst (ab_io ci13 (by decide +kernel)) ic_1
theorem k13_17 : At 13 17 ls [.int x] I J Q ↔ Q (some (.int x)) I J := A_iret (ab_io ci13 (by decide +kernel)) rt13
theorem k15_0 : At 15 0 ls st I J Q ↔ At 15 3 ls (.long 12 :: st) I J Q := A_ldc2_w (j := 67) (q := 443) (ab_io ci15 (by decide +kernel)) ow15 (by decide +kernel)
theorem k15_3 : At 15 3 [some (.ref r)] st I J Q ↔ At 15 4 [some (.ref r)] (.ref r :: st) I J Q := A_aload_n (q := 0) (ab_io ci15 (by decide +kernel)) rfl
theorem k15_4_5 : At 15 4 ls (.ref 5 :: st) I J Q ↔ At 15 7 ls (.long (J 5 11) :: st) I J Q := A_getJ (ab_io ci15 (by decide +kernel)) ow15 fq1_46_5
theorem k15_4_17 : At 15 4 ls (.ref 17 :: st) I J Q ↔ At 15 7 ls (.long (J 17 11) :: st) I J Q := A_getJ (ab_io ci15 (by decide +kernel)) ow15 fq1_46_17
theorem k15_7 : At 15 7 ls (.long u1 :: .long u :: st) I J Q ↔ At 15 8 ls (.long (u * u1) :: st) I J Q := A_lmul (ab_io ci15 (by decide +kernel))
theorem k15_8 : At 15 8 ls [.long u] I J Q ↔ Q (some (.long u)) I J := A_lret (ab_io ci15 (by decide +kernel)) rt15
theorem k16_0 : At 16 0 ls st I J Q ↔ At 16 1 ls (.int (nI 0) :: st) I J Q := A_iconst (ab_io ci16 (by decide +kernel)) ic_0
theorem k16_1 : At 16 1 [a0, a1, a2, a3, a4] (.int x :: st) I J Q ↔ At 16 3 [a0, a1, a2, ab_nv a3, some (.int x)] st I J Q := A_istore (q := 4) (ab_io ci16 (by decide +kernel)) (Nat.le_of_ble_eq_true rfl) rfl
theorem k16_3 : At 16 3 [a0, a1, a2, a3, some (.int x)] st I J Q ↔ At 16 5 [a0, a1, a2, a3, some (.int x)] (.int x :: st) I J Q := A_iload (q := 4) (ab_io ci16 (by decide +kernel)) rfl
theorem k16_5 : At 16 5 ls st I J Q ↔ At 16 7 ls (.int (nI 48) :: st) I J Q := A_bipush (ab_io ci16 (by decide +kernel)) bc_48
theorem k16_7 : At 16 7 ls (.int x1 :: .int x :: st) I J Q ↔ if x1 ≤ x then At 16 40 ls st I J Q else At 16 10 ls st I J Q := A_if_icmp_ge (o := 33) (ab_io ci16 (by decide +kernel)) (by decide)
theorem k16_10 : At 16 10 [some (.ref r), a1, a2, a3, a4] st I J Q ↔ At 16 11 [some (.ref r), a1, a2, a3, a4] (.ref r :: st) I J Q := A_aload_n (q := 0) (ab_io ci16 (by decide +kernel)) rfl
theorem k16_11_5 : At 16 11 ls (.ref 5 :: st) I J Q ↔ At 16 14 ls (.ref 6 :: st) I J Q := A_getR (ab_io ci16 (by decide +kernel)) ow16 fq1_9_5
theorem k16_11_17 : At 16 11 ls (.ref 17 :: st) I J Q ↔ At 16 14 ls (.ref 18 :: st) I J Q := A_getR (ab_io ci16 (by decide +kernel)) ow16 fq1_9_17
theorem k16_14 : At 16 14 [a0, a1, a2, a3, some (.int x)] st I J Q ↔ At 16 16 [a0, a1, a2, a3, some (.int x)] (.int x :: st) I J Q := A_iload (q := 4) (ab_io ci16 (by decide +kernel)) rfl
theorem k16_16 : At 16 16 [a0, a1, a2, a3, some (.int x)] st I J Q ↔ At 16 18 [a0, a1, a2, a3, some (.int x)] (.int x :: st) I J Q := A_iload (q := 4) (ab_io ci16 (by decide +kernel)) rfl
theorem k16_18 : At 16 18 [a0, a1, some (.int x), a3, a4] st I J Q ↔ At 16 19 [a0, a1, some (.int x), a3, a4] (.int x :: st) I J Q := A_iload_n (q := 2) (ab_io ci16 (by decide +kernel)) rfl
theorem k16_19 : At 16 19 ls (.int x1 :: .int x :: st) I J Q ↔ if ¬ x = x1 then At 16 26 ls st I J Q else At 16 22 ls st I J Q := A_if_icmp_ne (o := 7) (ab_io ci16 (by decide +kernel)) (by decide)
theorem k16_22 : At 16 22 [a0, a1, a2, some (.int x), a4] st I J Q ↔ At 16 23 [a0, a1, a2, some (.int x), a4] (.int x :: st) I J Q := A_iload_n (q := 3) (ab_io ci16 (by decide +kernel)) rfl
theorem k16_23 : At 16 23 ls st I J Q ↔ At 16 33 ls st I J Q := A_goto (o := 10) (ab_io ci16 (by decide +kernel)) (by decide)
theorem k16_26 : At 16 26 [a0, some (.ref r), a2, a3, a4] st I J Q ↔ At 16 27 [a0, some (.ref r), a2, a3, a4] (.ref r :: st) I J Q := A_aload_n (q := 1) (ab_io ci16 (by decide +kernel)) rfl
theorem k16_27_5 : At 16 27 ls (.ref 5 :: st) I J Q ↔ At 16 30 ls (.ref 6 :: st) I J Q := A_getR (ab_io ci16 (by decide +kernel)) ow16 fq1_9_5
theorem k16_27_17 : At 16 27 ls (.ref 17 :: st) I J Q ↔ At 16 30 ls (.ref 18 :: st) I J Q := A_getR (ab_io ci16 (by decide +kernel)) ow16 fq1_9_17
theorem k16_30 : At 16 30 [a0, a1, a2, a3, some (.int x)] st I J Q ↔ At 16 32 [a0, a1, a2, a3, some (.int x)] (.int x :: st) I J Q := A_iload (q := 4) (ab_io ci16 (by decide +kernel)) rfl
theorem k16_32 : At 16 32 ls (.int x :: .ref r :: st) I J Q ↔ ((ab_ly r).1 = 1 ∧ r < 75 ∧ 0 ≤ x.toInt ∧ x.toInt < (ab_ly r).2) ∧ At 16 33 ls (.int (I r x.toNatClampNeg) :: st) I J Q := A_iaload (ab_io ci16 (by decide +kernel))
theorem k16_33 : At 16 33 ls (.int x1 :: .int x :: .ref r :: st) I J Q ↔ ((ab_ly r).1 = 1 ∧ r < 75 ∧ 0 ≤ x.toInt ∧ x.toInt < (ab_ly r).2) ∧ At 16 34 ls st (va_up I r (va_up (I r) x.toNatClampNeg x1)) J Q := A_iastore (ab_io ci16 (by decide +kernel))
theorem k16_34 : At 16 34 [a0, a1, a2, a3, some (.int x)] st I J Q ↔ At 16 37 [a0, a1, a2, ab_nv a3, some (.int (x + (nI 1)))] st I J Q := A_iinc (q := 4) (ab_io ci16 (by decide +kernel)) ic_1 (Nat.le_of_ble_eq_true rfl) rfl rfl
theorem k16_37 : At 16 37 ls st I J Q ↔ At 16 3 ls st I J Q := A_goto (o := (-34)) (ab_io ci16 (by decide +kernel)) (by decide)
theorem k16_40 : At 16 40 [some (.ref r), a1, a2, a3, a4] st I J Q ↔ At 16 41 [some (.ref r), a1, a2, a3, a4] (.ref r :: st) I J Q := A_aload_n (q := 0) (ab_io ci16 (by decide +kernel)) rfl
theorem k16_41_5 : At 16 41 ls [.ref 5] I J Q ↔ Cal 17 [.ref 5] I J (fun v I' J' => At 16 44 ls (v.toList ++ []) I' J' Q) := A_cal (kd := 0) (j := 69) (na := 1) (ea := 1) (rk := 5) (by decide +kernel) rfl rfl rfl (Or.inr rfl) (Nat.le_of_ble_eq_true rfl)
theorem k16_41_17 : At 16 41 ls [.ref 17] I J Q ↔ Cal 17 [.ref 17] I J (fun v I' J' => At 16 44 ls (v.toList ++ []) I' J' Q) := A_cal (kd := 0) (j := 69) (na := 1) (ea := 1) (rk := 17) (by decide +kernel) rfl rfl rfl (Or.inr rfl) (Nat.le_of_ble_eq_true rfl)
theorem k16_44 : At 16 44 ls [] I J Q ↔ Q none I J := A_vret (ab_io ci16 (by decide +kernel)) rt16
theorem k17_0 : At 17 0 [some (.ref r)] st I J Q ↔ At 17 1 [some (.ref r)] (.ref r :: st) I J Q := A_aload_n (q := 0) (ab_io ci17 (by decide +kernel)) rfl
theorem k17_1 : At 17 1 ls st I J Q ↔ At 17 2 ls (.int (nI 0) :: st) I J Q := A_iconst (ab_io ci17 (by decide +kernel)) ic_0
theorem k17_2_5v0 : At 17 2 ls (.int (nI 0) :: .ref 5 :: st) I J Q ↔ At 17 5 ls st (va_up I 5 (va_up (I 5) 16 (nI 0))) J Q := A_putZ (ab_io ci17 (by decide +kernel)) ow17 ⟨fq1_63_5.1, fq1_63_5.2, Or.inl rfl⟩
theorem k17_2_5v1 : At 17 2 ls (.int (nI 1) :: .ref 5 :: st) I J Q ↔ At 17 5 ls st (va_up I 5 (va_up (I 5) 16 (nI 1))) J Q := A_putZ (ab_io ci17 (by decide +kernel)) ow17 ⟨fq1_63_5.1, fq1_63_5.2, Or.inr rfl⟩
theorem k17_2_17v0 : At 17 2 ls (.int (nI 0) :: .ref 17 :: st) I J Q ↔ At 17 5 ls st (va_up I 17 (va_up (I 17) 16 (nI 0))) J Q := A_putZ (ab_io ci17 (by decide +kernel)) ow17 ⟨fq1_63_17.1, fq1_63_17.2, Or.inl rfl⟩
theorem k17_2_17v1 : At 17 2 ls (.int (nI 1) :: .ref 17 :: st) I J Q ↔ At 17 5 ls st (va_up I 17 (va_up (I 17) 16 (nI 1))) J Q := A_putZ (ab_io ci17 (by decide +kernel)) ow17 ⟨fq1_63_17.1, fq1_63_17.2, Or.inr rfl⟩
theorem k17_5 : At 17 5 [some (.ref r)] st I J Q ↔ At 17 6 [some (.ref r)] (.ref r :: st) I J Q := A_aload_n (q := 0) (ab_io ci17 (by decide +kernel)) rfl
theorem k17_6_5 : At 17 6 ls [.ref 5] I J Q ↔ Cal 18 [.ref 5] I J (fun v I' J' => At 17 9 ls (v.toList ++ []) I' J' Q) := A_cal (kd := 0) (j := 72) (na := 1) (ea := 1) (rk := 5) (by decide +kernel) rfl rfl rfl (Or.inr rfl) (Nat.le_of_ble_eq_true rfl)
theorem k17_6_17 : At 17 6 ls [.ref 17] I J Q ↔ Cal 18 [.ref 17] I J (fun v I' J' => At 17 9 ls (v.toList ++ []) I' J' Q) := A_cal (kd := 0) (j := 72) (na := 1) (ea := 1) (rk := 17) (by decide +kernel) rfl rfl rfl (Or.inr rfl) (Nat.le_of_ble_eq_true rfl)
theorem k17_9 : At 17 9 [some (.ref r)] st I J Q ↔ At 17 10 [some (.ref r)] (.ref r :: st) I J Q := A_aload_n (q := 0) (ab_io ci17 (by decide +kernel)) rfl
theorem k17_10_5 : At 17 10 ls [.ref 5] I J Q ↔ Cal 19 [.ref 5] I J (fun v I' J' => At 17 13 ls (v.toList ++ []) I' J' Q) := A_cal (kd := 0) (j := 75) (na := 1) (ea := 1) (rk := 5) (by decide +kernel) rfl rfl rfl (Or.inr rfl) (Nat.le_of_ble_eq_true rfl)
theorem k17_10_17 : At 17 10 ls [.ref 17] I J Q ↔ Cal 19 [.ref 17] I J (fun v I' J' => At 17 13 ls (v.toList ++ []) I' J' Q) := A_cal (kd := 0) (j := 75) (na := 1) (ea := 1) (rk := 17) (by decide +kernel) rfl rfl rfl (Or.inr rfl) (Nat.le_of_ble_eq_true rfl)
theorem k17_13 : At 17 13 [some (.ref r)] st I J Q ↔ At 17 14 [some (.ref r)] (.ref r :: st) I J Q := A_aload_n (q := 0) (ab_io ci17 (by decide +kernel)) rfl
theorem k17_14_5 : At 17 14 ls [.ref 5] I J Q ↔ Cal 20 [.ref 5] I J (fun v I' J' => At 17 17 ls (v.toList ++ []) I' J' Q) := A_cal (kd := 0) (j := 78) (na := 1) (ea := 1) (rk := 5) (by decide +kernel) rfl rfl rfl (Or.inr rfl) (Nat.le_of_ble_eq_true rfl)
theorem k17_14_17 : At 17 14 ls [.ref 17] I J Q ↔ Cal 20 [.ref 17] I J (fun v I' J' => At 17 17 ls (v.toList ++ []) I' J' Q) := A_cal (kd := 0) (j := 78) (na := 1) (ea := 1) (rk := 17) (by decide +kernel) rfl rfl rfl (Or.inr rfl) (Nat.le_of_ble_eq_true rfl)
theorem k17_17 : At 17 17 [some (.ref r)] st I J Q ↔ At 17 18 [some (.ref r)] (.ref r :: st) I J Q := A_aload_n (q := 0) (ab_io ci17 (by decide +kernel)) rfl
theorem k17_18_5 : At 17 18 ls [.ref 5] I J Q ↔ Cal 21 [.ref 5] I J (fun v I' J' => At 17 21 ls (v.toList ++ []) I' J' Q) := A_cal (kd := 0) (j := 81) (na := 1) (ea := 1) (rk := 5) (by decide +kernel) rfl rfl rfl (Or.inr rfl) (Nat.le_of_ble_eq_true rfl)
theorem k17_18_17 : At 17 18 ls [.ref 17] I J Q ↔ Cal 21 [.ref 17] I J (fun v I' J' => At 17 21 ls (v.toList ++ []) I' J' Q) := A_cal (kd := 0) (j := 81) (na := 1) (ea := 1) (rk := 17) (by decide +kernel) rfl rfl rfl (Or.inr rfl) (Nat.le_of_ble_eq_true rfl)
theorem k17_21 : At 17 21 [some (.ref r)] st I J Q ↔ At 17 22 [some (.ref r)] (.ref r :: st) I J Q := A_aload_n (q := 0) (ab_io ci17 (by decide +kernel)) rfl
theorem k17_22_5 : At 17 22 ls [.ref 5] I J Q ↔ Cal 25 [.ref 5] I J (fun v I' J' => At 17 25 ls (v.toList ++ []) I' J' Q) := A_cal (kd := 0) (j := 84) (na := 1) (ea := 1) (rk := 5) (by decide +kernel) rfl rfl rfl (Or.inr rfl) (Nat.le_of_ble_eq_true rfl)
theorem k17_22_17 : At 17 22 ls [.ref 17] I J Q ↔ Cal 25 [.ref 17] I J (fun v I' J' => At 17 25 ls (v.toList ++ []) I' J' Q) := A_cal (kd := 0) (j := 84) (na := 1) (ea := 1) (rk := 17) (by decide +kernel) rfl rfl rfl (Or.inr rfl) (Nat.le_of_ble_eq_true rfl)
theorem k17_25 : At 17 25 ls [] I J Q ↔ Q none I J := A_vret (ab_io ci17 (by decide +kernel)) rt17
theorem k18_0 : At 18 0 ls st I J Q ↔ At 18 1 ls (.int (nI 0) :: st) I J Q := A_iconst (ab_io ci18 (by decide +kernel)) ic_0
theorem k18_1 : At 18 1 [a0, a1, a2, a3] (.int x :: st) I J Q ↔ At 18 2 [ab_nv a0, some (.int x), a2, a3] st I J Q := A_istore_n (q := 1) (ab_io ci18 (by decide +kernel)) (Nat.le_of_ble_eq_true rfl) rfl
theorem k18_2 : At 18 2 [a0, some (.int x), a2, a3] st I J Q ↔ At 18 3 [a0, some (.int x), a2, a3] (.int x :: st) I J Q := A_iload_n (q := 1) (ab_io ci18 (by decide +kernel)) rfl
theorem k18_3 : At 18 3 ls st I J Q ↔ At 18 5 ls (.int (nI 12) :: st) I J Q := A_bipush (ab_io ci18 (by decide +kernel)) bc_12
theorem k18_5 : At 18 5 ls (.int x1 :: .int x :: st) I J Q ↔ if x1 ≤ x then At 18 80 ls st I J Q else At 18 8 ls st I J Q := A_if_icmp_ge (o := 75) (ab_io ci18 (by decide +kernel)) (by decide)
theorem k18_8 : At 18 8 ls st I J Q ↔ At 18 9 ls (.int (nI 0) :: st) I J Q := A_iconst (ab_io ci18 (by decide +kernel)) ic_0
theorem k18_9 : At 18 9 [a0, a1, a2, a3] (.int x :: st) I J Q ↔ At 18 10 [a0, ab_nv a1, some (.int x), a3] st I J Q := A_istore_n (q := 2) (ab_io ci18 (by decide +kernel)) (Nat.le_of_ble_eq_true rfl) rfl
theorem k18_10 : At 18 10 ls st I J Q ↔ At 18 11 ls (.int (nI 0) :: st) I J Q := A_iconst (ab_io ci18 (by decide +kernel)) ic_0
theorem k18_11 : At 18 11 [a0, a1, a2, a3] (.int x :: st) I J Q ↔ At 18 12 [a0, a1, ab_nv a2, some (.int x)] st I J Q := A_istore_n (q := 3) (ab_io ci18 (by decide +kernel)) (Nat.le_of_ble_eq_true rfl) rfl
theorem k18_12 : At 18 12 [a0, a1, a2, some (.int x)] st I J Q ↔ At 18 13 [a0, a1, a2, some (.int x)] (.int x :: st) I J Q := A_iload_n (q := 3) (ab_io ci18 (by decide +kernel)) rfl
theorem k18_13 : At 18 13 ls st I J Q ↔ At 18 14 ls (.int (nI 4) :: st) I J Q := A_iconst (ab_io ci18 (by decide +kernel)) ic_4
theorem k18_14 : At 18 14 ls (.int x1 :: .int x :: st) I J Q ↔ if x1 ≤ x then At 18 43 ls st I J Q else At 18 17 ls st I J Q := A_if_icmp_ge (o := 29) (ab_io ci18 (by decide +kernel)) (by decide)
theorem k18_17 : At 18 17 [some (.ref r), a1, a2, a3] st I J Q ↔ At 18 18 [some (.ref r), a1, a2, a3] (.ref r :: st) I J Q := A_aload_n (q := 0) (ab_io ci18 (by decide +kernel)) rfl
theorem k18_18_5 : At 18 18 ls (.ref 5 :: st) I J Q ↔ At 18 21 ls (.ref 6 :: st) I J Q := A_getR (ab_io ci18 (by decide +kernel)) ow18 fq1_9_5
theorem k18_18_17 : At 18 18 ls (.ref 17 :: st) I J Q ↔ At 18 21 ls (.ref 18 :: st) I J Q := A_getR (ab_io ci18 (by decide +kernel)) ow18 fq1_9_17
theorem k18_21 : At 18 21 ls st I J Q ↔ At 18 22 ls (.int (nI 4) :: st) I J Q := A_iconst (ab_io ci18 (by decide +kernel)) ic_4
theorem k18_22 : At 18 22 [a0, some (.int x), a2, a3] st I J Q ↔ At 18 23 [a0, some (.int x), a2, a3] (.int x :: st) I J Q := A_iload_n (q := 1) (ab_io ci18 (by decide +kernel)) rfl
theorem k18_23 : At 18 23 ls (.int x1 :: .int x :: st) I J Q ↔ At 18 24 ls (.int (x * x1) :: st) I J Q := A_imul (ab_io ci18 (by decide +kernel))
theorem k18_24 : At 18 24 [a0, a1, a2, some (.int x)] st I J Q ↔ At 18 25 [a0, a1, a2, some (.int x)] (.int x :: st) I J Q := A_iload_n (q := 3) (ab_io ci18 (by decide +kernel)) rfl
theorem k18_25 : At 18 25 ls (.int x1 :: .int x :: st) I J Q ↔ At 18 26 ls (.int (x + x1) :: st) I J Q := A_iadd (ab_io ci18 (by decide +kernel))
theorem k18_26 : At 18 26 ls (.int x :: .ref r :: st) I J Q ↔ ((ab_ly r).1 = 1 ∧ r < 75 ∧ 0 ≤ x.toInt ∧ x.toInt < (ab_ly r).2) ∧ At 18 27 ls (.int (I r x.toNatClampNeg) :: st) I J Q := A_iaload (ab_io ci18 (by decide +kernel))
theorem k18_27 : At 18 27 ls st I J Q ↔ At 18 28 ls (.int (-1) :: st) I J Q := A_iconst (ab_io ci18 (by decide +kernel)) ic_m1
theorem k18_28 : At 18 28 ls (.int x1 :: .int x :: st) I J Q ↔ if x = x1 then At 18 37 ls st I J Q else At 18 31 ls st I J Q := A_if_icmp_eq (o := 9) (ab_io ci18 (by decide +kernel)) (by decide)
theorem k18_31 : At 18 31 [a0, a1, some (.int x), a3] st I J Q ↔ At 18 32 [a0, a1, some (.int x), a3] (.int x :: st) I J Q := A_iload_n (q := 2) (ab_io ci18 (by decide +kernel)) rfl
theorem k18_32 : At 18 32 ls st I J Q ↔ At 18 33 ls (.int (nI 1) :: st) I J Q := A_iconst (ab_io ci18 (by decide +kernel)) ic_1
theorem k18_33 : At 18 33 [a0, a1, a2, some (.int x)] st I J Q ↔ At 18 34 [a0, a1, a2, some (.int x)] (.int x :: st) I J Q := A_iload_n (q := 3) (ab_io ci18 (by decide +kernel)) rfl
theorem k18_34 : At 18 34 ls (.int x1 :: .int x :: st) I J Q ↔ At 18 35 ls (.int (x <<< (x1 &&& 31)) :: st) I J Q := A_ishl (ab_io ci18 (by decide +kernel))
theorem k18_35 : At 18 35 ls (.int x1 :: .int x :: st) I J Q ↔ At 18 36 ls (.int (x ||| x1) :: st) I J Q := A_ior (ab_io ci18 (by decide +kernel))
theorem k18_36 : At 18 36 [a0, a1, a2, a3] (.int x :: st) I J Q ↔ At 18 37 [a0, ab_nv a1, some (.int x), a3] st I J Q := A_istore_n (q := 2) (ab_io ci18 (by decide +kernel)) (Nat.le_of_ble_eq_true rfl) rfl
theorem k18_37 : At 18 37 [a0, a1, a2, some (.int x)] st I J Q ↔ At 18 40 [a0, a1, ab_nv a2, some (.int (x + (nI 1)))] st I J Q := A_iinc (q := 3) (ab_io ci18 (by decide +kernel)) ic_1 (Nat.le_of_ble_eq_true rfl) rfl rfl
theorem k18_40 : At 18 40 ls st I J Q ↔ At 18 12 ls st I J Q := A_goto (o := (-28)) (ab_io ci18 (by decide +kernel)) (by decide)
theorem k18_43 : At 18 43 [some (.ref r), a1, a2, a3] st I J Q ↔ At 18 44 [some (.ref r), a1, a2, a3] (.ref r :: st) I J Q := A_aload_n (q := 0) (ab_io ci18 (by decide +kernel)) rfl
theorem k18_44_5 : At 18 44 ls (.ref 5 :: st) I J Q ↔ At 18 47 ls (.ref 7 :: st) I J Q := A_getR (ab_io ci18 (by decide +kernel)) ow18 fq1_15_5
theorem k18_44_17 : At 18 44 ls (.ref 17 :: st) I J Q ↔ At 18 47 ls (.ref 19 :: st) I J Q := A_getR (ab_io ci18 (by decide +kernel)) ow18 fq1_15_17
theorem k18_47 : At 18 47 [a0, some (.int x), a2, a3] st I J Q ↔ At 18 48 [a0, some (.int x), a2, a3] (.int x :: st) I J Q := A_iload_n (q := 1) (ab_io ci18 (by decide +kernel)) rfl
theorem k18_48 : At 18 48 [a0, a1, some (.int x), a3] st I J Q ↔ At 18 49 [a0, a1, some (.int x), a3] (.int x :: st) I J Q := A_iload_n (q := 2) (ab_io ci18 (by decide +kernel)) rfl
theorem k18_49 : At 18 49 ls (.int x1 :: .int x :: .ref r :: st) I J Q ↔ ((ab_ly r).1 = 1 ∧ r < 75 ∧ 0 ≤ x.toInt ∧ x.toInt < (ab_ly r).2) ∧ At 18 50 ls st (va_up I r (va_up (I r) x.toNatClampNeg x1)) J Q := A_iastore (ab_io ci18 (by decide +kernel))
theorem k18_50 : At 18 50 [a0, a1, some (.int x), a3] st I J Q ↔ At 18 51 [a0, a1, some (.int x), a3] (.int x :: st) I J Q := A_iload_n (q := 2) (ab_io ci18 (by decide +kernel)) rfl
theorem k18_51 : At 18 51 ls [.int p0] I J Q ↔ Cal 202 [.int p0] I J (fun v I' J' => At 18 54 ls (v.toList ++ []) I' J' Q) := A_cal (kd := 1) (j := 87) (na := 1) (ea := 1) (rk := 0) (by decide +kernel) rfl rfl rfl (Or.inl rfl) (Nat.le_of_ble_eq_true rfl)
theorem k18_54 : At 18 54 [a0, a1, a2, a3] (.int x :: st) I J Q ↔ At 18 55 [a0, a1, ab_nv a2, some (.int x)] st I J Q := A_istore_n (q := 3) (ab_io ci18 (by decide +kernel)) (Nat.le_of_ble_eq_true rfl) rfl
theorem k18_55 : At 18 55 [some (.ref r), a1, a2, a3] st I J Q ↔ At 18 56 [some (.ref r), a1, a2, a3] (.ref r :: st) I J Q := A_aload_n (q := 0) (ab_io ci18 (by decide +kernel)) rfl
theorem k18_56_5 : At 18 56 ls (.ref 5 :: st) I J Q ↔ At 18 59 ls (.ref 8 :: st) I J Q := A_getR (ab_io ci18 (by decide +kernel)) ow18 fq1_18_5
theorem k18_56_17 : At 18 56 ls (.ref 17 :: st) I J Q ↔ At 18 59 ls (.ref 20 :: st) I J Q := A_getR (ab_io ci18 (by decide +kernel)) ow18 fq1_18_17
theorem k18_59 : At 18 59 [a0, some (.int x), a2, a3] st I J Q ↔ At 18 60 [a0, some (.int x), a2, a3] (.int x :: st) I J Q := A_iload_n (q := 1) (ab_io ci18 (by decide +kernel)) rfl
theorem k18_60 : At 18 60 [a0, a1, a2, some (.int x)] st I J Q ↔ At 18 61 [a0, a1, a2, some (.int x)] (.int x :: st) I J Q := A_iload_n (q := 3) (ab_io ci18 (by decide +kernel)) rfl
theorem k18_61 : At 18 61 ls (.int x :: st) I J Q ↔ if x ≤ 0 then At 18 72 ls st I J Q else At 18 64 ls st I J Q := A_ifCond_le (o := 11) (ab_io ci18 (by decide +kernel)) (by decide)
theorem k18_64 : At 18 64 ls st I J Q ↔ At 18 66 ls (.int (nI 12) :: st) I J Q := A_bipush (ab_io ci18 (by decide +kernel)) bc_12
theorem k18_66 : At 18 66 [a0, a1, a2, some (.int x)] st I J Q ↔ At 18 67 [a0, a1, a2, some (.int x)] (.int x :: st) I J Q := A_iload_n (q := 3) (ab_io ci18 (by decide +kernel)) rfl
theorem k18_67 : At 18 67 ls (.int x1 :: .int x :: st) I J Q ↔ ¬ x1 = 0 ∧ At 18 68 ls (.int (x / x1) :: st) I J Q := A_idiv (ab_io ci18 (by decide +kernel))
theorem k18_68 : At 18 68 ls (.int x :: st) I J Q ↔ At 18 69 ls (.long x.toInt64 :: st) I J Q := A_i2l (ab_io ci18 (by decide +kernel))
theorem k18_69 : At 18 69 ls st I J Q ↔ At 18 73 ls st I J Q := A_goto (o := 4) (ab_io ci18 (by decide +kernel)) (by decide)
theorem k18_72 : At 18 72 ls st I J Q ↔ At 18 73 ls (.long 0 :: st) I J Q := A_lconst (n := 0) (ab_io ci18 (by decide +kernel)) rfl
theorem k18_73 : At 18 73 ls (.long u :: .int x :: .ref r :: st) I J Q ↔ ((ab_ly r).1 = 2 ∧ r < 75 ∧ 0 ≤ x.toInt ∧ x.toInt < (ab_ly r).2) ∧ At 18 74 ls st I (va_up J r (va_up (J r) x.toNatClampNeg u)) Q := A_lastore (ab_io ci18 (by decide +kernel))
theorem k18_74 : At 18 74 [a0, some (.int x), a2, a3] st I J Q ↔ At 18 77 [ab_nv a0, some (.int (x + (nI 1))), a2, a3] st I J Q := A_iinc (q := 1) (ab_io ci18 (by decide +kernel)) ic_1 (Nat.le_of_ble_eq_true rfl) rfl rfl
theorem k18_77 : At 18 77 ls st I J Q ↔ At 18 2 ls st I J Q := A_goto (o := (-75)) (ab_io ci18 (by decide +kernel)) (by decide)
theorem k18_80 : At 18 80 ls [] I J Q ↔ Q none I J := A_vret (ab_io ci18 (by decide +kernel)) rt18
theorem k19_0 : At 19 0 ls st I J Q ↔ At 19 1 ls (.int (nI 0) :: st) I J Q := A_iconst (ab_io ci19 (by decide +kernel)) ic_0
theorem k19_1 : At 19 1 [a0, a1, a2, a3] (.int x :: st) I J Q ↔ At 19 2 [ab_nv a0, some (.int x), a2, a3] st I J Q := A_istore_n (q := 1) (ab_io ci19 (by decide +kernel)) (Nat.le_of_ble_eq_true rfl) rfl
theorem k19_2 : At 19 2 [a0, some (.int x), a2, a3] st I J Q ↔ At 19 3 [a0, some (.int x), a2, a3] (.int x :: st) I J Q := A_iload_n (q := 1) (ab_io ci19 (by decide +kernel)) rfl
theorem k19_3 : At 19 3 ls st I J Q ↔ At 19 4 ls (.int (nI 4) :: st) I J Q := A_iconst (ab_io ci19 (by decide +kernel)) ic_4
theorem k19_4 : At 19 4 ls (.int x1 :: .int x :: st) I J Q ↔ if x1 ≤ x then At 19 58 ls st I J Q else At 19 7 ls st I J Q := A_if_icmp_ge (o := 54) (ab_io ci19 (by decide +kernel)) (by decide)
theorem k19_7 : At 19 7 ls st I J Q ↔ At 19 8 ls (.int (nI 0) :: st) I J Q := A_iconst (ab_io ci19 (by decide +kernel)) ic_0
theorem k19_8 : At 19 8 [a0, a1, a2, a3] (.int x :: st) I J Q ↔ At 19 9 [a0, ab_nv a1, some (.int x), a3] st I J Q := A_istore_n (q := 2) (ab_io ci19 (by decide +kernel)) (Nat.le_of_ble_eq_true rfl) rfl
theorem k19_9 : At 19 9 ls st I J Q ↔ At 19 10 ls (.int (nI 0) :: st) I J Q := A_iconst (ab_io ci19 (by decide +kernel)) ic_0
theorem k19_10 : At 19 10 [a0, a1, a2, a3] (.int x :: st) I J Q ↔ At 19 11 [a0, a1, ab_nv a2, some (.int x)] st I J Q := A_istore_n (q := 3) (ab_io ci19 (by decide +kernel)) (Nat.le_of_ble_eq_true rfl) rfl
theorem k19_11 : At 19 11 [a0, a1, a2, some (.int x)] st I J Q ↔ At 19 12 [a0, a1, a2, some (.int x)] (.int x :: st) I J Q := A_iload_n (q := 3) (ab_io ci19 (by decide +kernel)) rfl
theorem k19_12 : At 19 12 ls st I J Q ↔ At 19 14 ls (.int (nI 12) :: st) I J Q := A_bipush (ab_io ci19 (by decide +kernel)) bc_12
theorem k19_14 : At 19 14 ls (.int x1 :: .int x :: st) I J Q ↔ if x1 ≤ x then At 19 45 ls st I J Q else At 19 17 ls st I J Q := A_if_icmp_ge (o := 31) (ab_io ci19 (by decide +kernel)) (by decide)
theorem k19_17 : At 19 17 [some (.ref r), a1, a2, a3] st I J Q ↔ At 19 18 [some (.ref r), a1, a2, a3] (.ref r :: st) I J Q := A_aload_n (q := 0) (ab_io ci19 (by decide +kernel)) rfl
theorem k19_18_5 : At 19 18 ls (.ref 5 :: st) I J Q ↔ At 19 21 ls (.ref 7 :: st) I J Q := A_getR (ab_io ci19 (by decide +kernel)) ow19 fq1_15_5
theorem k19_18_17 : At 19 18 ls (.ref 17 :: st) I J Q ↔ At 19 21 ls (.ref 19 :: st) I J Q := A_getR (ab_io ci19 (by decide +kernel)) ow19 fq1_15_17
theorem k19_21 : At 19 21 [a0, a1, a2, some (.int x)] st I J Q ↔ At 19 22 [a0, a1, a2, some (.int x)] (.int x :: st) I J Q := A_iload_n (q := 3) (ab_io ci19 (by decide +kernel)) rfl
theorem k19_22 : At 19 22 ls (.int x :: .ref r :: st) I J Q ↔ ((ab_ly r).1 = 1 ∧ r < 75 ∧ 0 ≤ x.toInt ∧ x.toInt < (ab_ly r).2) ∧ At 19 23 ls (.int (I r x.toNatClampNeg) :: st) I J Q := A_iaload (ab_io ci19 (by decide +kernel))
theorem k19_23 : At 19 23 [a0, some (.int x), a2, a3] st I J Q ↔ At 19 24 [a0, some (.int x), a2, a3] (.int x :: st) I J Q := A_iload_n (q := 1) (ab_io ci19 (by decide +kernel)) rfl
theorem k19_24 : At 19 24 ls (.int x1 :: .int x :: st) I J Q ↔ At 19 25 ls (.int (x >>> (x1 &&& 31)) :: st) I J Q := A_ishr (ab_io ci19 (by decide +kernel))
theorem k19_25 : At 19 25 ls st I J Q ↔ At 19 26 ls (.int (nI 1) :: st) I J Q := A_iconst (ab_io ci19 (by decide +kernel)) ic_1
theorem k19_26 : At 19 26 ls (.int x1 :: .int x :: st) I J Q ↔ At 19 27 ls (.int (x &&& x1) :: st) I J Q := A_iand (ab_io ci19 (by decide +kernel))
theorem k19_27 : At 19 27 ls (.int x :: st) I J Q ↔ if x = 0 then At 19 39 ls st I J Q else At 19 30 ls st I J Q := A_ifCond_eq (o := 12) (ab_io ci19 (by decide +kernel)) (by decide)
theorem k19_30 : At 19 30 [a0, a1, some (.int x), a3] st I J Q ↔ At 19 31 [a0, a1, some (.int x), a3] (.int x :: st) I J Q := A_iload_n (q := 2) (ab_io ci19 (by decide +kernel)) rfl
theorem k19_31 : At 19 31 [some (.ref r), a1, a2, a3] st I J Q ↔ At 19 32 [some (.ref r), a1, a2, a3] (.ref r :: st) I J Q := A_aload_n (q := 0) (ab_io ci19 (by decide +kernel)) rfl
theorem k19_32_5 : At 19 32 ls (.ref 5 :: st) I J Q ↔ At 19 35 ls (.ref 7 :: st) I J Q := A_getR (ab_io ci19 (by decide +kernel)) ow19 fq1_15_5
theorem k19_32_17 : At 19 32 ls (.ref 17 :: st) I J Q ↔ At 19 35 ls (.ref 19 :: st) I J Q := A_getR (ab_io ci19 (by decide +kernel)) ow19 fq1_15_17
theorem k19_35 : At 19 35 [a0, a1, a2, some (.int x)] st I J Q ↔ At 19 36 [a0, a1, a2, some (.int x)] (.int x :: st) I J Q := A_iload_n (q := 3) (ab_io ci19 (by decide +kernel)) rfl
theorem k19_36 : At 19 36 ls (.int x :: .ref r :: st) I J Q ↔ ((ab_ly r).1 = 1 ∧ r < 75 ∧ 0 ≤ x.toInt ∧ x.toInt < (ab_ly r).2) ∧ At 19 37 ls (.int (I r x.toNatClampNeg) :: st) I J Q := A_iaload (ab_io ci19 (by decide +kernel))
theorem k19_37 : At 19 37 ls (.int x1 :: .int x :: st) I J Q ↔ At 19 38 ls (.int (x ||| x1) :: st) I J Q := A_ior (ab_io ci19 (by decide +kernel))
theorem k19_38 : At 19 38 [a0, a1, a2, a3] (.int x :: st) I J Q ↔ At 19 39 [a0, ab_nv a1, some (.int x), a3] st I J Q := A_istore_n (q := 2) (ab_io ci19 (by decide +kernel)) (Nat.le_of_ble_eq_true rfl) rfl
theorem k19_39 : At 19 39 [a0, a1, a2, some (.int x)] st I J Q ↔ At 19 42 [a0, a1, ab_nv a2, some (.int (x + (nI 1)))] st I J Q := A_iinc (q := 3) (ab_io ci19 (by decide +kernel)) ic_1 (Nat.le_of_ble_eq_true rfl) rfl rfl
theorem k19_42 : At 19 42 ls st I J Q ↔ At 19 11 ls st I J Q := A_goto (o := (-31)) (ab_io ci19 (by decide +kernel)) (by decide)
theorem k19_45 : At 19 45 [some (.ref r), a1, a2, a3] st I J Q ↔ At 19 46 [some (.ref r), a1, a2, a3] (.ref r :: st) I J Q := A_aload_n (q := 0) (ab_io ci19 (by decide +kernel)) rfl
theorem k19_46_5 : At 19 46 ls (.ref 5 :: st) I J Q ↔ At 19 49 ls (.ref 9 :: st) I J Q := A_getR (ab_io ci19 (by decide +kernel)) ow19 fq1_22_5
theorem k19_46_17 : At 19 46 ls (.ref 17 :: st) I J Q ↔ At 19 49 ls (.ref 21 :: st) I J Q := A_getR (ab_io ci19 (by decide +kernel)) ow19 fq1_22_17
theorem k19_49 : At 19 49 [a0, some (.int x), a2, a3] st I J Q ↔ At 19 50 [a0, some (.int x), a2, a3] (.int x :: st) I J Q := A_iload_n (q := 1) (ab_io ci19 (by decide +kernel)) rfl
theorem k19_50 : At 19 50 [a0, a1, some (.int x), a3] st I J Q ↔ At 19 51 [a0, a1, some (.int x), a3] (.int x :: st) I J Q := A_iload_n (q := 2) (ab_io ci19 (by decide +kernel)) rfl
theorem k19_51 : At 19 51 ls (.int x1 :: .int x :: .ref r :: st) I J Q ↔ ((ab_ly r).1 = 1 ∧ r < 75 ∧ 0 ≤ x.toInt ∧ x.toInt < (ab_ly r).2) ∧ At 19 52 ls st (va_up I r (va_up (I r) x.toNatClampNeg x1)) J Q := A_iastore (ab_io ci19 (by decide +kernel))
theorem k19_52 : At 19 52 [a0, some (.int x), a2, a3] st I J Q ↔ At 19 55 [ab_nv a0, some (.int (x + (nI 1))), a2, a3] st I J Q := A_iinc (q := 1) (ab_io ci19 (by decide +kernel)) ic_1 (Nat.le_of_ble_eq_true rfl) rfl rfl
theorem k19_55 : At 19 55 ls st I J Q ↔ At 19 2 ls st I J Q := A_goto (o := (-53)) (ab_io ci19 (by decide +kernel)) (by decide)
theorem k19_58 : At 19 58 ls st I J Q ↔ At 19 59 ls (.int (nI 0) :: st) I J Q := A_iconst (ab_io ci19 (by decide +kernel)) ic_0
theorem k19_59 : At 19 59 [a0, a1, a2, a3] (.int x :: st) I J Q ↔ At 19 60 [ab_nv a0, some (.int x), a2, a3] st I J Q := A_istore_n (q := 1) (ab_io ci19 (by decide +kernel)) (Nat.le_of_ble_eq_true rfl) rfl
theorem k19_60 : At 19 60 [a0, some (.int x), a2, a3] st I J Q ↔ At 19 61 [a0, some (.int x), a2, a3] (.int x :: st) I J Q := A_iload_n (q := 1) (ab_io ci19 (by decide +kernel)) rfl
theorem k19_61 : At 19 61 ls st I J Q ↔ At 19 62 ls (.int (nI 4) :: st) I J Q := A_iconst (ab_io ci19 (by decide +kernel)) ic_4
theorem k19_62 : At 19 62 ls (.int x1 :: .int x :: st) I J Q ↔ if x1 ≤ x then At 19 112 ls st I J Q else At 19 65 ls st I J Q := A_if_icmp_ge (o := 50) (ab_io ci19 (by decide +kernel)) (by decide)
theorem k19_65 : At 19 65 ls st I J Q ↔ At 19 66 ls (.int (nI 0) :: st) I J Q := A_iconst (ab_io ci19 (by decide +kernel)) ic_0
theorem k19_66 : At 19 66 [a0, a1, a2, a3] (.int x :: st) I J Q ↔ At 19 67 [a0, ab_nv a1, some (.int x), a3] st I J Q := A_istore_n (q := 2) (ab_io ci19 (by decide +kernel)) (Nat.le_of_ble_eq_true rfl) rfl
theorem k19_67 : At 19 67 [a0, a1, some (.int x), a3] st I J Q ↔ At 19 68 [a0, a1, some (.int x), a3] (.int x :: st) I J Q := A_iload_n (q := 2) (ab_io ci19 (by decide +kernel)) rfl
theorem k19_68 : At 19 68 ls st I J Q ↔ At 19 69 ls (.int (nI 4) :: st) I J Q := A_iconst (ab_io ci19 (by decide +kernel)) ic_4
theorem k19_69 : At 19 69 ls (.int x1 :: .int x :: st) I J Q ↔ if x1 ≤ x then At 19 106 ls st I J Q else At 19 72 ls st I J Q := A_if_icmp_ge (o := 37) (ab_io ci19 (by decide +kernel)) (by decide)
theorem k19_72 : At 19 72 [some (.ref r), a1, a2, a3] st I J Q ↔ At 19 73 [some (.ref r), a1, a2, a3] (.ref r :: st) I J Q := A_aload_n (q := 0) (ab_io ci19 (by decide +kernel)) rfl
theorem k19_73_5 : At 19 73 ls (.ref 5 :: st) I J Q ↔ At 19 76 ls (.ref 9 :: st) I J Q := A_getR (ab_io ci19 (by decide +kernel)) ow19 fq1_22_5
theorem k19_73_17 : At 19 73 ls (.ref 17 :: st) I J Q ↔ At 19 76 ls (.ref 21 :: st) I J Q := A_getR (ab_io ci19 (by decide +kernel)) ow19 fq1_22_17
theorem k19_76 : At 19 76 [a0, a1, some (.int x), a3] st I J Q ↔ At 19 77 [a0, a1, some (.int x), a3] (.int x :: st) I J Q := A_iload_n (q := 2) (ab_io ci19 (by decide +kernel)) rfl
theorem k19_77 : At 19 77 ls (.int x :: .ref r :: st) I J Q ↔ ((ab_ly r).1 = 1 ∧ r < 75 ∧ 0 ≤ x.toInt ∧ x.toInt < (ab_ly r).2) ∧ At 19 78 ls (.int (I r x.toNatClampNeg) :: st) I J Q := A_iaload (ab_io ci19 (by decide +kernel))
theorem k19_78 : At 19 78 [a0, some (.int x), a2, a3] st I J Q ↔ At 19 79 [a0, some (.int x), a2, a3] (.int x :: st) I J Q := A_iload_n (q := 1) (ab_io ci19 (by decide +kernel)) rfl
theorem k19_79 : At 19 79 ls (.int x1 :: .int x :: st) I J Q ↔ At 19 80 ls (.int (x >>> (x1 &&& 31)) :: st) I J Q := A_ishr (ab_io ci19 (by decide +kernel))
theorem k19_80 : At 19 80 ls st I J Q ↔ At 19 81 ls (.int (nI 1) :: st) I J Q := A_iconst (ab_io ci19 (by decide +kernel)) ic_1
theorem k19_81 : At 19 81 ls (.int x1 :: .int x :: st) I J Q ↔ At 19 82 ls (.int (x &&& x1) :: st) I J Q := A_iand (ab_io ci19 (by decide +kernel))
theorem k19_82 : At 19 82 ls (.int x :: st) I J Q ↔ if x = 0 then At 19 100 ls st I J Q else At 19 85 ls st I J Q := A_ifCond_eq (o := 18) (ab_io ci19 (by decide +kernel)) (by decide)
theorem k19_85 : At 19 85 [some (.ref r), a1, a2, a3] st I J Q ↔ At 19 86 [some (.ref r), a1, a2, a3] (.ref r :: st) I J Q := A_aload_n (q := 0) (ab_io ci19 (by decide +kernel)) rfl
theorem k19_86_5 : At 19 86 ls (.ref 5 :: st) I J Q ↔ At 19 89 ls (.ref 9 :: st) I J Q := A_getR (ab_io ci19 (by decide +kernel)) ow19 fq1_22_5
theorem k19_86_17 : At 19 86 ls (.ref 17 :: st) I J Q ↔ At 19 89 ls (.ref 21 :: st) I J Q := A_getR (ab_io ci19 (by decide +kernel)) ow19 fq1_22_17
theorem k19_89 : At 19 89 [a0, a1, some (.int x), a3] st I J Q ↔ At 19 90 [a0, a1, some (.int x), a3] (.int x :: st) I J Q := A_iload_n (q := 2) (ab_io ci19 (by decide +kernel)) rfl
theorem k19_90 : At 19 90 ls (.int x :: .ref r :: st) I J Q ↔ At 19 91 ls (.int x :: .ref r :: .int x :: .ref r :: st) I J Q := A_dup2 (ab_io ci19 (by decide +kernel))
theorem k19_91 : At 19 91 ls (.int x :: .ref r :: st) I J Q ↔ ((ab_ly r).1 = 1 ∧ r < 75 ∧ 0 ≤ x.toInt ∧ x.toInt < (ab_ly r).2) ∧ At 19 92 ls (.int (I r x.toNatClampNeg) :: st) I J Q := A_iaload (ab_io ci19 (by decide +kernel))
theorem k19_92 : At 19 92 [some (.ref r), a1, a2, a3] st I J Q ↔ At 19 93 [some (.ref r), a1, a2, a3] (.ref r :: st) I J Q := A_aload_n (q := 0) (ab_io ci19 (by decide +kernel)) rfl
theorem k19_93_5 : At 19 93 ls (.ref 5 :: st) I J Q ↔ At 19 96 ls (.ref 9 :: st) I J Q := A_getR (ab_io ci19 (by decide +kernel)) ow19 fq1_22_5
theorem k19_93_17 : At 19 93 ls (.ref 17 :: st) I J Q ↔ At 19 96 ls (.ref 21 :: st) I J Q := A_getR (ab_io ci19 (by decide +kernel)) ow19 fq1_22_17
theorem k19_96 : At 19 96 [a0, some (.int x), a2, a3] st I J Q ↔ At 19 97 [a0, some (.int x), a2, a3] (.int x :: st) I J Q := A_iload_n (q := 1) (ab_io ci19 (by decide +kernel)) rfl
theorem k19_97 : At 19 97 ls (.int x :: .ref r :: st) I J Q ↔ ((ab_ly r).1 = 1 ∧ r < 75 ∧ 0 ≤ x.toInt ∧ x.toInt < (ab_ly r).2) ∧ At 19 98 ls (.int (I r x.toNatClampNeg) :: st) I J Q := A_iaload (ab_io ci19 (by decide +kernel))
theorem k19_98 : At 19 98 ls (.int x1 :: .int x :: st) I J Q ↔ At 19 99 ls (.int (x ||| x1) :: st) I J Q := A_ior (ab_io ci19 (by decide +kernel))
theorem k19_99 : At 19 99 ls (.int x1 :: .int x :: .ref r :: st) I J Q ↔ ((ab_ly r).1 = 1 ∧ r < 75 ∧ 0 ≤ x.toInt ∧ x.toInt < (ab_ly r).2) ∧ At 19 100 ls st (va_up I r (va_up (I r) x.toNatClampNeg x1)) J Q := A_iastore (ab_io ci19 (by decide +kernel))
theorem k19_100 : At 19 100 [a0, a1, some (.int x), a3] st I J Q ↔ At 19 103 [a0, ab_nv a1, some (.int (x + (nI 1))), a3] st I J Q := A_iinc (q := 2) (ab_io ci19 (by decide +kernel)) ic_1 (Nat.le_of_ble_eq_true rfl) rfl rfl
theorem k19_103 : At 19 103 ls st I J Q ↔ At 19 67 ls st I J Q := A_goto (o := (-36)) (ab_io ci19 (by decide +kernel)) (by decide)
theorem k19_106 : At 19 106 [a0, some (.int x), a2, a3] st I J Q ↔ At 19 109 [ab_nv a0, some (.int (x + (nI 1))), a2, a3] st I J Q := A_iinc (q := 1) (ab_io ci19 (by decide +kernel)) ic_1 (Nat.le_of_ble_eq_true rfl) rfl rfl
theorem k19_109 : At 19 109 ls st I J Q ↔ At 19 60 ls st I J Q := A_goto (o := (-49)) (ab_io ci19 (by decide +kernel)) (by decide)
theorem k19_112 : At 19 112 ls [] I J Q ↔ Q none I J := A_vret (ab_io ci19 (by decide +kernel)) rt19
theorem k20_0 : At 20 0 [some (.ref r), a1, a2] st I J Q ↔ At 20 1 [some (.ref r), a1, a2] (.ref r :: st) I J Q := A_aload_n (q := 0) (ab_io ci20 (by decide +kernel)) rfl
theorem k20_1 : At 20 1 ls st I J Q ↔ At 20 2 ls (.int (nI 0) :: st) I J Q := A_iconst (ab_io ci20 (by decide +kernel)) ic_0
theorem k20_2_5 : At 20 2 ls (.int x :: .ref 5 :: st) I J Q ↔ At 20 5 ls st (va_up I 5 (va_up (I 5) 12 x)) J Q := A_putI (ab_io ci20 (by decide +kernel)) ow20 fq1_50_5
theorem k20_2_17 : At 20 2 ls (.int x :: .ref 17 :: st) I J Q ↔ At 20 5 ls st (va_up I 17 (va_up (I 17) 12 x)) J Q := A_putI (ab_io ci20 (by decide +kernel)) ow20 fq1_50_17
theorem k20_5 : At 20 5 ls st I J Q ↔ At 20 6 ls (.int (nI 0) :: st) I J Q := A_iconst (ab_io ci20 (by decide +kernel)) ic_0
theorem k20_6 : At 20 6 [a0, a1, a2] (.int x :: st) I J Q ↔ At 20 7 [ab_nv a0, some (.int x), a2] st I J Q := A_istore_n (q := 1) (ab_io ci20 (by decide +kernel)) (Nat.le_of_ble_eq_true rfl) rfl
theorem k20_7 : At 20 7 [a0, some (.int x), a2] st I J Q ↔ At 20 8 [a0, some (.int x), a2] (.int x :: st) I J Q := A_iload_n (q := 1) (ab_io ci20 (by decide +kernel)) rfl
theorem k20_8 : At 20 8 ls st I J Q ↔ At 20 9 ls (.int (nI 4) :: st) I J Q := A_iconst (ab_io ci20 (by decide +kernel)) ic_4
theorem k20_9 : At 20 9 ls (.int x1 :: .int x :: st) I J Q ↔ if x1 ≤ x then At 20 65 ls st I J Q else At 20 12 ls st I J Q := A_if_icmp_ge (o := 56) (ab_io ci20 (by decide +kernel)) (by decide)
theorem k20_12 : At 20 12 [some (.ref r), a1, a2] st I J Q ↔ At 20 13 [some (.ref r), a1, a2] (.ref r :: st) I J Q := A_aload_n (q := 0) (ab_io ci20 (by decide +kernel)) rfl
theorem k20_13_5 : At 20 13 ls (.ref 5 :: st) I J Q ↔ At 20 16 ls (.ref 10 :: st) I J Q := A_getR (ab_io ci20 (by decide +kernel)) ow20 fq1_25_5
theorem k20_13_17 : At 20 13 ls (.ref 17 :: st) I J Q ↔ At 20 16 ls (.ref 22 :: st) I J Q := A_getR (ab_io ci20 (by decide +kernel)) ow20 fq1_25_17
theorem k20_16 : At 20 16 [a0, some (.int x), a2] st I J Q ↔ At 20 17 [a0, some (.int x), a2] (.int x :: st) I J Q := A_iload_n (q := 1) (ab_io ci20 (by decide +kernel)) rfl
theorem k20_17 : At 20 17 [some (.ref r), a1, a2] st I J Q ↔ At 20 18 [some (.ref r), a1, a2] (.ref r :: st) I J Q := A_aload_n (q := 0) (ab_io ci20 (by decide +kernel)) rfl
theorem k20_18_5 : At 20 18 ls (.ref 5 :: st) I J Q ↔ At 20 21 ls (.ref 9 :: st) I J Q := A_getR (ab_io ci20 (by decide +kernel)) ow20 fq1_22_5
theorem k20_18_17 : At 20 18 ls (.ref 17 :: st) I J Q ↔ At 20 21 ls (.ref 21 :: st) I J Q := A_getR (ab_io ci20 (by decide +kernel)) ow20 fq1_22_17
theorem k20_21 : At 20 21 [a0, some (.int x), a2] st I J Q ↔ At 20 22 [a0, some (.int x), a2] (.int x :: st) I J Q := A_iload_n (q := 1) (ab_io ci20 (by decide +kernel)) rfl
theorem k20_22 : At 20 22 ls (.int x :: .ref r :: st) I J Q ↔ ((ab_ly r).1 = 1 ∧ r < 75 ∧ 0 ≤ x.toInt ∧ x.toInt < (ab_ly r).2) ∧ At 20 23 ls (.int (I r x.toNatClampNeg) :: st) I J Q := A_iaload (ab_io ci20 (by decide +kernel))
theorem k20_23 : At 20 23 ls [.int p0, .int q0, .ref qr1] I J Q ↔ Cal 124 [.int p0] I J (fun v I' J' => At 20 26 ls (v.toList ++ [.int q0, .ref qr1]) I' J' Q) := A_cal (kd := 1) (j := 93) (na := 1) (ea := 1) (rk := 0) (by decide +kernel) rfl rfl rfl (Or.inl rfl) (Nat.le_of_ble_eq_true rfl)
theorem k20_26 : At 20 26 ls (.int x1 :: .int x :: .ref r :: st) I J Q ↔ ((ab_ly r).1 = 1 ∧ r < 75 ∧ 0 ≤ x.toInt ∧ x.toInt < (ab_ly r).2) ∧ At 20 27 ls st (va_up I r (va_up (I r) x.toNatClampNeg x1)) J Q := A_iastore (ab_io ci20 (by decide +kernel))
theorem k20_27 : At 20 27 [some (.ref r), a1, a2] st I J Q ↔ At 20 28 [some (.ref r), a1, a2] (.ref r :: st) I J Q := A_aload_n (q := 0) (ab_io ci20 (by decide +kernel)) rfl
theorem k20_28_5 : At 20 28 ls (.ref 5 :: st) I J Q ↔ At 20 31 ls (.ref 10 :: st) I J Q := A_getR (ab_io ci20 (by decide +kernel)) ow20 fq1_25_5
theorem k20_28_17 : At 20 28 ls (.ref 17 :: st) I J Q ↔ At 20 31 ls (.ref 22 :: st) I J Q := A_getR (ab_io ci20 (by decide +kernel)) ow20 fq1_25_17
theorem k20_31 : At 20 31 [a0, some (.int x), a2] st I J Q ↔ At 20 32 [a0, some (.int x), a2] (.int x :: st) I J Q := A_iload_n (q := 1) (ab_io ci20 (by decide +kernel)) rfl
theorem k20_32 : At 20 32 ls (.int x :: .ref r :: st) I J Q ↔ ((ab_ly r).1 = 1 ∧ r < 75 ∧ 0 ≤ x.toInt ∧ x.toInt < (ab_ly r).2) ∧ At 20 33 ls (.int (I r x.toNatClampNeg) :: st) I J Q := A_iaload (ab_io ci20 (by decide +kernel))
theorem k20_33 : At 20 33 ls st I J Q ↔ At 20 34 ls (.int (-1) :: st) I J Q := A_iconst (ab_io ci20 (by decide +kernel)) ic_m1
theorem k20_34 : At 20 34 ls (.int x1 :: .int x :: st) I J Q ↔ if x = x1 then At 20 59 ls st I J Q else At 20 37 ls st I J Q := A_if_icmp_eq (o := 25) (ab_io ci20 (by decide +kernel)) (by decide)
theorem k20_37 : At 20 37 [some (.ref r), a1, a2] st I J Q ↔ At 20 38 [some (.ref r), a1, a2] (.ref r :: st) I J Q := A_aload_n (q := 0) (ab_io ci20 (by decide +kernel)) rfl
theorem k20_38_5 : At 20 38 ls (.ref 5 :: st) I J Q ↔ At 20 41 ls (.ref 10 :: st) I J Q := A_getR (ab_io ci20 (by decide +kernel)) ow20 fq1_25_5
theorem k20_38_17 : At 20 38 ls (.ref 17 :: st) I J Q ↔ At 20 41 ls (.ref 22 :: st) I J Q := A_getR (ab_io ci20 (by decide +kernel)) ow20 fq1_25_17
theorem k20_41 : At 20 41 [a0, some (.int x), a2] st I J Q ↔ At 20 42 [a0, some (.int x), a2] (.int x :: st) I J Q := A_iload_n (q := 1) (ab_io ci20 (by decide +kernel)) rfl
theorem k20_42 : At 20 42 ls (.int x :: .ref r :: st) I J Q ↔ ((ab_ly r).1 = 1 ∧ r < 75 ∧ 0 ≤ x.toInt ∧ x.toInt < (ab_ly r).2) ∧ At 20 43 ls (.int (I r x.toNatClampNeg) :: st) I J Q := A_iaload (ab_io ci20 (by decide +kernel))
theorem k20_43 : At 20 43 [a0, some (.int x), a2] st I J Q ↔ At 20 44 [a0, some (.int x), a2] (.int x :: st) I J Q := A_iload_n (q := 1) (ab_io ci20 (by decide +kernel)) rfl
theorem k20_44 : At 20 44 ls (.int x1 :: .int x :: st) I J Q ↔ if x = x1 then At 20 59 ls st I J Q else At 20 47 ls st I J Q := A_if_icmp_eq (o := 15) (ab_io ci20 (by decide +kernel)) (by decide)
theorem k20_47 : At 20 47 [some (.ref r), a1, a2] st I J Q ↔ At 20 48 [some (.ref r), a1, a2] (.ref r :: st) I J Q := A_aload_n (q := 0) (ab_io ci20 (by decide +kernel)) rfl
theorem k20_48 : At 20 48 ls (.ref r :: st) I J Q ↔ At 20 49 ls (.ref r :: .ref r :: st) I J Q := A_dupA (ab_io ci20 (by decide +kernel))
theorem k20_49_5 : At 20 49 ls (.ref 5 :: st) I J Q ↔ At 20 52 ls (.int (I 5 12) :: st) I J Q := A_getI (ab_io ci20 (by decide +kernel)) ow20 fq1_50_5
theorem k20_49_17 : At 20 49 ls (.ref 17 :: st) I J Q ↔ At 20 52 ls (.int (I 17 12) :: st) I J Q := A_getI (ab_io ci20 (by decide +kernel)) ow20 fq1_50_17
theorem k20_52 : At 20 52 ls st I J Q ↔ At 20 53 ls (.int (nI 1) :: st) I J Q := A_iconst (ab_io ci20 (by decide +kernel)) ic_1
theorem k20_53 : At 20 53 [a0, some (.int x), a2] st I J Q ↔ At 20 54 [a0, some (.int x), a2] (.int x :: st) I J Q := A_iload_n (q := 1) (ab_io ci20 (by decide +kernel)) rfl
theorem k20_54 : At 20 54 ls (.int x1 :: .int x :: st) I J Q ↔ At 20 55 ls (.int (x <<< (x1 &&& 31)) :: st) I J Q := A_ishl (ab_io ci20 (by decide +kernel))
theorem k20_55 : At 20 55 ls (.int x1 :: .int x :: st) I J Q ↔ At 20 56 ls (.int (x ||| x1) :: st) I J Q := A_ior (ab_io ci20 (by decide +kernel))
theorem k20_56_5 : At 20 56 ls (.int x :: .ref 5 :: st) I J Q ↔ At 20 59 ls st (va_up I 5 (va_up (I 5) 12 x)) J Q := A_putI (ab_io ci20 (by decide +kernel)) ow20 fq1_50_5
theorem k20_56_17 : At 20 56 ls (.int x :: .ref 17 :: st) I J Q ↔ At 20 59 ls st (va_up I 17 (va_up (I 17) 12 x)) J Q := A_putI (ab_io ci20 (by decide +kernel)) ow20 fq1_50_17
theorem k20_59 : At 20 59 [a0, some (.int x), a2] st I J Q ↔ At 20 62 [ab_nv a0, some (.int (x + (nI 1))), a2] st I J Q := A_iinc (q := 1) (ab_io ci20 (by decide +kernel)) ic_1 (Nat.le_of_ble_eq_true rfl) rfl rfl
theorem k20_62 : At 20 62 ls st I J Q ↔ At 20 7 ls st I J Q := A_goto (o := (-55)) (ab_io ci20 (by decide +kernel)) (by decide)
theorem k20_65 : At 20 65 ls st I J Q ↔ At 20 66 ls (.int (nI 0) :: st) I J Q := A_iconst (ab_io ci20 (by decide +kernel)) ic_0
theorem k20_66 : At 20 66 [a0, a1, a2] (.int x :: st) I J Q ↔ At 20 67 [ab_nv a0, some (.int x), a2] st I J Q := A_istore_n (q := 1) (ab_io ci20 (by decide +kernel)) (Nat.le_of_ble_eq_true rfl) rfl
theorem k20_67 : At 20 67 [a0, some (.int x), a2] st I J Q ↔ At 20 68 [a0, some (.int x), a2] (.int x :: st) I J Q := A_iload_n (q := 1) (ab_io ci20 (by decide +kernel)) rfl
theorem k20_68 : At 20 68 ls st I J Q ↔ At 20 70 ls (.int (nI 12) :: st) I J Q := A_bipush (ab_io ci20 (by decide +kernel)) bc_12
theorem k20_70 : At 20 70 ls (.int x1 :: .int x :: st) I J Q ↔ if x1 ≤ x then At 20 110 ls st I J Q else At 20 73 ls st I J Q := A_if_icmp_ge (o := 40) (ab_io ci20 (by decide +kernel)) (by decide)
theorem k20_73 : At 20 73 [some (.ref r), a1, a2] st I J Q ↔ At 20 74 [some (.ref r), a1, a2] (.ref r :: st) I J Q := A_aload_n (q := 0) (ab_io ci20 (by decide +kernel)) rfl
theorem k20_74_5 : At 20 74 ls (.ref 5 :: st) I J Q ↔ At 20 77 ls (.ref 7 :: st) I J Q := A_getR (ab_io ci20 (by decide +kernel)) ow20 fq1_15_5
theorem k20_74_17 : At 20 74 ls (.ref 17 :: st) I J Q ↔ At 20 77 ls (.ref 19 :: st) I J Q := A_getR (ab_io ci20 (by decide +kernel)) ow20 fq1_15_17
theorem k20_77 : At 20 77 [a0, some (.int x), a2] st I J Q ↔ At 20 78 [a0, some (.int x), a2] (.int x :: st) I J Q := A_iload_n (q := 1) (ab_io ci20 (by decide +kernel)) rfl
theorem k20_78 : At 20 78 ls (.int x :: .ref r :: st) I J Q ↔ ((ab_ly r).1 = 1 ∧ r < 75 ∧ 0 ≤ x.toInt ∧ x.toInt < (ab_ly r).2) ∧ At 20 79 ls (.int (I r x.toNatClampNeg) :: st) I J Q := A_iaload (ab_io ci20 (by decide +kernel))
theorem k20_79 : At 20 79 ls [.int p0] I J Q ↔ Cal 124 [.int p0] I J (fun v I' J' => At 20 82 ls (v.toList ++ []) I' J' Q) := A_cal (kd := 1) (j := 93) (na := 1) (ea := 1) (rk := 0) (by decide +kernel) rfl rfl rfl (Or.inl rfl) (Nat.le_of_ble_eq_true rfl)
theorem k20_82 : At 20 82 [a0, a1, a2] (.int x :: st) I J Q ↔ At 20 83 [a0, ab_nv a1, some (.int x)] st I J Q := A_istore_n (q := 2) (ab_io ci20 (by decide +kernel)) (Nat.le_of_ble_eq_true rfl) rfl
theorem k20_83 : At 20 83 [some (.ref r), a1, a2] st I J Q ↔ At 20 84 [some (.ref r), a1, a2] (.ref r :: st) I J Q := A_aload_n (q := 0) (ab_io ci20 (by decide +kernel)) rfl
theorem k20_84_5 : At 20 84 ls (.ref 5 :: st) I J Q ↔ At 20 87 ls (.ref 11 :: st) I J Q := A_getR (ab_io ci20 (by decide +kernel)) ow20 fq1_28_5
theorem k20_84_17 : At 20 84 ls (.ref 17 :: st) I J Q ↔ At 20 87 ls (.ref 23 :: st) I J Q := A_getR (ab_io ci20 (by decide +kernel)) ow20 fq1_28_17
theorem k20_87 : At 20 87 [a0, some (.int x), a2] st I J Q ↔ At 20 88 [a0, some (.int x), a2] (.int x :: st) I J Q := A_iload_n (q := 1) (ab_io ci20 (by decide +kernel)) rfl
theorem k20_88 : At 20 88 [a0, a1, some (.int x)] st I J Q ↔ At 20 89 [a0, a1, some (.int x)] (.int x :: st) I J Q := A_iload_n (q := 2) (ab_io ci20 (by decide +kernel)) rfl
theorem k20_89 : At 20 89 ls st I J Q ↔ At 20 90 ls (.int (-1) :: st) I J Q := A_iconst (ab_io ci20 (by decide +kernel)) ic_m1
theorem k20_90 : At 20 90 ls (.int x1 :: .int x :: st) I J Q ↔ if ¬ x = x1 then At 20 97 ls st I J Q else At 20 93 ls st I J Q := A_if_icmp_ne (o := 7) (ab_io ci20 (by decide +kernel)) (by decide)
theorem k20_93 : At 20 93 ls st I J Q ↔ At 20 94 ls (.int (-1) :: st) I J Q := A_iconst (ab_io ci20 (by decide +kernel)) ic_m1
theorem k20_94 : At 20 94 ls st I J Q ↔ At 20 103 ls st I J Q := A_goto (o := 9) (ab_io ci20 (by decide +kernel)) (by decide)
theorem k20_97 : At 20 97 [some (.ref r), a1, a2] st I J Q ↔ At 20 98 [some (.ref r), a1, a2] (.ref r :: st) I J Q := A_aload_n (q := 0) (ab_io ci20 (by decide +kernel)) rfl
theorem k20_98_5 : At 20 98 ls (.ref 5 :: st) I J Q ↔ At 20 101 ls (.ref 10 :: st) I J Q := A_getR (ab_io ci20 (by decide +kernel)) ow20 fq1_25_5
theorem k20_98_17 : At 20 98 ls (.ref 17 :: st) I J Q ↔ At 20 101 ls (.ref 22 :: st) I J Q := A_getR (ab_io ci20 (by decide +kernel)) ow20 fq1_25_17
theorem k20_101 : At 20 101 [a0, a1, some (.int x)] st I J Q ↔ At 20 102 [a0, a1, some (.int x)] (.int x :: st) I J Q := A_iload_n (q := 2) (ab_io ci20 (by decide +kernel)) rfl
theorem k20_102 : At 20 102 ls (.int x :: .ref r :: st) I J Q ↔ ((ab_ly r).1 = 1 ∧ r < 75 ∧ 0 ≤ x.toInt ∧ x.toInt < (ab_ly r).2) ∧ At 20 103 ls (.int (I r x.toNatClampNeg) :: st) I J Q := A_iaload (ab_io ci20 (by decide +kernel))
theorem k20_103 : At 20 103 ls (.int x1 :: .int x :: .ref r :: st) I J Q ↔ ((ab_ly r).1 = 1 ∧ r < 75 ∧ 0 ≤ x.toInt ∧ x.toInt < (ab_ly r).2) ∧ At 20 104 ls st (va_up I r (va_up (I r) x.toNatClampNeg x1)) J Q := A_iastore (ab_io ci20 (by decide +kernel))
theorem k20_104 : At 20 104 [a0, some (.int x), a2] st I J Q ↔ At 20 107 [ab_nv a0, some (.int (x + (nI 1))), a2] st I J Q := A_iinc (q := 1) (ab_io ci20 (by decide +kernel)) ic_1 (Nat.le_of_ble_eq_true rfl) rfl rfl
theorem k20_107 : At 20 107 ls st I J Q ↔ At 20 67 ls st I J Q := A_goto (o := (-40)) (ab_io ci20 (by decide +kernel)) (by decide)
theorem k20_110 : At 20 110 ls [] I J Q ↔ Q none I J := A_vret (ab_io ci20 (by decide +kernel)) rt20
theorem k21_0 : At 21 0 ls st I J Q ↔ At 21 1 ls (.int (nI 0) :: st) I J Q := A_iconst (ab_io ci21 (by decide +kernel)) ic_0
theorem k21_1 : At 21 1 [a0, a1, a2, a3] (.int x :: st) I J Q ↔ At 21 2 [ab_nv a0, some (.int x), a2, a3] st I J Q := A_istore_n (q := 1) (ab_io ci21 (by decide +kernel)) (Nat.le_of_ble_eq_true rfl) rfl
theorem k21_2 : At 21 2 [a0, some (.int x), a2, a3] st I J Q ↔ At 21 3 [a0, some (.int x), a2, a3] (.int x :: st) I J Q := A_iload_n (q := 1) (ab_io ci21 (by decide +kernel)) rfl
theorem k21_3 : At 21 3 ls st I J Q ↔ At 21 4 ls (.int (nI 3) :: st) I J Q := A_iconst (ab_io ci21 (by decide +kernel)) ic_3
theorem k21_4 : At 21 4 ls (.int x1 :: .int x :: st) I J Q ↔ if x1 ≤ x then At 21 56 ls st I J Q else At 21 7 ls st I J Q := A_if_icmp_ge (o := 52) (ab_io ci21 (by decide +kernel)) (by decide)
theorem k21_7 : At 21 7 ls st I J Q ↔ At 21 8 ls (.int (nI 0) :: st) I J Q := A_iconst (ab_io ci21 (by decide +kernel)) ic_0
theorem k21_8 : At 21 8 [a0, a1, a2, a3] (.int x :: st) I J Q ↔ At 21 9 [a0, ab_nv a1, some (.int x), a3] st I J Q := A_istore_n (q := 2) (ab_io ci21 (by decide +kernel)) (Nat.le_of_ble_eq_true rfl) rfl
theorem k21_9 : At 21 9 [a0, a1, some (.int x), a3] st I J Q ↔ At 21 10 [a0, a1, some (.int x), a3] (.int x :: st) I J Q := A_iload_n (q := 2) (ab_io ci21 (by decide +kernel)) rfl
theorem k21_10 : At 21 10 ls st I J Q ↔ At 21 11 ls (.int (nI 3) :: st) I J Q := A_iconst (ab_io ci21 (by decide +kernel)) ic_3
theorem k21_11 : At 21 11 ls (.int x1 :: .int x :: st) I J Q ↔ if x1 ≤ x then At 21 50 ls st I J Q else At 21 14 ls st I J Q := A_if_icmp_ge (o := 39) (ab_io ci21 (by decide +kernel)) (by decide)
theorem k21_14 : At 21 14 [some (.ref r), a1, a2, a3] st I J Q ↔ At 21 15 [some (.ref r), a1, a2, a3] (.ref r :: st) I J Q := A_aload_n (q := 0) (ab_io ci21 (by decide +kernel)) rfl
theorem k21_15_5 : At 21 15 ls (.ref 5 :: st) I J Q ↔ At 21 18 ls (.ref 12 :: st) I J Q := A_getR (ab_io ci21 (by decide +kernel)) ow21 fq1_31_5
theorem k21_15_17 : At 21 15 ls (.ref 17 :: st) I J Q ↔ At 21 18 ls (.ref 24 :: st) I J Q := A_getR (ab_io ci21 (by decide +kernel)) ow21 fq1_31_17
theorem k21_18 : At 21 18 ls st I J Q ↔ At 21 19 ls (.int (nI 3) :: st) I J Q := A_iconst (ab_io ci21 (by decide +kernel)) ic_3
theorem k21_19 : At 21 19 [a0, some (.int x), a2, a3] st I J Q ↔ At 21 20 [a0, some (.int x), a2, a3] (.int x :: st) I J Q := A_iload_n (q := 1) (ab_io ci21 (by decide +kernel)) rfl
theorem k21_20 : At 21 20 ls (.int x1 :: .int x :: st) I J Q ↔ At 21 21 ls (.int (x * x1) :: st) I J Q := A_imul (ab_io ci21 (by decide +kernel))
theorem k21_21 : At 21 21 [a0, a1, some (.int x), a3] st I J Q ↔ At 21 22 [a0, a1, some (.int x), a3] (.int x :: st) I J Q := A_iload_n (q := 2) (ab_io ci21 (by decide +kernel)) rfl
theorem k21_22 : At 21 22 ls (.int x1 :: .int x :: st) I J Q ↔ At 21 23 ls (.int (x + x1) :: st) I J Q := A_iadd (ab_io ci21 (by decide +kernel))
theorem k21_23 : At 21 23 [a0, some (.int x), a2, a3] st I J Q ↔ At 21 24 [a0, some (.int x), a2, a3] (.int x :: st) I J Q := A_iload_n (q := 1) (ab_io ci21 (by decide +kernel)) rfl
theorem k21_24 : At 21 24 [a0, a1, some (.int x), a3] st I J Q ↔ At 21 25 [a0, a1, some (.int x), a3] (.int x :: st) I J Q := A_iload_n (q := 2) (ab_io ci21 (by decide +kernel)) rfl
theorem k21_25 : At 21 25 ls (.int x1 :: .int x :: st) I J Q ↔ if ¬ x = x1 then At 21 42 ls st I J Q else At 21 28 ls st I J Q := A_if_icmp_ne (o := 17) (ab_io ci21 (by decide +kernel)) (by decide)
theorem k21_28 : At 21 28 [some (.ref r), a1, a2, a3] st I J Q ↔ At 21 29 [some (.ref r), a1, a2, a3] (.ref r :: st) I J Q := A_aload_n (q := 0) (ab_io ci21 (by decide +kernel)) rfl
theorem k21_29 : At 21 29 [a0, some (.int x), a2, a3] st I J Q ↔ At 21 30 [a0, some (.int x), a2, a3] (.int x :: st) I J Q := A_iload_n (q := 1) (ab_io ci21 (by decide +kernel)) rfl
theorem k21_30 : At 21 30 ls st I J Q ↔ At 21 31 ls (.int (nI 1) :: st) I J Q := A_iconst (ab_io ci21 (by decide +kernel)) ic_1
theorem k21_31 : At 21 31 ls (.int x1 :: .int x :: st) I J Q ↔ At 21 32 ls (.int (x + x1) :: st) I J Q := A_iadd (ab_io ci21 (by decide +kernel))
theorem k21_32_5 : At 21 32 ls [.int p0, .ref 5, .int q0, .ref qr1] I J Q ↔ Cal 22 [.ref 5, .int p0] I J (fun v I' J' => At 21 35 ls (v.toList ++ [.int q0, .ref qr1]) I' J' Q) := A_cal (kd := 0) (j := 96) (na := 2) (ea := 2) (rk := 5) (by decide +kernel) rfl rfl rfl (Or.inr rfl) (Nat.le_of_ble_eq_true rfl)
theorem k21_32_17 : At 21 32 ls [.int p0, .ref 17, .int q0, .ref qr1] I J Q ↔ Cal 22 [.ref 17, .int p0] I J (fun v I' J' => At 21 35 ls (v.toList ++ [.int q0, .ref qr1]) I' J' Q) := A_cal (kd := 0) (j := 96) (na := 2) (ea := 2) (rk := 17) (by decide +kernel) rfl rfl rfl (Or.inr rfl) (Nat.le_of_ble_eq_true rfl)
theorem k21_35 : At 21 35 ls (.int x :: st) I J Q ↔ if ¬ x = 0 then At 21 42 ls st I J Q else At 21 38 ls st I J Q := A_ifCond_ne (o := 7) (ab_io ci21 (by decide +kernel)) (by decide)
theorem k21_38 : At 21 38 ls st I J Q ↔ At 21 39 ls (.long 1 :: st) I J Q := A_lconst (n := 1) (ab_io ci21 (by decide +kernel)) rfl
theorem k21_39 : At 21 39 ls st I J Q ↔ At 21 43 ls st I J Q := A_goto (o := 4) (ab_io ci21 (by decide +kernel)) (by decide)
theorem k21_42 : At 21 42 ls st I J Q ↔ At 21 43 ls (.long 0 :: st) I J Q := A_lconst (n := 0) (ab_io ci21 (by decide +kernel)) rfl
theorem k21_43 : At 21 43 ls (.long u :: .int x :: .ref r :: st) I J Q ↔ ((ab_ly r).1 = 2 ∧ r < 75 ∧ 0 ≤ x.toInt ∧ x.toInt < (ab_ly r).2) ∧ At 21 44 ls st I (va_up J r (va_up (J r) x.toNatClampNeg u)) Q := A_lastore (ab_io ci21 (by decide +kernel))
theorem k21_44 : At 21 44 [a0, a1, some (.int x), a3] st I J Q ↔ At 21 47 [a0, ab_nv a1, some (.int (x + (nI 1))), a3] st I J Q := A_iinc (q := 2) (ab_io ci21 (by decide +kernel)) ic_1 (Nat.le_of_ble_eq_true rfl) rfl rfl
theorem k21_47 : At 21 47 ls st I J Q ↔ At 21 9 ls st I J Q := A_goto (o := (-38)) (ab_io ci21 (by decide +kernel)) (by decide)
theorem k21_50 : At 21 50 [a0, some (.int x), a2, a3] st I J Q ↔ At 21 53 [ab_nv a0, some (.int (x + (nI 1))), a2, a3] st I J Q := A_iinc (q := 1) (ab_io ci21 (by decide +kernel)) ic_1 (Nat.le_of_ble_eq_true rfl) rfl rfl
theorem k21_53 : At 21 53 ls st I J Q ↔ At 21 2 ls st I J Q := A_goto (o := (-51)) (ab_io ci21 (by decide +kernel)) (by decide)
theorem k21_56 : At 21 56 ls st I J Q ↔ At 21 57 ls (.int (nI 0) :: st) I J Q := A_iconst (ab_io ci21 (by decide +kernel)) ic_0
theorem k21_57 : At 21 57 [a0, a1, a2, a3] (.int x :: st) I J Q ↔ At 21 58 [ab_nv a0, some (.int x), a2, a3] st I J Q := A_istore_n (q := 1) (ab_io ci21 (by decide +kernel)) (Nat.le_of_ble_eq_true rfl) rfl
theorem k21_58 : At 21 58 [a0, some (.int x), a2, a3] st I J Q ↔ At 21 59 [a0, some (.int x), a2, a3] (.int x :: st) I J Q := A_iload_n (q := 1) (ab_io ci21 (by decide +kernel)) rfl
theorem k21_59 : At 21 59 ls st I J Q ↔ At 21 61 ls (.int (nI 12) :: st) I J Q := A_bipush (ab_io ci21 (by decide +kernel)) bc_12
theorem k21_61 : At 21 61 ls (.int x1 :: .int x :: st) I J Q ↔ if x1 ≤ x then At 21 140 ls st I J Q else At 21 64 ls st I J Q := A_if_icmp_ge (o := 79) (ab_io ci21 (by decide +kernel)) (by decide)
theorem k21_64 : At 21 64 ls st I J Q ↔ At 21 65 ls (.int (nI 0) :: st) I J Q := A_iconst (ab_io ci21 (by decide +kernel)) ic_0
theorem k21_65 : At 21 65 [a0, a1, a2, a3] (.int x :: st) I J Q ↔ At 21 66 [a0, ab_nv a1, some (.int x), a3] st I J Q := A_istore_n (q := 2) (ab_io ci21 (by decide +kernel)) (Nat.le_of_ble_eq_true rfl) rfl
theorem k21_66 : At 21 66 [a0, a1, some (.int x), a3] st I J Q ↔ At 21 67 [a0, a1, some (.int x), a3] (.int x :: st) I J Q := A_iload_n (q := 2) (ab_io ci21 (by decide +kernel)) rfl
theorem k21_67 : At 21 67 ls st I J Q ↔ At 21 68 ls (.int (nI 3) :: st) I J Q := A_iconst (ab_io ci21 (by decide +kernel)) ic_3
theorem k21_68 : At 21 68 ls (.int x1 :: .int x :: st) I J Q ↔ if x1 ≤ x then At 21 134 ls st I J Q else At 21 71 ls st I J Q := A_if_icmp_ge (o := 66) (ab_io ci21 (by decide +kernel)) (by decide)
theorem k21_71 : At 21 71 [some (.ref r), a1, a2, a3] st I J Q ↔ At 21 72 [some (.ref r), a1, a2, a3] (.ref r :: st) I J Q := A_aload_n (q := 0) (ab_io ci21 (by decide +kernel)) rfl
theorem k21_72 : At 21 72 [a0, some (.int x), a2, a3] st I J Q ↔ At 21 73 [a0, some (.int x), a2, a3] (.int x :: st) I J Q := A_iload_n (q := 1) (ab_io ci21 (by decide +kernel)) rfl
theorem k21_73 : At 21 73 [a0, a1, some (.int x), a3] st I J Q ↔ At 21 74 [a0, a1, some (.int x), a3] (.int x :: st) I J Q := A_iload_n (q := 2) (ab_io ci21 (by decide +kernel)) rfl
theorem k21_74_5 : At 21 74 ls [.int p0, .int p1, .ref 5] I J Q ↔ Cal 24 [.ref 5, .int p1, .int p0] I J (fun v I' J' => At 21 77 ls (v.toList ++ []) I' J' Q) := A_cal (kd := 0) (j := 100) (na := 3) (ea := 3) (rk := 5) (by decide +kernel) rfl rfl rfl (Or.inr rfl) (Nat.le_of_ble_eq_true rfl)
theorem k21_74_17 : At 21 74 ls [.int p0, .int p1, .ref 17] I J Q ↔ Cal 24 [.ref 17, .int p1, .int p0] I J (fun v I' J' => At 21 77 ls (v.toList ++ []) I' J' Q) := A_cal (kd := 0) (j := 100) (na := 3) (ea := 3) (rk := 17) (by decide +kernel) rfl rfl rfl (Or.inr rfl) (Nat.le_of_ble_eq_true rfl)
theorem k21_77 : At 21 77 ls (.int x :: st) I J Q ↔ if x = 0 then At 21 128 ls st I J Q else At 21 80 ls st I J Q := A_ifCond_eq (o := 51) (ab_io ci21 (by decide +kernel)) (by decide)
theorem k21_80 : At 21 80 [some (.ref r), a1, a2, a3] st I J Q ↔ At 21 81 [some (.ref r), a1, a2, a3] (.ref r :: st) I J Q := A_aload_n (q := 0) (ab_io ci21 (by decide +kernel)) rfl
theorem k21_81_5 : At 21 81 ls (.ref 5 :: st) I J Q ↔ At 21 84 ls (.ref 12 :: st) I J Q := A_getR (ab_io ci21 (by decide +kernel)) ow21 fq1_31_5
theorem k21_81_17 : At 21 81 ls (.ref 17 :: st) I J Q ↔ At 21 84 ls (.ref 24 :: st) I J Q := A_getR (ab_io ci21 (by decide +kernel)) ow21 fq1_31_17
theorem k21_84 : At 21 84 ls st I J Q ↔ At 21 85 ls (.int (nI 3) :: st) I J Q := A_iconst (ab_io ci21 (by decide +kernel)) ic_3
theorem k21_85 : At 21 85 [a0, a1, some (.int x), a3] st I J Q ↔ At 21 86 [a0, a1, some (.int x), a3] (.int x :: st) I J Q := A_iload_n (q := 2) (ab_io ci21 (by decide +kernel)) rfl
theorem k21_86 : At 21 86 ls (.int x1 :: .int x :: st) I J Q ↔ At 21 87 ls (.int (x * x1) :: st) I J Q := A_imul (ab_io ci21 (by decide +kernel))
theorem k21_87 : At 21 87 [a0, a1, some (.int x), a3] st I J Q ↔ At 21 88 [a0, a1, some (.int x), a3] (.int x :: st) I J Q := A_iload_n (q := 2) (ab_io ci21 (by decide +kernel)) rfl
theorem k21_88 : At 21 88 ls (.int x1 :: .int x :: st) I J Q ↔ At 21 89 ls (.int (x + x1) :: st) I J Q := A_iadd (ab_io ci21 (by decide +kernel))
theorem k21_89 : At 21 89 ls (.int x :: .ref r :: st) I J Q ↔ At 21 90 ls (.int x :: .ref r :: .int x :: .ref r :: st) I J Q := A_dup2 (ab_io ci21 (by decide +kernel))
theorem k21_90 : At 21 90 ls (.int x :: .ref r :: st) I J Q ↔ ((ab_ly r).1 = 2 ∧ r < 75 ∧ 0 ≤ x.toInt ∧ x.toInt < (ab_ly r).2) ∧ At 21 91 ls (.long (J r x.toNatClampNeg) :: st) I J Q := A_laload (ab_io ci21 (by decide +kernel))
theorem k21_91 : At 21 91 ls st I J Q ↔ At 21 94 ls (.long 12 :: st) I J Q := A_ldc2_w (j := 67) (q := 443) (ab_io ci21 (by decide +kernel)) ow21 (by decide +kernel)
theorem k21_94 : At 21 94 ls (.long u1 :: .long u :: st) I J Q ↔ At 21 95 ls (.long (u + u1) :: st) I J Q := A_ladd (ab_io ci21 (by decide +kernel))
theorem k21_95 : At 21 95 ls (.long u :: .int x :: .ref r :: st) I J Q ↔ ((ab_ly r).1 = 2 ∧ r < 75 ∧ 0 ≤ x.toInt ∧ x.toInt < (ab_ly r).2) ∧ At 21 96 ls st I (va_up J r (va_up (J r) x.toNatClampNeg u)) Q := A_lastore (ab_io ci21 (by decide +kernel))
theorem k21_96 : At 21 96 ls st I J Q ↔ At 21 97 ls (.int (nI 0) :: st) I J Q := A_iconst (ab_io ci21 (by decide +kernel)) ic_0
theorem k21_97 : At 21 97 [a0, a1, a2, a3] (.int x :: st) I J Q ↔ At 21 98 [a0, a1, ab_nv a2, some (.int x)] st I J Q := A_istore_n (q := 3) (ab_io ci21 (by decide +kernel)) (Nat.le_of_ble_eq_true rfl) rfl
theorem k21_98 : At 21 98 [a0, a1, a2, some (.int x)] st I J Q ↔ At 21 99 [a0, a1, a2, some (.int x)] (.int x :: st) I J Q := A_iload_n (q := 3) (ab_io ci21 (by decide +kernel)) rfl
theorem k21_99 : At 21 99 ls st I J Q ↔ At 21 100 ls (.int (nI 3) :: st) I J Q := A_iconst (ab_io ci21 (by decide +kernel)) ic_3
theorem k21_100 : At 21 100 ls (.int x1 :: .int x :: st) I J Q ↔ if x1 ≤ x then At 21 128 ls st I J Q else At 21 103 ls st I J Q := A_if_icmp_ge (o := 28) (ab_io ci21 (by decide +kernel)) (by decide)
theorem k21_103 : At 21 103 [some (.ref r), a1, a2, a3] st I J Q ↔ At 21 104 [some (.ref r), a1, a2, a3] (.ref r :: st) I J Q := A_aload_n (q := 0) (ab_io ci21 (by decide +kernel)) rfl
theorem k21_104_5 : At 21 104 ls (.ref 5 :: st) I J Q ↔ At 21 107 ls (.ref 12 :: st) I J Q := A_getR (ab_io ci21 (by decide +kernel)) ow21 fq1_31_5
theorem k21_104_17 : At 21 104 ls (.ref 17 :: st) I J Q ↔ At 21 107 ls (.ref 24 :: st) I J Q := A_getR (ab_io ci21 (by decide +kernel)) ow21 fq1_31_17
theorem k21_107 : At 21 107 ls st I J Q ↔ At 21 108 ls (.int (nI 3) :: st) I J Q := A_iconst (ab_io ci21 (by decide +kernel)) ic_3
theorem k21_108 : At 21 108 [a0, a1, some (.int x), a3] st I J Q ↔ At 21 109 [a0, a1, some (.int x), a3] (.int x :: st) I J Q := A_iload_n (q := 2) (ab_io ci21 (by decide +kernel)) rfl
theorem k21_109 : At 21 109 ls (.int x1 :: .int x :: st) I J Q ↔ At 21 110 ls (.int (x * x1) :: st) I J Q := A_imul (ab_io ci21 (by decide +kernel))
theorem k21_110 : At 21 110 [a0, a1, a2, some (.int x)] st I J Q ↔ At 21 111 [a0, a1, a2, some (.int x)] (.int x :: st) I J Q := A_iload_n (q := 3) (ab_io ci21 (by decide +kernel)) rfl
theorem k21_111 : At 21 111 ls (.int x1 :: .int x :: st) I J Q ↔ At 21 112 ls (.int (x + x1) :: st) I J Q := A_iadd (ab_io ci21 (by decide +kernel))
theorem k21_112 : At 21 112 ls (.int x :: .ref r :: st) I J Q ↔ At 21 113 ls (.int x :: .ref r :: .int x :: .ref r :: st) I J Q := A_dup2 (ab_io ci21 (by decide +kernel))
theorem k21_113 : At 21 113 ls (.int x :: .ref r :: st) I J Q ↔ ((ab_ly r).1 = 2 ∧ r < 75 ∧ 0 ≤ x.toInt ∧ x.toInt < (ab_ly r).2) ∧ At 21 114 ls (.long (J r x.toNatClampNeg) :: st) I J Q := A_laload (ab_io ci21 (by decide +kernel))
theorem k21_114 : At 21 114 [some (.ref r), a1, a2, a3] st I J Q ↔ At 21 115 [some (.ref r), a1, a2, a3] (.ref r :: st) I J Q := A_aload_n (q := 0) (ab_io ci21 (by decide +kernel)) rfl
theorem k21_115 : At 21 115 [a0, some (.int x), a2, a3] st I J Q ↔ At 21 116 [a0, some (.int x), a2, a3] (.int x :: st) I J Q := A_iload_n (q := 1) (ab_io ci21 (by decide +kernel)) rfl
theorem k21_116 : At 21 116 [a0, a1, a2, some (.int x)] st I J Q ↔ At 21 117 [a0, a1, a2, some (.int x)] (.int x :: st) I J Q := A_iload_n (q := 3) (ab_io ci21 (by decide +kernel)) rfl
theorem k21_117_5 : At 21 117 ls [.int p0, .int p1, .ref 5, .long qu0, .int q1, .ref qr2] I J Q ↔ Cal 23 [.ref 5, .int p1, .int p0] I J (fun v I' J' => At 21 120 ls (v.toList ++ [.long qu0, .int q1, .ref qr2]) I' J' Q) := A_cal (kd := 0) (j := 104) (na := 3) (ea := 3) (rk := 5) (by decide +kernel) rfl rfl rfl (Or.inr rfl) (Nat.le_of_ble_eq_true rfl)
theorem k21_117_17 : At 21 117 ls [.int p0, .int p1, .ref 17, .long qu0, .int q1, .ref qr2] I J Q ↔ Cal 23 [.ref 17, .int p1, .int p0] I J (fun v I' J' => At 21 120 ls (v.toList ++ [.long qu0, .int q1, .ref qr2]) I' J' Q) := A_cal (kd := 0) (j := 104) (na := 3) (ea := 3) (rk := 17) (by decide +kernel) rfl rfl rfl (Or.inr rfl) (Nat.le_of_ble_eq_true rfl)
theorem k21_120 : At 21 120 ls (.long u1 :: .long u :: st) I J Q ↔ At 21 121 ls (.long (u - u1) :: st) I J Q := A_lsub (ab_io ci21 (by decide +kernel))
theorem k21_121 : At 21 121 ls (.long u :: .int x :: .ref r :: st) I J Q ↔ ((ab_ly r).1 = 2 ∧ r < 75 ∧ 0 ≤ x.toInt ∧ x.toInt < (ab_ly r).2) ∧ At 21 122 ls st I (va_up J r (va_up (J r) x.toNatClampNeg u)) Q := A_lastore (ab_io ci21 (by decide +kernel))
theorem k21_122 : At 21 122 [a0, a1, a2, some (.int x)] st I J Q ↔ At 21 125 [a0, a1, ab_nv a2, some (.int (x + (nI 1)))] st I J Q := A_iinc (q := 3) (ab_io ci21 (by decide +kernel)) ic_1 (Nat.le_of_ble_eq_true rfl) rfl rfl
theorem k21_125 : At 21 125 ls st I J Q ↔ At 21 98 ls st I J Q := A_goto (o := (-27)) (ab_io ci21 (by decide +kernel)) (by decide)
theorem k21_128 : At 21 128 [a0, a1, some (.int x), a3] st I J Q ↔ At 21 131 [a0, ab_nv a1, some (.int (x + (nI 1))), a3] st I J Q := A_iinc (q := 2) (ab_io ci21 (by decide +kernel)) ic_1 (Nat.le_of_ble_eq_true rfl) rfl rfl
theorem k21_131 : At 21 131 ls st I J Q ↔ At 21 66 ls st I J Q := A_goto (o := (-65)) (ab_io ci21 (by decide +kernel)) (by decide)
theorem k21_134 : At 21 134 [a0, some (.int x), a2, a3] st I J Q ↔ At 21 137 [ab_nv a0, some (.int (x + (nI 1))), a2, a3] st I J Q := A_iinc (q := 1) (ab_io ci21 (by decide +kernel)) ic_1 (Nat.le_of_ble_eq_true rfl) rfl rfl
theorem k21_137 : At 21 137 ls st I J Q ↔ At 21 58 ls st I J Q := A_goto (o := (-79)) (ab_io ci21 (by decide +kernel)) (by decide)
theorem k21_140 : At 21 140 ls [] I J Q ↔ Q none I J := A_vret (ab_io ci21 (by decide +kernel)) rt21
theorem k22_0 : At 22 0 [some (.ref r), a1] st I J Q ↔ At 22 1 [some (.ref r), a1] (.ref r :: st) I J Q := A_aload_n (q := 0) (ab_io ci22 (by decide +kernel)) rfl
theorem k22_1_5 : At 22 1 ls (.ref 5 :: st) I J Q ↔ At 22 4 ls (.int (I 5 12) :: st) I J Q := A_getI (ab_io ci22 (by decide +kernel)) ow22 fq1_50_5
theorem k22_1_17 : At 22 1 ls (.ref 17 :: st) I J Q ↔ At 22 4 ls (.int (I 17 12) :: st) I J Q := A_getI (ab_io ci22 (by decide +kernel)) ow22 fq1_50_17
theorem k22_4 : At 22 4 [a0, some (.int x)] st I J Q ↔ At 22 5 [a0, some (.int x)] (.int x :: st) I J Q := A_iload_n (q := 1) (ab_io ci22 (by decide +kernel)) rfl
theorem k22_5 : At 22 5 ls (.int x1 :: .int x :: st) I J Q ↔ At 22 6 ls (.int (x >>> (x1 &&& 31)) :: st) I J Q := A_ishr (ab_io ci22 (by decide +kernel))
theorem k22_6 : At 22 6 ls st I J Q ↔ At 22 7 ls (.int (nI 1) :: st) I J Q := A_iconst (ab_io ci22 (by decide +kernel)) ic_1
theorem k22_7 : At 22 7 ls (.int x1 :: .int x :: st) I J Q ↔ At 22 8 ls (.int (x &&& x1) :: st) I J Q := A_iand (ab_io ci22 (by decide +kernel))
theorem k22_8 : At 22 8 ls (.int x :: st) I J Q ↔ if x = 0 then At 22 15 ls st I J Q else At 22 11 ls st I J Q := A_ifCond_eq (o := 7) (ab_io ci22 (by decide +kernel)) (by decide)
theorem k22_11 : At 22 11 ls st I J Q ↔ At 22 12 ls (.int (nI 1) :: st) I J Q := A_iconst (ab_io ci22 (by decide +kernel)) ic_1
theorem k22_12 : At 22 12 ls st I J Q ↔ At 22 16 ls st I J Q := A_goto (o := 4) (ab_io ci22 (by decide +kernel)) (by decide)
theorem k22_15 : At 22 15 ls st I J Q ↔ At 22 16 ls (.int (nI 0) :: st) I J Q := A_iconst (ab_io ci22 (by decide +kernel)) ic_0
theorem k22_16 : At 22 16 ls [.int x] I J Q ↔ (x = 0 ∨ x = 1) ∧ Q (some (.int x)) I J := A_zret (ab_io ci22 (by decide +kernel)) rt22
theorem k23_0 : At 23 0 [some (.ref r), a1, a2] st I J Q ↔ At 23 1 [some (.ref r), a1, a2] (.ref r :: st) I J Q := A_aload_n (q := 0) (ab_io ci23 (by decide +kernel)) rfl
theorem k23_1 : At 23 1 [a0, some (.int x), a2] st I J Q ↔ At 23 2 [a0, some (.int x), a2] (.int x :: st) I J Q := A_iload_n (q := 1) (ab_io ci23 (by decide +kernel)) rfl
theorem k23_2 : At 23 2 [a0, a1, some (.int x)] st I J Q ↔ At 23 3 [a0, a1, some (.int x)] (.int x :: st) I J Q := A_iload_n (q := 2) (ab_io ci23 (by decide +kernel)) rfl
theorem k23_3_5 : At 23 3 ls [.int p0, .int p1, .ref 5] I J Q ↔ Cal 24 [.ref 5, .int p1, .int p0] I J (fun v I' J' => At 23 6 ls (v.toList ++ []) I' J' Q) := A_cal (kd := 0) (j := 100) (na := 3) (ea := 3) (rk := 5) (by decide +kernel) rfl rfl rfl (Or.inr rfl) (Nat.le_of_ble_eq_true rfl)
theorem k23_3_17 : At 23 3 ls [.int p0, .int p1, .ref 17] I J Q ↔ Cal 24 [.ref 17, .int p1, .int p0] I J (fun v I' J' => At 23 6 ls (v.toList ++ []) I' J' Q) := A_cal (kd := 0) (j := 100) (na := 3) (ea := 3) (rk := 17) (by decide +kernel) rfl rfl rfl (Or.inr rfl) (Nat.le_of_ble_eq_true rfl)
theorem k23_6 : At 23 6 ls (.int x :: st) I J Q ↔ if x = 0 then At 23 18 ls st I J Q else At 23 9 ls st I J Q := A_ifCond_eq (o := 12) (ab_io ci23 (by decide +kernel)) (by decide)
theorem k23_9 : At 23 9 [some (.ref r), a1, a2] st I J Q ↔ At 23 10 [some (.ref r), a1, a2] (.ref r :: st) I J Q := A_aload_n (q := 0) (ab_io ci23 (by decide +kernel)) rfl
theorem k23_10_5 : At 23 10 ls (.ref 5 :: st) I J Q ↔ At 23 13 ls (.ref 8 :: st) I J Q := A_getR (ab_io ci23 (by decide +kernel)) ow23 fq1_18_5
theorem k23_10_17 : At 23 10 ls (.ref 17 :: st) I J Q ↔ At 23 13 ls (.ref 20 :: st) I J Q := A_getR (ab_io ci23 (by decide +kernel)) ow23 fq1_18_17
theorem k23_13 : At 23 13 [a0, some (.int x), a2] st I J Q ↔ At 23 14 [a0, some (.int x), a2] (.int x :: st) I J Q := A_iload_n (q := 1) (ab_io ci23 (by decide +kernel)) rfl
theorem k23_14 : At 23 14 ls (.int x :: .ref r :: st) I J Q ↔ ((ab_ly r).1 = 2 ∧ r < 75 ∧ 0 ≤ x.toInt ∧ x.toInt < (ab_ly r).2) ∧ At 23 15 ls (.long (J r x.toNatClampNeg) :: st) I J Q := A_laload (ab_io ci23 (by decide +kernel))
theorem k23_15 : At 23 15 ls st I J Q ↔ At 23 19 ls st I J Q := A_goto (o := 4) (ab_io ci23 (by decide +kernel)) (by decide)
theorem k23_18 : At 23 18 ls st I J Q ↔ At 23 19 ls (.long 0 :: st) I J Q := A_lconst (n := 0) (ab_io ci23 (by decide +kernel)) rfl
theorem k23_19 : At 23 19 ls [.long u] I J Q ↔ Q (some (.long u)) I J := A_lret (ab_io ci23 (by decide +kernel)) rt23
theorem k24_0 : At 24 0 [some (.ref r), a1, a2] st I J Q ↔ At 24 1 [some (.ref r), a1, a2] (.ref r :: st) I J Q := A_aload_n (q := 0) (ab_io ci24 (by decide +kernel)) rfl
theorem k24_1_5 : At 24 1 ls (.ref 5 :: st) I J Q ↔ At 24 4 ls (.ref 7 :: st) I J Q := A_getR (ab_io ci24 (by decide +kernel)) ow24 fq1_15_5
theorem k24_1_17 : At 24 1 ls (.ref 17 :: st) I J Q ↔ At 24 4 ls (.ref 19 :: st) I J Q := A_getR (ab_io ci24 (by decide +kernel)) ow24 fq1_15_17
theorem k24_4 : At 24 4 [a0, some (.int x), a2] st I J Q ↔ At 24 5 [a0, some (.int x), a2] (.int x :: st) I J Q := A_iload_n (q := 1) (ab_io ci24 (by decide +kernel)) rfl
theorem k24_5 : At 24 5 ls (.int x :: .ref r :: st) I J Q ↔ ((ab_ly r).1 = 1 ∧ r < 75 ∧ 0 ≤ x.toInt ∧ x.toInt < (ab_ly r).2) ∧ At 24 6 ls (.int (I r x.toNatClampNeg) :: st) I J Q := A_iaload (ab_io ci24 (by decide +kernel))
theorem k24_6 : At 24 6 [some (.ref r), a1, a2] st I J Q ↔ At 24 7 [some (.ref r), a1, a2] (.ref r :: st) I J Q := A_aload_n (q := 0) (ab_io ci24 (by decide +kernel)) rfl
theorem k24_7_5 : At 24 7 ls (.ref 5 :: st) I J Q ↔ At 24 10 ls (.int (I 5 12) :: st) I J Q := A_getI (ab_io ci24 (by decide +kernel)) ow24 fq1_50_5
theorem k24_7_17 : At 24 7 ls (.ref 17 :: st) I J Q ↔ At 24 10 ls (.int (I 17 12) :: st) I J Q := A_getI (ab_io ci24 (by decide +kernel)) ow24 fq1_50_17
theorem k24_10 : At 24 10 ls (.int x1 :: .int x :: st) I J Q ↔ At 24 11 ls (.int (x &&& x1) :: st) I J Q := A_iand (ab_io ci24 (by decide +kernel))
theorem k24_11 : At 24 11 ls st I J Q ↔ At 24 12 ls (.int (nI 2) :: st) I J Q := A_iconst (ab_io ci24 (by decide +kernel)) ic_2
theorem k24_12 : At 24 12 [a0, a1, some (.int x)] st I J Q ↔ At 24 13 [a0, a1, some (.int x)] (.int x :: st) I J Q := A_iload_n (q := 2) (ab_io ci24 (by decide +kernel)) rfl
theorem k24_13 : At 24 13 ls (.int x1 :: .int x :: st) I J Q ↔ At 24 14 ls (.int (x <<< (x1 &&& 31)) :: st) I J Q := A_ishl (ab_io ci24 (by decide +kernel))
theorem k24_14 : At 24 14 ls (.int x1 :: .int x :: st) I J Q ↔ At 24 15 ls (.int (x &&& x1) :: st) I J Q := A_iand (ab_io ci24 (by decide +kernel))
theorem k24_15 : At 24 15 ls (.int x :: st) I J Q ↔ if x = 0 then At 24 22 ls st I J Q else At 24 18 ls st I J Q := A_ifCond_eq (o := 7) (ab_io ci24 (by decide +kernel)) (by decide)
theorem k24_18 : At 24 18 ls st I J Q ↔ At 24 19 ls (.int (nI 1) :: st) I J Q := A_iconst (ab_io ci24 (by decide +kernel)) ic_1
theorem k24_19 : At 24 19 ls st I J Q ↔ At 24 23 ls st I J Q := A_goto (o := 4) (ab_io ci24 (by decide +kernel)) (by decide)
theorem k24_22 : At 24 22 ls st I J Q ↔ At 24 23 ls (.int (nI 0) :: st) I J Q := A_iconst (ab_io ci24 (by decide +kernel)) ic_0
theorem k24_23 : At 24 23 ls [.int x] I J Q ↔ (x = 0 ∨ x = 1) ∧ Q (some (.int x)) I J := A_zret (ab_io ci24 (by decide +kernel)) rt24
theorem k25_0 : At 25 0 ls st I J Q ↔ At 25 1 ls (.int (nI 0) :: st) I J Q := A_iconst (ab_io ci25 (by decide +kernel)) ic_0
theorem k25_1 : At 25 1 [a0, a1, a2] (.int x :: st) I J Q ↔ At 25 2 [ab_nv a0, some (.int x), a2] st I J Q := A_istore_n (q := 1) (ab_io ci25 (by decide +kernel)) (Nat.le_of_ble_eq_true rfl) rfl
theorem k25_2 : At 25 2 [a0, some (.int x), a2] st I J Q ↔ At 25 3 [a0, some (.int x), a2] (.int x :: st) I J Q := A_iload_n (q := 1) (ab_io ci25 (by decide +kernel)) rfl
theorem k25_3 : At 25 3 ls st I J Q ↔ At 25 4 ls (.int (nI 3) :: st) I J Q := A_iconst (ab_io ci25 (by decide +kernel)) ic_3
theorem k25_4 : At 25 4 ls (.int x1 :: .int x :: st) I J Q ↔ if x1 ≤ x then At 25 42 ls st I J Q else At 25 7 ls st I J Q := A_if_icmp_ge (o := 38) (ab_io ci25 (by decide +kernel)) (by decide)
theorem k25_7 : At 25 7 ls st I J Q ↔ At 25 8 ls (.int (nI 0) :: st) I J Q := A_iconst (ab_io ci25 (by decide +kernel)) ic_0
theorem k25_8 : At 25 8 [a0, a1, a2] (.int x :: st) I J Q ↔ At 25 9 [a0, ab_nv a1, some (.int x)] st I J Q := A_istore_n (q := 2) (ab_io ci25 (by decide +kernel)) (Nat.le_of_ble_eq_true rfl) rfl
theorem k25_9 : At 25 9 [a0, a1, some (.int x)] st I J Q ↔ At 25 10 [a0, a1, some (.int x)] (.int x :: st) I J Q := A_iload_n (q := 2) (ab_io ci25 (by decide +kernel)) rfl
theorem k25_10 : At 25 10 ls st I J Q ↔ At 25 11 ls (.int (nI 3) :: st) I J Q := A_iconst (ab_io ci25 (by decide +kernel)) ic_3
theorem k25_11 : At 25 11 ls (.int x1 :: .int x :: st) I J Q ↔ if x1 ≤ x then At 25 36 ls st I J Q else At 25 14 ls st I J Q := A_if_icmp_ge (o := 25) (ab_io ci25 (by decide +kernel)) (by decide)
theorem k25_14 : At 25 14 [some (.ref r), a1, a2] st I J Q ↔ At 25 15 [some (.ref r), a1, a2] (.ref r :: st) I J Q := A_aload_n (q := 0) (ab_io ci25 (by decide +kernel)) rfl
theorem k25_15_5 : At 25 15 ls (.ref 5 :: st) I J Q ↔ At 25 18 ls (.ref 13 :: st) I J Q := A_getR (ab_io ci25 (by decide +kernel)) ow25 fq1_34_5
theorem k25_15_17 : At 25 15 ls (.ref 17 :: st) I J Q ↔ At 25 18 ls (.ref 25 :: st) I J Q := A_getR (ab_io ci25 (by decide +kernel)) ow25 fq1_34_17
theorem k25_18 : At 25 18 ls st I J Q ↔ At 25 19 ls (.int (nI 3) :: st) I J Q := A_iconst (ab_io ci25 (by decide +kernel)) ic_3
theorem k25_19 : At 25 19 [a0, some (.int x), a2] st I J Q ↔ At 25 20 [a0, some (.int x), a2] (.int x :: st) I J Q := A_iload_n (q := 1) (ab_io ci25 (by decide +kernel)) rfl
theorem k25_20 : At 25 20 ls (.int x1 :: .int x :: st) I J Q ↔ At 25 21 ls (.int (x * x1) :: st) I J Q := A_imul (ab_io ci25 (by decide +kernel))
theorem k25_21 : At 25 21 [a0, a1, some (.int x)] st I J Q ↔ At 25 22 [a0, a1, some (.int x)] (.int x :: st) I J Q := A_iload_n (q := 2) (ab_io ci25 (by decide +kernel)) rfl
theorem k25_22 : At 25 22 ls (.int x1 :: .int x :: st) I J Q ↔ At 25 23 ls (.int (x + x1) :: st) I J Q := A_iadd (ab_io ci25 (by decide +kernel))
theorem k25_23 : At 25 23 [some (.ref r), a1, a2] st I J Q ↔ At 25 24 [some (.ref r), a1, a2] (.ref r :: st) I J Q := A_aload_n (q := 0) (ab_io ci25 (by decide +kernel)) rfl
theorem k25_24 : At 25 24 [a0, some (.int x), a2] st I J Q ↔ At 25 25 [a0, some (.int x), a2] (.int x :: st) I J Q := A_iload_n (q := 1) (ab_io ci25 (by decide +kernel)) rfl
theorem k25_25 : At 25 25 [a0, a1, some (.int x)] st I J Q ↔ At 25 26 [a0, a1, some (.int x)] (.int x :: st) I J Q := A_iload_n (q := 2) (ab_io ci25 (by decide +kernel)) rfl
theorem k25_26_5 : At 25 26 ls [.int p0, .int p1, .ref 5, .int q0, .ref qr1] I J Q ↔ Cal 26 [.ref 5, .int p1, .int p0] I J (fun v I' J' => At 25 29 ls (v.toList ++ [.int q0, .ref qr1]) I' J' Q) := A_cal (kd := 0) (j := 108) (na := 3) (ea := 3) (rk := 5) (by decide +kernel) rfl rfl rfl (Or.inr rfl) (Nat.le_of_ble_eq_true rfl)
theorem k25_26_17 : At 25 26 ls [.int p0, .int p1, .ref 17, .int q0, .ref qr1] I J Q ↔ Cal 26 [.ref 17, .int p1, .int p0] I J (fun v I' J' => At 25 29 ls (v.toList ++ [.int q0, .ref qr1]) I' J' Q) := A_cal (kd := 0) (j := 108) (na := 3) (ea := 3) (rk := 17) (by decide +kernel) rfl rfl rfl (Or.inr rfl) (Nat.le_of_ble_eq_true rfl)
theorem k25_29 : At 25 29 ls (.long u :: .int x :: .ref r :: st) I J Q ↔ ((ab_ly r).1 = 2 ∧ r < 75 ∧ 0 ≤ x.toInt ∧ x.toInt < (ab_ly r).2) ∧ At 25 30 ls st I (va_up J r (va_up (J r) x.toNatClampNeg u)) Q := A_lastore (ab_io ci25 (by decide +kernel))
theorem k25_30 : At 25 30 [a0, a1, some (.int x)] st I J Q ↔ At 25 33 [a0, ab_nv a1, some (.int (x + (nI 1)))] st I J Q := A_iinc (q := 2) (ab_io ci25 (by decide +kernel)) ic_1 (Nat.le_of_ble_eq_true rfl) rfl rfl
theorem k25_33 : At 25 33 ls st I J Q ↔ At 25 9 ls st I J Q := A_goto (o := (-24)) (ab_io ci25 (by decide +kernel)) (by decide)
theorem k25_36 : At 25 36 [a0, some (.int x), a2] st I J Q ↔ At 25 39 [ab_nv a0, some (.int (x + (nI 1))), a2] st I J Q := A_iinc (q := 1) (ab_io ci25 (by decide +kernel)) ic_1 (Nat.le_of_ble_eq_true rfl) rfl rfl
theorem k25_39 : At 25 39 ls st I J Q ↔ At 25 2 ls st I J Q := A_goto (o := (-37)) (ab_io ci25 (by decide +kernel)) (by decide)
theorem k25_42 : At 25 42 [some (.ref r), a1, a2] st I J Q ↔ At 25 43 [some (.ref r), a1, a2] (.ref r :: st) I J Q := A_aload_n (q := 0) (ab_io ci25 (by decide +kernel)) rfl
theorem k25_43 : At 25 43 [some (.ref r), a1, a2] st I J Q ↔ At 25 44 [some (.ref r), a1, a2] (.ref r :: st) I J Q := A_aload_n (q := 0) (ab_io ci25 (by decide +kernel)) rfl
theorem k25_44_5 : At 25 44 ls (.ref 5 :: st) I J Q ↔ At 25 47 ls (.ref 12 :: st) I J Q := A_getR (ab_io ci25 (by decide +kernel)) ow25 fq1_31_5
theorem k25_44_17 : At 25 44 ls (.ref 17 :: st) I J Q ↔ At 25 47 ls (.ref 24 :: st) I J Q := A_getR (ab_io ci25 (by decide +kernel)) ow25 fq1_31_17
theorem k25_47 : At 25 47 ls st I J Q ↔ At 25 48 ls (.int (nI 0) :: st) I J Q := A_iconst (ab_io ci25 (by decide +kernel)) ic_0
theorem k25_48 : At 25 48 ls (.int x :: .ref r :: st) I J Q ↔ ((ab_ly r).1 = 2 ∧ r < 75 ∧ 0 ≤ x.toInt ∧ x.toInt < (ab_ly r).2) ∧ At 25 49 ls (.long (J r x.toNatClampNeg) :: st) I J Q := A_laload (ab_io ci25 (by decide +kernel))
theorem k25_49 : At 25 49 [some (.ref r), a1, a2] st I J Q ↔ At 25 50 [some (.ref r), a1, a2] (.ref r :: st) I J Q := A_aload_n (q := 0) (ab_io ci25 (by decide +kernel)) rfl
theorem k25_50_5 : At 25 50 ls (.ref 5 :: st) I J Q ↔ At 25 53 ls (.ref 13 :: st) I J Q := A_getR (ab_io ci25 (by decide +kernel)) ow25 fq1_34_5
theorem k25_50_17 : At 25 50 ls (.ref 17 :: st) I J Q ↔ At 25 53 ls (.ref 25 :: st) I J Q := A_getR (ab_io ci25 (by decide +kernel)) ow25 fq1_34_17
theorem k25_53 : At 25 53 ls st I J Q ↔ At 25 54 ls (.int (nI 0) :: st) I J Q := A_iconst (ab_io ci25 (by decide +kernel)) ic_0
theorem k25_54 : At 25 54 ls (.int x :: .ref r :: st) I J Q ↔ ((ab_ly r).1 = 2 ∧ r < 75 ∧ 0 ≤ x.toInt ∧ x.toInt < (ab_ly r).2) ∧ At 25 55 ls (.long (J r x.toNatClampNeg) :: st) I J Q := A_laload (ab_io ci25 (by decide +kernel))
theorem k25_55 : At 25 55 ls (.long u1 :: .long u :: st) I J Q ↔ At 25 56 ls (.long (u * u1) :: st) I J Q := A_lmul (ab_io ci25 (by decide +kernel))
theorem k25_56 : At 25 56 [some (.ref r), a1, a2] st I J Q ↔ At 25 57 [some (.ref r), a1, a2] (.ref r :: st) I J Q := A_aload_n (q := 0) (ab_io ci25 (by decide +kernel)) rfl
theorem k25_57_5 : At 25 57 ls (.ref 5 :: st) I J Q ↔ At 25 60 ls (.ref 12 :: st) I J Q := A_getR (ab_io ci25 (by decide +kernel)) ow25 fq1_31_5
theorem k25_57_17 : At 25 57 ls (.ref 17 :: st) I J Q ↔ At 25 60 ls (.ref 24 :: st) I J Q := A_getR (ab_io ci25 (by decide +kernel)) ow25 fq1_31_17
theorem k25_60 : At 25 60 ls st I J Q ↔ At 25 61 ls (.int (nI 1) :: st) I J Q := A_iconst (ab_io ci25 (by decide +kernel)) ic_1
theorem k25_61 : At 25 61 ls (.int x :: .ref r :: st) I J Q ↔ ((ab_ly r).1 = 2 ∧ r < 75 ∧ 0 ≤ x.toInt ∧ x.toInt < (ab_ly r).2) ∧ At 25 62 ls (.long (J r x.toNatClampNeg) :: st) I J Q := A_laload (ab_io ci25 (by decide +kernel))
theorem k25_62 : At 25 62 [some (.ref r), a1, a2] st I J Q ↔ At 25 63 [some (.ref r), a1, a2] (.ref r :: st) I J Q := A_aload_n (q := 0) (ab_io ci25 (by decide +kernel)) rfl
theorem k25_63_5 : At 25 63 ls (.ref 5 :: st) I J Q ↔ At 25 66 ls (.ref 13 :: st) I J Q := A_getR (ab_io ci25 (by decide +kernel)) ow25 fq1_34_5
theorem k25_63_17 : At 25 63 ls (.ref 17 :: st) I J Q ↔ At 25 66 ls (.ref 25 :: st) I J Q := A_getR (ab_io ci25 (by decide +kernel)) ow25 fq1_34_17
theorem k25_66 : At 25 66 ls st I J Q ↔ At 25 67 ls (.int (nI 1) :: st) I J Q := A_iconst (ab_io ci25 (by decide +kernel)) ic_1
theorem k25_67 : At 25 67 ls (.int x :: .ref r :: st) I J Q ↔ ((ab_ly r).1 = 2 ∧ r < 75 ∧ 0 ≤ x.toInt ∧ x.toInt < (ab_ly r).2) ∧ At 25 68 ls (.long (J r x.toNatClampNeg) :: st) I J Q := A_laload (ab_io ci25 (by decide +kernel))
theorem k25_68 : At 25 68 ls (.long u1 :: .long u :: st) I J Q ↔ At 25 69 ls (.long (u * u1) :: st) I J Q := A_lmul (ab_io ci25 (by decide +kernel))
theorem k25_69 : At 25 69 ls (.long u1 :: .long u :: st) I J Q ↔ At 25 70 ls (.long (u + u1) :: st) I J Q := A_ladd (ab_io ci25 (by decide +kernel))
theorem k25_70 : At 25 70 [some (.ref r), a1, a2] st I J Q ↔ At 25 71 [some (.ref r), a1, a2] (.ref r :: st) I J Q := A_aload_n (q := 0) (ab_io ci25 (by decide +kernel)) rfl
theorem k25_71_5 : At 25 71 ls (.ref 5 :: st) I J Q ↔ At 25 74 ls (.ref 12 :: st) I J Q := A_getR (ab_io ci25 (by decide +kernel)) ow25 fq1_31_5
theorem k25_71_17 : At 25 71 ls (.ref 17 :: st) I J Q ↔ At 25 74 ls (.ref 24 :: st) I J Q := A_getR (ab_io ci25 (by decide +kernel)) ow25 fq1_31_17
theorem k25_74 : At 25 74 ls st I J Q ↔ At 25 75 ls (.int (nI 2) :: st) I J Q := A_iconst (ab_io ci25 (by decide +kernel)) ic_2
theorem k25_75 : At 25 75 ls (.int x :: .ref r :: st) I J Q ↔ ((ab_ly r).1 = 2 ∧ r < 75 ∧ 0 ≤ x.toInt ∧ x.toInt < (ab_ly r).2) ∧ At 25 76 ls (.long (J r x.toNatClampNeg) :: st) I J Q := A_laload (ab_io ci25 (by decide +kernel))
theorem k25_76 : At 25 76 [some (.ref r), a1, a2] st I J Q ↔ At 25 77 [some (.ref r), a1, a2] (.ref r :: st) I J Q := A_aload_n (q := 0) (ab_io ci25 (by decide +kernel)) rfl
theorem k25_77_5 : At 25 77 ls (.ref 5 :: st) I J Q ↔ At 25 80 ls (.ref 13 :: st) I J Q := A_getR (ab_io ci25 (by decide +kernel)) ow25 fq1_34_5
theorem k25_77_17 : At 25 77 ls (.ref 17 :: st) I J Q ↔ At 25 80 ls (.ref 25 :: st) I J Q := A_getR (ab_io ci25 (by decide +kernel)) ow25 fq1_34_17
theorem k25_80 : At 25 80 ls st I J Q ↔ At 25 81 ls (.int (nI 2) :: st) I J Q := A_iconst (ab_io ci25 (by decide +kernel)) ic_2
theorem k25_81 : At 25 81 ls (.int x :: .ref r :: st) I J Q ↔ ((ab_ly r).1 = 2 ∧ r < 75 ∧ 0 ≤ x.toInt ∧ x.toInt < (ab_ly r).2) ∧ At 25 82 ls (.long (J r x.toNatClampNeg) :: st) I J Q := A_laload (ab_io ci25 (by decide +kernel))
theorem k25_82 : At 25 82 ls (.long u1 :: .long u :: st) I J Q ↔ At 25 83 ls (.long (u * u1) :: st) I J Q := A_lmul (ab_io ci25 (by decide +kernel))
theorem k25_83 : At 25 83 ls (.long u1 :: .long u :: st) I J Q ↔ At 25 84 ls (.long (u + u1) :: st) I J Q := A_ladd (ab_io ci25 (by decide +kernel))
theorem k25_84_5 : At 25 84 ls (.long u :: .ref 5 :: st) I J Q ↔ At 25 87 ls st I (va_up J 5 (va_up (J 5) 11 u)) Q := A_putJ (ab_io ci25 (by decide +kernel)) ow25 fq1_46_5
theorem k25_84_17 : At 25 84 ls (.long u :: .ref 17 :: st) I J Q ↔ At 25 87 ls st I (va_up J 17 (va_up (J 17) 11 u)) Q := A_putJ (ab_io ci25 (by decide +kernel)) ow25 fq1_46_17
theorem k25_87 : At 25 87 ls [] I J Q ↔ Q none I J := A_vret (ab_io ci25 (by decide +kernel)) rt25
theorem k26_0 : At 26 0 ls st I J Q ↔ At 26 1 ls (.int (nI 3) :: st) I J Q := A_iconst (ab_io ci26 (by decide +kernel)) ic_3
theorem k26_1 : At 26 1 [a0, some (.int x), a2, a3, a4, a5, a6] st I J Q ↔ At 26 2 [a0, some (.int x), a2, a3, a4, a5, a6] (.int x :: st) I J Q := A_iload_n (q := 1) (ab_io ci26 (by decide +kernel)) rfl
theorem k26_2 : At 26 2 ls st I J Q ↔ At 26 3 ls (.int (nI 1) :: st) I J Q := A_iconst (ab_io ci26 (by decide +kernel)) ic_1
theorem k26_3 : At 26 3 ls (.int x1 :: .int x :: st) I J Q ↔ At 26 4 ls (.int (x + x1) :: st) I J Q := A_iadd (ab_io ci26 (by decide +kernel))
theorem k26_4 : At 26 4 ls st I J Q ↔ At 26 5 ls (.int (nI 3) :: st) I J Q := A_iconst (ab_io ci26 (by decide +kernel)) ic_3
theorem k26_5 : At 26 5 ls (.int x1 :: .int x :: st) I J Q ↔ ¬ x1 = 0 ∧ At 26 6 ls (.int (x - x / x1 * x1) :: st) I J Q := A_irem (ab_io ci26 (by decide +kernel))
theorem k26_6 : At 26 6 ls (.int x1 :: .int x :: st) I J Q ↔ At 26 7 ls (.int (x * x1) :: st) I J Q := A_imul (ab_io ci26 (by decide +kernel))
theorem k26_7 : At 26 7 [a0, a1, a2, a3, a4, a5, a6] (.int x :: st) I J Q ↔ At 26 8 [a0, a1, ab_nv a2, some (.int x), a4, a5, a6] st I J Q := A_istore_n (q := 3) (ab_io ci26 (by decide +kernel)) (Nat.le_of_ble_eq_true rfl) rfl
theorem k26_8 : At 26 8 ls st I J Q ↔ At 26 9 ls (.int (nI 3) :: st) I J Q := A_iconst (ab_io ci26 (by decide +kernel)) ic_3
theorem k26_9 : At 26 9 [a0, some (.int x), a2, a3, a4, a5, a6] st I J Q ↔ At 26 10 [a0, some (.int x), a2, a3, a4, a5, a6] (.int x :: st) I J Q := A_iload_n (q := 1) (ab_io ci26 (by decide +kernel)) rfl
theorem k26_10 : At 26 10 ls st I J Q ↔ At 26 11 ls (.int (nI 2) :: st) I J Q := A_iconst (ab_io ci26 (by decide +kernel)) ic_2
theorem k26_11 : At 26 11 ls (.int x1 :: .int x :: st) I J Q ↔ At 26 12 ls (.int (x + x1) :: st) I J Q := A_iadd (ab_io ci26 (by decide +kernel))
theorem k26_12 : At 26 12 ls st I J Q ↔ At 26 13 ls (.int (nI 3) :: st) I J Q := A_iconst (ab_io ci26 (by decide +kernel)) ic_3
theorem k26_13 : At 26 13 ls (.int x1 :: .int x :: st) I J Q ↔ ¬ x1 = 0 ∧ At 26 14 ls (.int (x - x / x1 * x1) :: st) I J Q := A_irem (ab_io ci26 (by decide +kernel))
theorem k26_14 : At 26 14 ls (.int x1 :: .int x :: st) I J Q ↔ At 26 15 ls (.int (x * x1) :: st) I J Q := A_imul (ab_io ci26 (by decide +kernel))
theorem k26_15 : At 26 15 [a0, a1, a2, a3, a4, a5, a6] (.int x :: st) I J Q ↔ At 26 17 [a0, a1, a2, ab_nv a3, some (.int x), a5, a6] st I J Q := A_istore (q := 4) (ab_io ci26 (by decide +kernel)) (Nat.le_of_ble_eq_true rfl) rfl
theorem k26_17 : At 26 17 [a0, a1, some (.int x), a3, a4, a5, a6] st I J Q ↔ At 26 18 [a0, a1, some (.int x), a3, a4, a5, a6] (.int x :: st) I J Q := A_iload_n (q := 2) (ab_io ci26 (by decide +kernel)) rfl
theorem k26_18 : At 26 18 ls st I J Q ↔ At 26 19 ls (.int (nI 1) :: st) I J Q := A_iconst (ab_io ci26 (by decide +kernel)) ic_1
theorem k26_19 : At 26 19 ls (.int x1 :: .int x :: st) I J Q ↔ At 26 20 ls (.int (x + x1) :: st) I J Q := A_iadd (ab_io ci26 (by decide +kernel))
theorem k26_20 : At 26 20 ls st I J Q ↔ At 26 21 ls (.int (nI 3) :: st) I J Q := A_iconst (ab_io ci26 (by decide +kernel)) ic_3
theorem k26_21 : At 26 21 ls (.int x1 :: .int x :: st) I J Q ↔ ¬ x1 = 0 ∧ At 26 22 ls (.int (x - x / x1 * x1) :: st) I J Q := A_irem (ab_io ci26 (by decide +kernel))
theorem k26_22 : At 26 22 [a0, a1, a2, a3, a4, a5, a6] (.int x :: st) I J Q ↔ At 26 24 [a0, a1, a2, a3, ab_nv a4, some (.int x), a6] st I J Q := A_istore (q := 5) (ab_io ci26 (by decide +kernel)) (Nat.le_of_ble_eq_true rfl) rfl
theorem k26_24 : At 26 24 [a0, a1, some (.int x), a3, a4, a5, a6] st I J Q ↔ At 26 25 [a0, a1, some (.int x), a3, a4, a5, a6] (.int x :: st) I J Q := A_iload_n (q := 2) (ab_io ci26 (by decide +kernel)) rfl
theorem k26_25 : At 26 25 ls st I J Q ↔ At 26 26 ls (.int (nI 2) :: st) I J Q := A_iconst (ab_io ci26 (by decide +kernel)) ic_2
theorem k26_26 : At 26 26 ls (.int x1 :: .int x :: st) I J Q ↔ At 26 27 ls (.int (x + x1) :: st) I J Q := A_iadd (ab_io ci26 (by decide +kernel))
theorem k26_27 : At 26 27 ls st I J Q ↔ At 26 28 ls (.int (nI 3) :: st) I J Q := A_iconst (ab_io ci26 (by decide +kernel)) ic_3
theorem k26_28 : At 26 28 ls (.int x1 :: .int x :: st) I J Q ↔ ¬ x1 = 0 ∧ At 26 29 ls (.int (x - x / x1 * x1) :: st) I J Q := A_irem (ab_io ci26 (by decide +kernel))
theorem k26_29 : At 26 29 [a0, a1, a2, a3, a4, a5, a6] (.int x :: st) I J Q ↔ At 26 31 [a0, a1, a2, a3, a4, ab_nv a5, some (.int x)] st I J Q := A_istore (q := 6) (ab_io ci26 (by decide +kernel)) (Nat.le_of_ble_eq_true rfl) rfl
theorem k26_31 : At 26 31 [some (.ref r), a1, a2, a3, a4, a5, a6] st I J Q ↔ At 26 32 [some (.ref r), a1, a2, a3, a4, a5, a6] (.ref r :: st) I J Q := A_aload_n (q := 0) (ab_io ci26 (by decide +kernel)) rfl
theorem k26_32_5 : At 26 32 ls (.ref 5 :: st) I J Q ↔ At 26 35 ls (.ref 12 :: st) I J Q := A_getR (ab_io ci26 (by decide +kernel)) ow26 fq1_31_5
theorem k26_32_17 : At 26 32 ls (.ref 17 :: st) I J Q ↔ At 26 35 ls (.ref 24 :: st) I J Q := A_getR (ab_io ci26 (by decide +kernel)) ow26 fq1_31_17
theorem k26_35 : At 26 35 [a0, a1, a2, some (.int x), a4, a5, a6] st I J Q ↔ At 26 36 [a0, a1, a2, some (.int x), a4, a5, a6] (.int x :: st) I J Q := A_iload_n (q := 3) (ab_io ci26 (by decide +kernel)) rfl
theorem k26_36 : At 26 36 [a0, a1, a2, a3, a4, some (.int x), a6] st I J Q ↔ At 26 38 [a0, a1, a2, a3, a4, some (.int x), a6] (.int x :: st) I J Q := A_iload (q := 5) (ab_io ci26 (by decide +kernel)) rfl
theorem k26_38 : At 26 38 ls (.int x1 :: .int x :: st) I J Q ↔ At 26 39 ls (.int (x + x1) :: st) I J Q := A_iadd (ab_io ci26 (by decide +kernel))
theorem k26_39 : At 26 39 ls (.int x :: .ref r :: st) I J Q ↔ ((ab_ly r).1 = 2 ∧ r < 75 ∧ 0 ≤ x.toInt ∧ x.toInt < (ab_ly r).2) ∧ At 26 40 ls (.long (J r x.toNatClampNeg) :: st) I J Q := A_laload (ab_io ci26 (by decide +kernel))
theorem k26_40 : At 26 40 [some (.ref r), a1, a2, a3, a4, a5, a6] st I J Q ↔ At 26 41 [some (.ref r), a1, a2, a3, a4, a5, a6] (.ref r :: st) I J Q := A_aload_n (q := 0) (ab_io ci26 (by decide +kernel)) rfl
theorem k26_41_5 : At 26 41 ls (.ref 5 :: st) I J Q ↔ At 26 44 ls (.ref 12 :: st) I J Q := A_getR (ab_io ci26 (by decide +kernel)) ow26 fq1_31_5
theorem k26_41_17 : At 26 41 ls (.ref 17 :: st) I J Q ↔ At 26 44 ls (.ref 24 :: st) I J Q := A_getR (ab_io ci26 (by decide +kernel)) ow26 fq1_31_17
theorem k26_44 : At 26 44 [a0, a1, a2, a3, some (.int x), a5, a6] st I J Q ↔ At 26 46 [a0, a1, a2, a3, some (.int x), a5, a6] (.int x :: st) I J Q := A_iload (q := 4) (ab_io ci26 (by decide +kernel)) rfl
theorem k26_46 : At 26 46 [a0, a1, a2, a3, a4, a5, some (.int x)] st I J Q ↔ At 26 48 [a0, a1, a2, a3, a4, a5, some (.int x)] (.int x :: st) I J Q := A_iload (q := 6) (ab_io ci26 (by decide +kernel)) rfl
theorem k26_48 : At 26 48 ls (.int x1 :: .int x :: st) I J Q ↔ At 26 49 ls (.int (x + x1) :: st) I J Q := A_iadd (ab_io ci26 (by decide +kernel))
theorem k26_49 : At 26 49 ls (.int x :: .ref r :: st) I J Q ↔ ((ab_ly r).1 = 2 ∧ r < 75 ∧ 0 ≤ x.toInt ∧ x.toInt < (ab_ly r).2) ∧ At 26 50 ls (.long (J r x.toNatClampNeg) :: st) I J Q := A_laload (ab_io ci26 (by decide +kernel))
theorem k26_50 : At 26 50 ls (.long u1 :: .long u :: st) I J Q ↔ At 26 51 ls (.long (u * u1) :: st) I J Q := A_lmul (ab_io ci26 (by decide +kernel))
theorem k26_51 : At 26 51 [some (.ref r), a1, a2, a3, a4, a5, a6] st I J Q ↔ At 26 52 [some (.ref r), a1, a2, a3, a4, a5, a6] (.ref r :: st) I J Q := A_aload_n (q := 0) (ab_io ci26 (by decide +kernel)) rfl
theorem k26_52_5 : At 26 52 ls (.ref 5 :: st) I J Q ↔ At 26 55 ls (.ref 12 :: st) I J Q := A_getR (ab_io ci26 (by decide +kernel)) ow26 fq1_31_5
theorem k26_52_17 : At 26 52 ls (.ref 17 :: st) I J Q ↔ At 26 55 ls (.ref 24 :: st) I J Q := A_getR (ab_io ci26 (by decide +kernel)) ow26 fq1_31_17
theorem k26_55 : At 26 55 [a0, a1, a2, some (.int x), a4, a5, a6] st I J Q ↔ At 26 56 [a0, a1, a2, some (.int x), a4, a5, a6] (.int x :: st) I J Q := A_iload_n (q := 3) (ab_io ci26 (by decide +kernel)) rfl
theorem k26_56 : At 26 56 [a0, a1, a2, a3, a4, a5, some (.int x)] st I J Q ↔ At 26 58 [a0, a1, a2, a3, a4, a5, some (.int x)] (.int x :: st) I J Q := A_iload (q := 6) (ab_io ci26 (by decide +kernel)) rfl
theorem k26_58 : At 26 58 ls (.int x1 :: .int x :: st) I J Q ↔ At 26 59 ls (.int (x + x1) :: st) I J Q := A_iadd (ab_io ci26 (by decide +kernel))
theorem k26_59 : At 26 59 ls (.int x :: .ref r :: st) I J Q ↔ ((ab_ly r).1 = 2 ∧ r < 75 ∧ 0 ≤ x.toInt ∧ x.toInt < (ab_ly r).2) ∧ At 26 60 ls (.long (J r x.toNatClampNeg) :: st) I J Q := A_laload (ab_io ci26 (by decide +kernel))
theorem k26_60 : At 26 60 [some (.ref r), a1, a2, a3, a4, a5, a6] st I J Q ↔ At 26 61 [some (.ref r), a1, a2, a3, a4, a5, a6] (.ref r :: st) I J Q := A_aload_n (q := 0) (ab_io ci26 (by decide +kernel)) rfl
theorem k26_61_5 : At 26 61 ls (.ref 5 :: st) I J Q ↔ At 26 64 ls (.ref 12 :: st) I J Q := A_getR (ab_io ci26 (by decide +kernel)) ow26 fq1_31_5
theorem k26_61_17 : At 26 61 ls (.ref 17 :: st) I J Q ↔ At 26 64 ls (.ref 24 :: st) I J Q := A_getR (ab_io ci26 (by decide +kernel)) ow26 fq1_31_17
theorem k26_64 : At 26 64 [a0, a1, a2, a3, some (.int x), a5, a6] st I J Q ↔ At 26 66 [a0, a1, a2, a3, some (.int x), a5, a6] (.int x :: st) I J Q := A_iload (q := 4) (ab_io ci26 (by decide +kernel)) rfl
theorem k26_66 : At 26 66 [a0, a1, a2, a3, a4, some (.int x), a6] st I J Q ↔ At 26 68 [a0, a1, a2, a3, a4, some (.int x), a6] (.int x :: st) I J Q := A_iload (q := 5) (ab_io ci26 (by decide +kernel)) rfl
theorem k26_68 : At 26 68 ls (.int x1 :: .int x :: st) I J Q ↔ At 26 69 ls (.int (x + x1) :: st) I J Q := A_iadd (ab_io ci26 (by decide +kernel))
theorem k26_69 : At 26 69 ls (.int x :: .ref r :: st) I J Q ↔ ((ab_ly r).1 = 2 ∧ r < 75 ∧ 0 ≤ x.toInt ∧ x.toInt < (ab_ly r).2) ∧ At 26 70 ls (.long (J r x.toNatClampNeg) :: st) I J Q := A_laload (ab_io ci26 (by decide +kernel))
theorem k26_70 : At 26 70 ls (.long u1 :: .long u :: st) I J Q ↔ At 26 71 ls (.long (u * u1) :: st) I J Q := A_lmul (ab_io ci26 (by decide +kernel))
theorem k26_71 : At 26 71 ls (.long u1 :: .long u :: st) I J Q ↔ At 26 72 ls (.long (u - u1) :: st) I J Q := A_lsub (ab_io ci26 (by decide +kernel))
theorem k26_72 : At 26 72 ls [.long u] I J Q ↔ Q (some (.long u)) I J := A_lret (ab_io ci26 (by decide +kernel)) rt26
theorem k27_0 : At 27 0 [some (.ref r), a1, a2, a3, a4] st I J Q ↔ At 27 1 [some (.ref r), a1, a2, a3, a4] (.ref r :: st) I J Q := A_aload_n (q := 0) (ab_io ci27 (by decide +kernel)) rfl
theorem k27_1_5 : At 27 1 ls [.ref 5] I J Q ↔ Cal 28 [.ref 5] I J (fun v I' J' => At 27 4 ls (v.toList ++ []) I' J' Q) := A_cal (kd := 0) (j := 111) (na := 1) (ea := 1) (rk := 5) (by decide +kernel) rfl rfl rfl (Or.inr rfl) (Nat.le_of_ble_eq_true rfl)
theorem k27_1_17 : At 27 1 ls [.ref 17] I J Q ↔ Cal 28 [.ref 17] I J (fun v I' J' => At 27 4 ls (v.toList ++ []) I' J' Q) := A_cal (kd := 0) (j := 111) (na := 1) (ea := 1) (rk := 17) (by decide +kernel) rfl rfl rfl (Or.inr rfl) (Nat.le_of_ble_eq_true rfl)
theorem k27_4 : At 27 4 ls st I J Q ↔ At 27 5 ls (.int (nI 0) :: st) I J Q := A_iconst (ab_io ci27 (by decide +kernel)) ic_0
theorem k27_5 : At 27 5 [a0, a1, a2, a3, a4] (.int x :: st) I J Q ↔ At 27 6 [ab_nv a0, some (.int x), a2, a3, a4] st I J Q := A_istore_n (q := 1) (ab_io ci27 (by decide +kernel)) (Nat.le_of_ble_eq_true rfl) rfl
theorem k27_6 : At 27 6 [a0, some (.int x), a2, a3, a4] st I J Q ↔ At 27 7 [a0, some (.int x), a2, a3, a4] (.int x :: st) I J Q := A_iload_n (q := 1) (ab_io ci27 (by decide +kernel)) rfl
theorem k27_7 : At 27 7 ls st I J Q ↔ At 27 8 ls (.int (nI 4) :: st) I J Q := A_iconst (ab_io ci27 (by decide +kernel)) ic_4
theorem k27_8 : At 27 8 ls (.int x1 :: .int x :: st) I J Q ↔ if x1 ≤ x then At 27 24 ls st I J Q else At 27 11 ls st I J Q := A_if_icmp_ge (o := 16) (ab_io ci27 (by decide +kernel)) (by decide)
theorem k27_11 : At 27 11 [some (.ref r), a1, a2, a3, a4] st I J Q ↔ At 27 12 [some (.ref r), a1, a2, a3, a4] (.ref r :: st) I J Q := A_aload_n (q := 0) (ab_io ci27 (by decide +kernel)) rfl
theorem k27_12_5 : At 27 12 ls (.ref 5 :: st) I J Q ↔ At 27 15 ls (.ref 15 :: st) I J Q := A_getR (ab_io ci27 (by decide +kernel)) ow27 fq1_40_5
theorem k27_12_17 : At 27 12 ls (.ref 17 :: st) I J Q ↔ At 27 15 ls (.ref 27 :: st) I J Q := A_getR (ab_io ci27 (by decide +kernel)) ow27 fq1_40_17
theorem k27_15 : At 27 15 [a0, some (.int x), a2, a3, a4] st I J Q ↔ At 27 16 [a0, some (.int x), a2, a3, a4] (.int x :: st) I J Q := A_iload_n (q := 1) (ab_io ci27 (by decide +kernel)) rfl
theorem k27_16 : At 27 16 ls st I J Q ↔ At 27 17 ls (.long 0 :: st) I J Q := A_lconst (n := 0) (ab_io ci27 (by decide +kernel)) rfl
theorem k27_17 : At 27 17 ls (.long u :: .int x :: .ref r :: st) I J Q ↔ ((ab_ly r).1 = 2 ∧ r < 75 ∧ 0 ≤ x.toInt ∧ x.toInt < (ab_ly r).2) ∧ At 27 18 ls st I (va_up J r (va_up (J r) x.toNatClampNeg u)) Q := A_lastore (ab_io ci27 (by decide +kernel))
theorem k27_18 : At 27 18 [a0, some (.int x), a2, a3, a4] st I J Q ↔ At 27 21 [ab_nv a0, some (.int (x + (nI 1))), a2, a3, a4] st I J Q := A_iinc (q := 1) (ab_io ci27 (by decide +kernel)) ic_1 (Nat.le_of_ble_eq_true rfl) rfl rfl
theorem k27_21 : At 27 21 ls st I J Q ↔ At 27 6 ls st I J Q := A_goto (o := (-15)) (ab_io ci27 (by decide +kernel)) (by decide)
theorem k27_24 : At 27 24 ls st I J Q ↔ At 27 25 ls (.int (nI 0) :: st) I J Q := A_iconst (ab_io ci27 (by decide +kernel)) ic_0
theorem k27_25 : At 27 25 [a0, a1, a2, a3, a4] (.int x :: st) I J Q ↔ At 27 26 [ab_nv a0, some (.int x), a2, a3, a4] st I J Q := A_istore_n (q := 1) (ab_io ci27 (by decide +kernel)) (Nat.le_of_ble_eq_true rfl) rfl
theorem k27_26 : At 27 26 [a0, some (.int x), a2, a3, a4] st I J Q ↔ At 27 27 [a0, some (.int x), a2, a3, a4] (.int x :: st) I J Q := A_iload_n (q := 1) (ab_io ci27 (by decide +kernel)) rfl
theorem k27_27 : At 27 27 ls st I J Q ↔ At 27 28 ls (.int (nI 3) :: st) I J Q := A_iconst (ab_io ci27 (by decide +kernel)) ic_3
theorem k27_28 : At 27 28 ls (.int x1 :: .int x :: st) I J Q ↔ if x1 ≤ x then At 27 78 ls st I J Q else At 27 31 ls st I J Q := A_if_icmp_ge (o := 50) (ab_io ci27 (by decide +kernel)) (by decide)
theorem k27_31 : At 27 31 ls st I J Q ↔ At 27 32 ls (.int (nI 0) :: st) I J Q := A_iconst (ab_io ci27 (by decide +kernel)) ic_0
theorem k27_32 : At 27 32 [a0, a1, a2, a3, a4] (.int x :: st) I J Q ↔ At 27 33 [a0, ab_nv a1, some (.int x), a3, a4] st I J Q := A_istore_n (q := 2) (ab_io ci27 (by decide +kernel)) (Nat.le_of_ble_eq_true rfl) rfl
theorem k27_33 : At 27 33 [a0, a1, some (.int x), a3, a4] st I J Q ↔ At 27 34 [a0, a1, some (.int x), a3, a4] (.int x :: st) I J Q := A_iload_n (q := 2) (ab_io ci27 (by decide +kernel)) rfl
theorem k27_34 : At 27 34 ls st I J Q ↔ At 27 35 ls (.int (nI 3) :: st) I J Q := A_iconst (ab_io ci27 (by decide +kernel)) ic_3
theorem k27_35 : At 27 35 ls (.int x1 :: .int x :: st) I J Q ↔ if x1 ≤ x then At 27 72 ls st I J Q else At 27 38 ls st I J Q := A_if_icmp_ge (o := 37) (ab_io ci27 (by decide +kernel)) (by decide)
theorem k27_38 : At 27 38 [some (.ref r), a1, a2, a3, a4] st I J Q ↔ At 27 39 [some (.ref r), a1, a2, a3, a4] (.ref r :: st) I J Q := A_aload_n (q := 0) (ab_io ci27 (by decide +kernel)) rfl
theorem k27_39_5 : At 27 39 ls (.ref 5 :: st) I J Q ↔ At 27 42 ls (.ref 15 :: st) I J Q := A_getR (ab_io ci27 (by decide +kernel)) ow27 fq1_40_5
theorem k27_39_17 : At 27 39 ls (.ref 17 :: st) I J Q ↔ At 27 42 ls (.ref 27 :: st) I J Q := A_getR (ab_io ci27 (by decide +kernel)) ow27 fq1_40_17
theorem k27_42 : At 27 42 [a0, some (.int x), a2, a3, a4] st I J Q ↔ At 27 43 [a0, some (.int x), a2, a3, a4] (.int x :: st) I J Q := A_iload_n (q := 1) (ab_io ci27 (by decide +kernel)) rfl
theorem k27_43 : At 27 43 ls st I J Q ↔ At 27 44 ls (.int (nI 1) :: st) I J Q := A_iconst (ab_io ci27 (by decide +kernel)) ic_1
theorem k27_44 : At 27 44 ls (.int x1 :: .int x :: st) I J Q ↔ At 27 45 ls (.int (x + x1) :: st) I J Q := A_iadd (ab_io ci27 (by decide +kernel))
theorem k27_45 : At 27 45 ls (.int x :: .ref r :: st) I J Q ↔ At 27 46 ls (.int x :: .ref r :: .int x :: .ref r :: st) I J Q := A_dup2 (ab_io ci27 (by decide +kernel))
theorem k27_46 : At 27 46 ls (.int x :: .ref r :: st) I J Q ↔ ((ab_ly r).1 = 2 ∧ r < 75 ∧ 0 ≤ x.toInt ∧ x.toInt < (ab_ly r).2) ∧ At 27 47 ls (.long (J r x.toNatClampNeg) :: st) I J Q := A_laload (ab_io ci27 (by decide +kernel))
theorem k27_47 : At 27 47 [some (.ref r), a1, a2, a3, a4] st I J Q ↔ At 27 48 [some (.ref r), a1, a2, a3, a4] (.ref r :: st) I J Q := A_aload_n (q := 0) (ab_io ci27 (by decide +kernel)) rfl
theorem k27_48_5 : At 27 48 ls (.ref 5 :: st) I J Q ↔ At 27 51 ls (.ref 13 :: st) I J Q := A_getR (ab_io ci27 (by decide +kernel)) ow27 fq1_34_5
theorem k27_48_17 : At 27 48 ls (.ref 17 :: st) I J Q ↔ At 27 51 ls (.ref 25 :: st) I J Q := A_getR (ab_io ci27 (by decide +kernel)) ow27 fq1_34_17
theorem k27_51 : At 27 51 ls st I J Q ↔ At 27 52 ls (.int (nI 3) :: st) I J Q := A_iconst (ab_io ci27 (by decide +kernel)) ic_3
theorem k27_52 : At 27 52 [a0, some (.int x), a2, a3, a4] st I J Q ↔ At 27 53 [a0, some (.int x), a2, a3, a4] (.int x :: st) I J Q := A_iload_n (q := 1) (ab_io ci27 (by decide +kernel)) rfl
theorem k27_53 : At 27 53 ls (.int x1 :: .int x :: st) I J Q ↔ At 27 54 ls (.int (x * x1) :: st) I J Q := A_imul (ab_io ci27 (by decide +kernel))
theorem k27_54 : At 27 54 [a0, a1, some (.int x), a3, a4] st I J Q ↔ At 27 55 [a0, a1, some (.int x), a3, a4] (.int x :: st) I J Q := A_iload_n (q := 2) (ab_io ci27 (by decide +kernel)) rfl
theorem k27_55 : At 27 55 ls (.int x1 :: .int x :: st) I J Q ↔ At 27 56 ls (.int (x + x1) :: st) I J Q := A_iadd (ab_io ci27 (by decide +kernel))
theorem k27_56 : At 27 56 ls (.int x :: .ref r :: st) I J Q ↔ ((ab_ly r).1 = 2 ∧ r < 75 ∧ 0 ≤ x.toInt ∧ x.toInt < (ab_ly r).2) ∧ At 27 57 ls (.long (J r x.toNatClampNeg) :: st) I J Q := A_laload (ab_io ci27 (by decide +kernel))
theorem k27_57 : At 27 57 [some (.ref r), a1, a2, a3, a4] st I J Q ↔ At 27 58 [some (.ref r), a1, a2, a3, a4] (.ref r :: st) I J Q := A_aload_n (q := 0) (ab_io ci27 (by decide +kernel)) rfl
theorem k27_58_5 : At 27 58 ls (.ref 5 :: st) I J Q ↔ At 27 61 ls (.ref 14 :: st) I J Q := A_getR (ab_io ci27 (by decide +kernel)) ow27 fq1_37_5
theorem k27_58_17 : At 27 58 ls (.ref 17 :: st) I J Q ↔ At 27 61 ls (.ref 26 :: st) I J Q := A_getR (ab_io ci27 (by decide +kernel)) ow27 fq1_37_17
theorem k27_61 : At 27 61 [a0, a1, some (.int x), a3, a4] st I J Q ↔ At 27 62 [a0, a1, some (.int x), a3, a4] (.int x :: st) I J Q := A_iload_n (q := 2) (ab_io ci27 (by decide +kernel)) rfl
theorem k27_62 : At 27 62 ls (.int x :: .ref r :: st) I J Q ↔ ((ab_ly r).1 = 2 ∧ r < 75 ∧ 0 ≤ x.toInt ∧ x.toInt < (ab_ly r).2) ∧ At 27 63 ls (.long (J r x.toNatClampNeg) :: st) I J Q := A_laload (ab_io ci27 (by decide +kernel))
theorem k27_63 : At 27 63 ls (.long u1 :: .long u :: st) I J Q ↔ At 27 64 ls (.long (u * u1) :: st) I J Q := A_lmul (ab_io ci27 (by decide +kernel))
theorem k27_64 : At 27 64 ls (.long u1 :: .long u :: st) I J Q ↔ At 27 65 ls (.long (u + u1) :: st) I J Q := A_ladd (ab_io ci27 (by decide +kernel))
theorem k27_65 : At 27 65 ls (.long u :: .int x :: .ref r :: st) I J Q ↔ ((ab_ly r).1 = 2 ∧ r < 75 ∧ 0 ≤ x.toInt ∧ x.toInt < (ab_ly r).2) ∧ At 27 66 ls st I (va_up J r (va_up (J r) x.toNatClampNeg u)) Q := A_lastore (ab_io ci27 (by decide +kernel))
theorem k27_66 : At 27 66 [a0, a1, some (.int x), a3, a4] st I J Q ↔ At 27 69 [a0, ab_nv a1, some (.int (x + (nI 1))), a3, a4] st I J Q := A_iinc (q := 2) (ab_io ci27 (by decide +kernel)) ic_1 (Nat.le_of_ble_eq_true rfl) rfl rfl
theorem k27_69 : At 27 69 ls st I J Q ↔ At 27 33 ls st I J Q := A_goto (o := (-36)) (ab_io ci27 (by decide +kernel)) (by decide)
theorem k27_72 : At 27 72 [a0, some (.int x), a2, a3, a4] st I J Q ↔ At 27 75 [ab_nv a0, some (.int (x + (nI 1))), a2, a3, a4] st I J Q := A_iinc (q := 1) (ab_io ci27 (by decide +kernel)) ic_1 (Nat.le_of_ble_eq_true rfl) rfl rfl
theorem k27_75 : At 27 75 ls st I J Q ↔ At 27 26 ls st I J Q := A_goto (o := (-49)) (ab_io ci27 (by decide +kernel)) (by decide)
theorem k27_78 : At 27 78 ls st I J Q ↔ At 27 79 ls (.int (nI 0) :: st) I J Q := A_iconst (ab_io ci27 (by decide +kernel)) ic_0
theorem k27_79 : At 27 79 [a0, a1, a2, a3, a4] (.int x :: st) I J Q ↔ At 27 80 [ab_nv a0, some (.int x), a2, a3, a4] st I J Q := A_istore_n (q := 1) (ab_io ci27 (by decide +kernel)) (Nat.le_of_ble_eq_true rfl) rfl
theorem k27_80 : At 27 80 [a0, some (.int x), a2, a3, a4] st I J Q ↔ At 27 81 [a0, some (.int x), a2, a3, a4] (.int x :: st) I J Q := A_iload_n (q := 1) (ab_io ci27 (by decide +kernel)) rfl
theorem k27_81 : At 27 81 ls st I J Q ↔ At 27 83 ls (.int (nI 12) :: st) I J Q := A_bipush (ab_io ci27 (by decide +kernel)) bc_12
theorem k27_83 : At 27 83 ls (.int x1 :: .int x :: st) I J Q ↔ if x1 ≤ x then At 27 160 ls st I J Q else At 27 86 ls st I J Q := A_if_icmp_ge (o := 77) (ab_io ci27 (by decide +kernel)) (by decide)
theorem k27_86 : At 27 86 [some (.ref r), a1, a2, a3, a4] st I J Q ↔ At 27 87 [some (.ref r), a1, a2, a3, a4] (.ref r :: st) I J Q := A_aload_n (q := 0) (ab_io ci27 (by decide +kernel)) rfl
theorem k27_87 : At 27 87 [a0, some (.int x), a2, a3, a4] st I J Q ↔ At 27 88 [a0, some (.int x), a2, a3, a4] (.int x :: st) I J Q := A_iload_n (q := 1) (ab_io ci27 (by decide +kernel)) rfl
theorem k27_88_5 : At 27 88 ls [.int p0, .ref 5] I J Q ↔ Cal 29 [.ref 5, .int p0] I J (fun v I' J' => At 27 91 ls (v.toList ++ []) I' J' Q) := A_cal (kd := 0) (j := 114) (na := 2) (ea := 2) (rk := 5) (by decide +kernel) rfl rfl rfl (Or.inr rfl) (Nat.le_of_ble_eq_true rfl)
theorem k27_88_17 : At 27 88 ls [.int p0, .ref 17] I J Q ↔ Cal 29 [.ref 17, .int p0] I J (fun v I' J' => At 27 91 ls (v.toList ++ []) I' J' Q) := A_cal (kd := 0) (j := 114) (na := 2) (ea := 2) (rk := 17) (by decide +kernel) rfl rfl rfl (Or.inr rfl) (Nat.le_of_ble_eq_true rfl)
theorem k27_91 : At 27 91 [some (.ref r), a1, a2, a3, a4] st I J Q ↔ At 27 92 [some (.ref r), a1, a2, a3, a4] (.ref r :: st) I J Q := A_aload_n (q := 0) (ab_io ci27 (by decide +kernel)) rfl
theorem k27_92_5 : At 27 92 ls (.ref 5 :: st) I J Q ↔ At 27 95 ls (.long (J 5 11) :: st) I J Q := A_getJ (ab_io ci27 (by decide +kernel)) ow27 fq1_46_5
theorem k27_92_17 : At 27 92 ls (.ref 17 :: st) I J Q ↔ At 27 95 ls (.long (J 17 11) :: st) I J Q := A_getJ (ab_io ci27 (by decide +kernel)) ow27 fq1_46_17
theorem k27_95 : At 27 95 ls (.long u1 :: .long u :: st) I J Q ↔ At 27 96 ls (.long (u * u1) :: st) I J Q := A_lmul (ab_io ci27 (by decide +kernel))
theorem k27_96 : At 27 96 [a0, a1, a2, a3, a4] (.long u :: st) I J Q ↔ At 27 97 [a0, ab_nv a1, some (.long u), none, a4] st I J Q := A_lstore_n (q := 2) (ab_io ci27 (by decide +kernel)) (Nat.le_of_ble_eq_true rfl) rfl
theorem k27_97 : At 27 97 ls st I J Q ↔ At 27 98 ls (.int (nI 0) :: st) I J Q := A_iconst (ab_io ci27 (by decide +kernel)) ic_0
theorem k27_98 : At 27 98 [a0, a1, a2, a3, a4] (.int x :: st) I J Q ↔ At 27 100 [a0, a1, a2, ab_nv a3, some (.int x)] st I J Q := A_istore (q := 4) (ab_io ci27 (by decide +kernel)) (Nat.le_of_ble_eq_true rfl) rfl
theorem k27_100 : At 27 100 [a0, a1, a2, a3, some (.int x)] st I J Q ↔ At 27 102 [a0, a1, a2, a3, some (.int x)] (.int x :: st) I J Q := A_iload (q := 4) (ab_io ci27 (by decide +kernel)) rfl
theorem k27_102 : At 27 102 ls st I J Q ↔ At 27 103 ls (.int (nI 4) :: st) I J Q := A_iconst (ab_io ci27 (by decide +kernel)) ic_4
theorem k27_103 : At 27 103 ls (.int x1 :: .int x :: st) I J Q ↔ if x1 ≤ x then At 27 140 ls st I J Q else At 27 106 ls st I J Q := A_if_icmp_ge (o := 37) (ab_io ci27 (by decide +kernel)) (by decide)
theorem k27_106 : At 27 106 [a0, a1, some (.long u), a3, a4] st I J Q ↔ At 27 107 [a0, a1, some (.long u), a3, a4] (.long u :: st) I J Q := A_lload_n (q := 2) (ab_io ci27 (by decide +kernel)) rfl
theorem k27_107 : At 27 107 [some (.ref r), a1, a2, a3, a4] st I J Q ↔ At 27 108 [some (.ref r), a1, a2, a3, a4] (.ref r :: st) I J Q := A_aload_n (q := 0) (ab_io ci27 (by decide +kernel)) rfl
theorem k27_108_5 : At 27 108 ls (.ref 5 :: st) I J Q ↔ At 27 111 ls (.ref 7 :: st) I J Q := A_getR (ab_io ci27 (by decide +kernel)) ow27 fq1_15_5
theorem k27_108_17 : At 27 108 ls (.ref 17 :: st) I J Q ↔ At 27 111 ls (.ref 19 :: st) I J Q := A_getR (ab_io ci27 (by decide +kernel)) ow27 fq1_15_17
theorem k27_111 : At 27 111 [a0, some (.int x), a2, a3, a4] st I J Q ↔ At 27 112 [a0, some (.int x), a2, a3, a4] (.int x :: st) I J Q := A_iload_n (q := 1) (ab_io ci27 (by decide +kernel)) rfl
theorem k27_112 : At 27 112 ls (.int x :: .ref r :: st) I J Q ↔ ((ab_ly r).1 = 1 ∧ r < 75 ∧ 0 ≤ x.toInt ∧ x.toInt < (ab_ly r).2) ∧ At 27 113 ls (.int (I r x.toNatClampNeg) :: st) I J Q := A_iaload (ab_io ci27 (by decide +kernel))
theorem k27_113 : At 27 113 [a0, a1, a2, a3, some (.int x)] st I J Q ↔ At 27 115 [a0, a1, a2, a3, some (.int x)] (.int x :: st) I J Q := A_iload (q := 4) (ab_io ci27 (by decide +kernel)) rfl
theorem k27_115 : At 27 115 ls (.int x1 :: .int x :: st) I J Q ↔ At 27 116 ls (.int (x >>> (x1 &&& 31)) :: st) I J Q := A_ishr (ab_io ci27 (by decide +kernel))
theorem k27_116 : At 27 116 ls st I J Q ↔ At 27 117 ls (.int (nI 1) :: st) I J Q := A_iconst (ab_io ci27 (by decide +kernel)) ic_1
theorem k27_117 : At 27 117 ls (.int x1 :: .int x :: st) I J Q ↔ At 27 118 ls (.int (x &&& x1) :: st) I J Q := A_iand (ab_io ci27 (by decide +kernel))
theorem k27_118 : At 27 118 ls (.int x :: st) I J Q ↔ if x = 0 then At 27 131 ls st I J Q else At 27 121 ls st I J Q := A_ifCond_eq (o := 13) (ab_io ci27 (by decide +kernel)) (by decide)
theorem k27_121 : At 27 121 [some (.ref r), a1, a2, a3, a4] st I J Q ↔ At 27 122 [some (.ref r), a1, a2, a3, a4] (.ref r :: st) I J Q := A_aload_n (q := 0) (ab_io ci27 (by decide +kernel)) rfl
theorem k27_122_5 : At 27 122 ls (.ref 5 :: st) I J Q ↔ At 27 125 ls (.ref 15 :: st) I J Q := A_getR (ab_io ci27 (by decide +kernel)) ow27 fq1_40_5
theorem k27_122_17 : At 27 122 ls (.ref 17 :: st) I J Q ↔ At 27 125 ls (.ref 27 :: st) I J Q := A_getR (ab_io ci27 (by decide +kernel)) ow27 fq1_40_17
theorem k27_125 : At 27 125 [a0, a1, a2, a3, some (.int x)] st I J Q ↔ At 27 127 [a0, a1, a2, a3, some (.int x)] (.int x :: st) I J Q := A_iload (q := 4) (ab_io ci27 (by decide +kernel)) rfl
theorem k27_127 : At 27 127 ls (.int x :: .ref r :: st) I J Q ↔ ((ab_ly r).1 = 2 ∧ r < 75 ∧ 0 ≤ x.toInt ∧ x.toInt < (ab_ly r).2) ∧ At 27 128 ls (.long (J r x.toNatClampNeg) :: st) I J Q := A_laload (ab_io ci27 (by decide +kernel))
theorem k27_128 : At 27 128 ls st I J Q ↔ At 27 132 ls st I J Q := A_goto (o := 4) (ab_io ci27 (by decide +kernel)) (by decide)
theorem k27_131 : At 27 131 ls st I J Q ↔ At 27 132 ls (.long 0 :: st) I J Q := A_lconst (n := 0) (ab_io ci27 (by decide +kernel)) rfl
theorem k27_132 : At 27 132 ls (.long u1 :: .long u :: st) I J Q ↔ At 27 133 ls (.long (u + u1) :: st) I J Q := A_ladd (ab_io ci27 (by decide +kernel))
theorem k27_133 : At 27 133 [a0, a1, a2, a3, a4] (.long u :: st) I J Q ↔ At 27 134 [a0, ab_nv a1, some (.long u), none, a4] st I J Q := A_lstore_n (q := 2) (ab_io ci27 (by decide +kernel)) (Nat.le_of_ble_eq_true rfl) rfl
theorem k27_134 : At 27 134 [a0, a1, a2, a3, some (.int x)] st I J Q ↔ At 27 137 [a0, a1, a2, ab_nv a3, some (.int (x + (nI 1)))] st I J Q := A_iinc (q := 4) (ab_io ci27 (by decide +kernel)) ic_1 (Nat.le_of_ble_eq_true rfl) rfl rfl
theorem k27_137 : At 27 137 ls st I J Q ↔ At 27 100 ls st I J Q := A_goto (o := (-37)) (ab_io ci27 (by decide +kernel)) (by decide)
theorem k27_140 : At 27 140 [some (.ref r), a1, a2, a3, a4] st I J Q ↔ At 27 141 [some (.ref r), a1, a2, a3, a4] (.ref r :: st) I J Q := A_aload_n (q := 0) (ab_io ci27 (by decide +kernel)) rfl
theorem k27_141_5 : At 27 141 ls (.ref 5 :: st) I J Q ↔ At 27 144 ls (.ref 16 :: st) I J Q := A_getR (ab_io ci27 (by decide +kernel)) ow27 fq1_43_5
theorem k27_141_17 : At 27 141 ls (.ref 17 :: st) I J Q ↔ At 27 144 ls (.ref 28 :: st) I J Q := A_getR (ab_io ci27 (by decide +kernel)) ow27 fq1_43_17
theorem k27_144 : At 27 144 [a0, some (.int x), a2, a3, a4] st I J Q ↔ At 27 145 [a0, some (.int x), a2, a3, a4] (.int x :: st) I J Q := A_iload_n (q := 1) (ab_io ci27 (by decide +kernel)) rfl
theorem k27_145 : At 27 145 [some (.ref r), a1, a2, a3, a4] st I J Q ↔ At 27 146 [some (.ref r), a1, a2, a3, a4] (.ref r :: st) I J Q := A_aload_n (q := 0) (ab_io ci27 (by decide +kernel)) rfl
theorem k27_146_5 : At 27 146 ls (.ref 5 :: st) I J Q ↔ At 27 149 ls (.ref 8 :: st) I J Q := A_getR (ab_io ci27 (by decide +kernel)) ow27 fq1_18_5
theorem k27_146_17 : At 27 146 ls (.ref 17 :: st) I J Q ↔ At 27 149 ls (.ref 20 :: st) I J Q := A_getR (ab_io ci27 (by decide +kernel)) ow27 fq1_18_17
theorem k27_149 : At 27 149 [a0, some (.int x), a2, a3, a4] st I J Q ↔ At 27 150 [a0, some (.int x), a2, a3, a4] (.int x :: st) I J Q := A_iload_n (q := 1) (ab_io ci27 (by decide +kernel)) rfl
theorem k27_150 : At 27 150 ls (.int x :: .ref r :: st) I J Q ↔ ((ab_ly r).1 = 2 ∧ r < 75 ∧ 0 ≤ x.toInt ∧ x.toInt < (ab_ly r).2) ∧ At 27 151 ls (.long (J r x.toNatClampNeg) :: st) I J Q := A_laload (ab_io ci27 (by decide +kernel))
theorem k27_151 : At 27 151 [a0, a1, some (.long u), a3, a4] st I J Q ↔ At 27 152 [a0, a1, some (.long u), a3, a4] (.long u :: st) I J Q := A_lload_n (q := 2) (ab_io ci27 (by decide +kernel)) rfl
theorem k27_152 : At 27 152 ls (.long u1 :: .long u :: st) I J Q ↔ At 27 153 ls (.long (u * u1) :: st) I J Q := A_lmul (ab_io ci27 (by decide +kernel))
theorem k27_153 : At 27 153 ls (.long u :: .int x :: .ref r :: st) I J Q ↔ ((ab_ly r).1 = 2 ∧ r < 75 ∧ 0 ≤ x.toInt ∧ x.toInt < (ab_ly r).2) ∧ At 27 154 ls st I (va_up J r (va_up (J r) x.toNatClampNeg u)) Q := A_lastore (ab_io ci27 (by decide +kernel))
theorem k27_154 : At 27 154 [a0, some (.int x), a2, a3, a4] st I J Q ↔ At 27 157 [ab_nv a0, some (.int (x + (nI 1))), a2, a3, a4] st I J Q := A_iinc (q := 1) (ab_io ci27 (by decide +kernel)) ic_1 (Nat.le_of_ble_eq_true rfl) rfl rfl
theorem k27_157 : At 27 157 ls st I J Q ↔ At 27 80 ls st I J Q := A_goto (o := (-77)) (ab_io ci27 (by decide +kernel)) (by decide)
theorem k27_160 : At 27 160 ls [] I J Q ↔ Q none I J := A_vret (ab_io ci27 (by decide +kernel)) rt27
theorem k28_0 : At 28 0 ls st I J Q ↔ At 28 1 ls (.int (nI 0) :: st) I J Q := A_iconst (ab_io ci28 (by decide +kernel)) ic_0
theorem k28_1 : At 28 1 [a0, a1, a2] (.int x :: st) I J Q ↔ At 28 2 [ab_nv a0, some (.int x), a2] st I J Q := A_istore_n (q := 1) (ab_io ci28 (by decide +kernel)) (Nat.le_of_ble_eq_true rfl) rfl
theorem k28_2 : At 28 2 [a0, some (.int x), a2] st I J Q ↔ At 28 3 [a0, some (.int x), a2] (.int x :: st) I J Q := A_iload_n (q := 1) (ab_io ci28 (by decide +kernel)) rfl
theorem k28_3 : At 28 3 ls st I J Q ↔ At 28 4 ls (.int (nI 3) :: st) I J Q := A_iconst (ab_io ci28 (by decide +kernel)) ic_3
theorem k28_4 : At 28 4 ls (.int x1 :: .int x :: st) I J Q ↔ if x1 ≤ x then At 28 81 ls st I J Q else At 28 7 ls st I J Q := A_if_icmp_ge (o := 77) (ab_io ci28 (by decide +kernel)) (by decide)
theorem k28_7 : At 28 7 [some (.ref r), a1, a2] st I J Q ↔ At 28 8 [some (.ref r), a1, a2] (.ref r :: st) I J Q := A_aload_n (q := 0) (ab_io ci28 (by decide +kernel)) rfl
theorem k28_8_5 : At 28 8 ls (.ref 5 :: st) I J Q ↔ At 28 11 ls (.ref 14 :: st) I J Q := A_getR (ab_io ci28 (by decide +kernel)) ow28 fq1_37_5
theorem k28_8_17 : At 28 8 ls (.ref 17 :: st) I J Q ↔ At 28 11 ls (.ref 26 :: st) I J Q := A_getR (ab_io ci28 (by decide +kernel)) ow28 fq1_37_17
theorem k28_11 : At 28 11 [a0, some (.int x), a2] st I J Q ↔ At 28 12 [a0, some (.int x), a2] (.int x :: st) I J Q := A_iload_n (q := 1) (ab_io ci28 (by decide +kernel)) rfl
theorem k28_12 : At 28 12 ls st I J Q ↔ At 28 13 ls (.long 0 :: st) I J Q := A_lconst (n := 0) (ab_io ci28 (by decide +kernel)) rfl
theorem k28_13 : At 28 13 ls (.long u :: .int x :: .ref r :: st) I J Q ↔ ((ab_ly r).1 = 2 ∧ r < 75 ∧ 0 ≤ x.toInt ∧ x.toInt < (ab_ly r).2) ∧ At 28 14 ls st I (va_up J r (va_up (J r) x.toNatClampNeg u)) Q := A_lastore (ab_io ci28 (by decide +kernel))
theorem k28_14 : At 28 14 ls st I J Q ↔ At 28 15 ls (.int (nI 0) :: st) I J Q := A_iconst (ab_io ci28 (by decide +kernel)) ic_0
theorem k28_15 : At 28 15 [a0, a1, a2] (.int x :: st) I J Q ↔ At 28 16 [a0, ab_nv a1, some (.int x)] st I J Q := A_istore_n (q := 2) (ab_io ci28 (by decide +kernel)) (Nat.le_of_ble_eq_true rfl) rfl
theorem k28_16 : At 28 16 [a0, a1, some (.int x)] st I J Q ↔ At 28 17 [a0, a1, some (.int x)] (.int x :: st) I J Q := A_iload_n (q := 2) (ab_io ci28 (by decide +kernel)) rfl
theorem k28_17 : At 28 17 ls st I J Q ↔ At 28 19 ls (.int (nI 12) :: st) I J Q := A_bipush (ab_io ci28 (by decide +kernel)) bc_12
theorem k28_19 : At 28 19 ls (.int x1 :: .int x :: st) I J Q ↔ if x1 ≤ x then At 28 75 ls st I J Q else At 28 22 ls st I J Q := A_if_icmp_ge (o := 56) (ab_io ci28 (by decide +kernel)) (by decide)
theorem k28_22 : At 28 22 [some (.ref r), a1, a2] st I J Q ↔ At 28 23 [some (.ref r), a1, a2] (.ref r :: st) I J Q := A_aload_n (q := 0) (ab_io ci28 (by decide +kernel)) rfl
theorem k28_23 : At 28 23 [a0, a1, some (.int x)] st I J Q ↔ At 28 24 [a0, a1, some (.int x)] (.int x :: st) I J Q := A_iload_n (q := 2) (ab_io ci28 (by decide +kernel)) rfl
theorem k28_24 : At 28 24 [a0, some (.int x), a2] st I J Q ↔ At 28 25 [a0, some (.int x), a2] (.int x :: st) I J Q := A_iload_n (q := 1) (ab_io ci28 (by decide +kernel)) rfl
theorem k28_25_5 : At 28 25 ls [.int p0, .int p1, .ref 5] I J Q ↔ Cal 24 [.ref 5, .int p1, .int p0] I J (fun v I' J' => At 28 28 ls (v.toList ++ []) I' J' Q) := A_cal (kd := 0) (j := 100) (na := 3) (ea := 3) (rk := 5) (by decide +kernel) rfl rfl rfl (Or.inr rfl) (Nat.le_of_ble_eq_true rfl)
theorem k28_25_17 : At 28 25 ls [.int p0, .int p1, .ref 17] I J Q ↔ Cal 24 [.ref 17, .int p1, .int p0] I J (fun v I' J' => At 28 28 ls (v.toList ++ []) I' J' Q) := A_cal (kd := 0) (j := 100) (na := 3) (ea := 3) (rk := 17) (by decide +kernel) rfl rfl rfl (Or.inr rfl) (Nat.le_of_ble_eq_true rfl)
theorem k28_28 : At 28 28 ls (.int x :: st) I J Q ↔ if x = 0 then At 28 69 ls st I J Q else At 28 31 ls st I J Q := A_ifCond_eq (o := 41) (ab_io ci28 (by decide +kernel)) (by decide)
theorem k28_31 : At 28 31 [some (.ref r), a1, a2] st I J Q ↔ At 28 32 [some (.ref r), a1, a2] (.ref r :: st) I J Q := A_aload_n (q := 0) (ab_io ci28 (by decide +kernel)) rfl
theorem k28_32_5 : At 28 32 ls (.ref 5 :: st) I J Q ↔ At 28 35 ls (.ref 14 :: st) I J Q := A_getR (ab_io ci28 (by decide +kernel)) ow28 fq1_37_5
theorem k28_32_17 : At 28 32 ls (.ref 17 :: st) I J Q ↔ At 28 35 ls (.ref 26 :: st) I J Q := A_getR (ab_io ci28 (by decide +kernel)) ow28 fq1_37_17
theorem k28_35 : At 28 35 [a0, some (.int x), a2] st I J Q ↔ At 28 36 [a0, some (.int x), a2] (.int x :: st) I J Q := A_iload_n (q := 1) (ab_io ci28 (by decide +kernel)) rfl
theorem k28_36 : At 28 36 ls (.int x :: .ref r :: st) I J Q ↔ At 28 37 ls (.int x :: .ref r :: .int x :: .ref r :: st) I J Q := A_dup2 (ab_io ci28 (by decide +kernel))
theorem k28_37 : At 28 37 ls (.int x :: .ref r :: st) I J Q ↔ ((ab_ly r).1 = 2 ∧ r < 75 ∧ 0 ≤ x.toInt ∧ x.toInt < (ab_ly r).2) ∧ At 28 38 ls (.long (J r x.toNatClampNeg) :: st) I J Q := A_laload (ab_io ci28 (by decide +kernel))
theorem k28_38 : At 28 38 [some (.ref r), a1, a2] st I J Q ↔ At 28 39 [some (.ref r), a1, a2] (.ref r :: st) I J Q := A_aload_n (q := 0) (ab_io ci28 (by decide +kernel)) rfl
theorem k28_39_5 : At 28 39 ls (.ref 5 :: st) I J Q ↔ At 28 42 ls (.ref 8 :: st) I J Q := A_getR (ab_io ci28 (by decide +kernel)) ow28 fq1_18_5
theorem k28_39_17 : At 28 39 ls (.ref 17 :: st) I J Q ↔ At 28 42 ls (.ref 20 :: st) I J Q := A_getR (ab_io ci28 (by decide +kernel)) ow28 fq1_18_17
theorem k28_42 : At 28 42 [a0, a1, some (.int x)] st I J Q ↔ At 28 43 [a0, a1, some (.int x)] (.int x :: st) I J Q := A_iload_n (q := 2) (ab_io ci28 (by decide +kernel)) rfl
theorem k28_43 : At 28 43 ls (.int x :: .ref r :: st) I J Q ↔ ((ab_ly r).1 = 2 ∧ r < 75 ∧ 0 ≤ x.toInt ∧ x.toInt < (ab_ly r).2) ∧ At 28 44 ls (.long (J r x.toNatClampNeg) :: st) I J Q := A_laload (ab_io ci28 (by decide +kernel))
theorem k28_44 : At 28 44 [some (.ref r), a1, a2] st I J Q ↔ At 28 45 [some (.ref r), a1, a2] (.ref r :: st) I J Q := A_aload_n (q := 0) (ab_io ci28 (by decide +kernel)) rfl
theorem k28_45 : At 28 45 [a0, a1, some (.int x)] st I J Q ↔ At 28 46 [a0, a1, some (.int x)] (.int x :: st) I J Q := A_iload_n (q := 2) (ab_io ci28 (by decide +kernel)) rfl
theorem k28_46_5 : At 28 46 ls [.int p0, .ref 5, .long qu0, .long qu1, .int q2, .ref qr3] I J Q ↔ Cal 29 [.ref 5, .int p0] I J (fun v I' J' => At 28 49 ls (v.toList ++ [.long qu0, .long qu1, .int q2, .ref qr3]) I' J' Q) := A_cal (kd := 0) (j := 114) (na := 2) (ea := 2) (rk := 5) (by decide +kernel) rfl rfl rfl (Or.inr rfl) (Nat.le_of_ble_eq_true rfl)
theorem k28_46_17 : At 28 46 ls [.int p0, .ref 17, .long qu0, .long qu1, .int q2, .ref qr3] I J Q ↔ Cal 29 [.ref 17, .int p0] I J (fun v I' J' => At 28 49 ls (v.toList ++ [.long qu0, .long qu1, .int q2, .ref qr3]) I' J' Q) := A_cal (kd := 0) (j := 114) (na := 2) (ea := 2) (rk := 17) (by decide +kernel) rfl rfl rfl (Or.inr rfl) (Nat.le_of_ble_eq_true rfl)
theorem k28_49 : At 28 49 ls (.long u1 :: .long u :: st) I J Q ↔ At 28 50 ls (.long (u * u1) :: st) I J Q := A_lmul (ab_io ci28 (by decide +kernel))
theorem k28_50 : At 28 50 ls st I J Q ↔ At 28 52 ls (.int (nI 12) :: st) I J Q := A_bipush (ab_io ci28 (by decide +kernel)) bc_12
theorem k28_52 : At 28 52 [some (.ref r), a1, a2] st I J Q ↔ At 28 53 [some (.ref r), a1, a2] (.ref r :: st) I J Q := A_aload_n (q := 0) (ab_io ci28 (by decide +kernel)) rfl
theorem k28_53_5 : At 28 53 ls (.ref 5 :: st) I J Q ↔ At 28 56 ls (.ref 6 :: st) I J Q := A_getR (ab_io ci28 (by decide +kernel)) ow28 fq1_9_5
theorem k28_53_17 : At 28 53 ls (.ref 17 :: st) I J Q ↔ At 28 56 ls (.ref 18 :: st) I J Q := A_getR (ab_io ci28 (by decide +kernel)) ow28 fq1_9_17
theorem k28_56 : At 28 56 ls st I J Q ↔ At 28 57 ls (.int (nI 4) :: st) I J Q := A_iconst (ab_io ci28 (by decide +kernel)) ic_4
theorem k28_57 : At 28 57 [a0, a1, some (.int x)] st I J Q ↔ At 28 58 [a0, a1, some (.int x)] (.int x :: st) I J Q := A_iload_n (q := 2) (ab_io ci28 (by decide +kernel)) rfl
theorem k28_58 : At 28 58 ls (.int x1 :: .int x :: st) I J Q ↔ At 28 59 ls (.int (x * x1) :: st) I J Q := A_imul (ab_io ci28 (by decide +kernel))
theorem k28_59 : At 28 59 [a0, some (.int x), a2] st I J Q ↔ At 28 60 [a0, some (.int x), a2] (.int x :: st) I J Q := A_iload_n (q := 1) (ab_io ci28 (by decide +kernel)) rfl
theorem k28_60 : At 28 60 ls (.int x1 :: .int x :: st) I J Q ↔ At 28 61 ls (.int (x + x1) :: st) I J Q := A_iadd (ab_io ci28 (by decide +kernel))
theorem k28_61 : At 28 61 ls st I J Q ↔ At 28 62 ls (.int (nI 1) :: st) I J Q := A_iconst (ab_io ci28 (by decide +kernel)) ic_1
theorem k28_62 : At 28 62 ls (.int x1 :: .int x :: st) I J Q ↔ At 28 63 ls (.int (x + x1) :: st) I J Q := A_iadd (ab_io ci28 (by decide +kernel))
theorem k28_63 : At 28 63 ls (.int x :: .ref r :: st) I J Q ↔ ((ab_ly r).1 = 1 ∧ r < 75 ∧ 0 ≤ x.toInt ∧ x.toInt < (ab_ly r).2) ∧ At 28 64 ls (.int (I r x.toNatClampNeg) :: st) I J Q := A_iaload (ab_io ci28 (by decide +kernel))
theorem k28_64 : At 28 64 ls (.int x1 :: .int x :: st) I J Q ↔ At 28 65 ls (.int (x * x1) :: st) I J Q := A_imul (ab_io ci28 (by decide +kernel))
theorem k28_65 : At 28 65 ls (.int x :: st) I J Q ↔ At 28 66 ls (.long x.toInt64 :: st) I J Q := A_i2l (ab_io ci28 (by decide +kernel))
theorem k28_66 : At 28 66 ls (.long u1 :: .long u :: st) I J Q ↔ At 28 67 ls (.long (u - u1) :: st) I J Q := A_lsub (ab_io ci28 (by decide +kernel))
theorem k28_67 : At 28 67 ls (.long u1 :: .long u :: st) I J Q ↔ At 28 68 ls (.long (u + u1) :: st) I J Q := A_ladd (ab_io ci28 (by decide +kernel))
theorem k28_68 : At 28 68 ls (.long u :: .int x :: .ref r :: st) I J Q ↔ ((ab_ly r).1 = 2 ∧ r < 75 ∧ 0 ≤ x.toInt ∧ x.toInt < (ab_ly r).2) ∧ At 28 69 ls st I (va_up J r (va_up (J r) x.toNatClampNeg u)) Q := A_lastore (ab_io ci28 (by decide +kernel))
theorem k28_69 : At 28 69 [a0, a1, some (.int x)] st I J Q ↔ At 28 72 [a0, ab_nv a1, some (.int (x + (nI 1)))] st I J Q := A_iinc (q := 2) (ab_io ci28 (by decide +kernel)) ic_1 (Nat.le_of_ble_eq_true rfl) rfl rfl
theorem k28_72 : At 28 72 ls st I J Q ↔ At 28 16 ls st I J Q := A_goto (o := (-56)) (ab_io ci28 (by decide +kernel)) (by decide)
theorem k28_75 : At 28 75 [a0, some (.int x), a2] st I J Q ↔ At 28 78 [ab_nv a0, some (.int (x + (nI 1))), a2] st I J Q := A_iinc (q := 1) (ab_io ci28 (by decide +kernel)) ic_1 (Nat.le_of_ble_eq_true rfl) rfl rfl
theorem k28_78 : At 28 78 ls st I J Q ↔ At 28 2 ls st I J Q := A_goto (o := (-76)) (ab_io ci28 (by decide +kernel)) (by decide)
theorem k28_81 : At 28 81 ls [] I J Q ↔ Q none I J := A_vret (ab_io ci28 (by decide +kernel)) rt28
theorem k29_0 : At 29 0 ls st I J Q ↔ At 29 1 ls (.long 0 :: st) I J Q := A_lconst (n := 0) (ab_io ci29 (by decide +kernel)) rfl
theorem k29_1 : At 29 1 [a0, a1, a2, a3, a4] (.long u :: st) I J Q ↔ At 29 2 [a0, ab_nv a1, some (.long u), none, a4] st I J Q := A_lstore_n (q := 2) (ab_io ci29 (by decide +kernel)) (Nat.le_of_ble_eq_true rfl) rfl
theorem k29_2 : At 29 2 ls st I J Q ↔ At 29 3 ls (.int (nI 0) :: st) I J Q := A_iconst (ab_io ci29 (by decide +kernel)) ic_0
theorem k29_3 : At 29 3 [a0, a1, a2, a3, a4] (.int x :: st) I J Q ↔ At 29 5 [a0, a1, a2, ab_nv a3, some (.int x)] st I J Q := A_istore (q := 4) (ab_io ci29 (by decide +kernel)) (Nat.le_of_ble_eq_true rfl) rfl
theorem k29_5 : At 29 5 [a0, a1, a2, a3, some (.int x)] st I J Q ↔ At 29 7 [a0, a1, a2, a3, some (.int x)] (.int x :: st) I J Q := A_iload (q := 4) (ab_io ci29 (by decide +kernel)) rfl
theorem k29_7 : At 29 7 ls st I J Q ↔ At 29 8 ls (.int (nI 4) :: st) I J Q := A_iconst (ab_io ci29 (by decide +kernel)) ic_4
theorem k29_8 : At 29 8 ls (.int x1 :: .int x :: st) I J Q ↔ if x1 ≤ x then At 29 36 ls st I J Q else At 29 11 ls st I J Q := A_if_icmp_ge (o := 28) (ab_io ci29 (by decide +kernel)) (by decide)
theorem k29_11 : At 29 11 [a0, a1, some (.long u), a3, a4] st I J Q ↔ At 29 12 [a0, a1, some (.long u), a3, a4] (.long u :: st) I J Q := A_lload_n (q := 2) (ab_io ci29 (by decide +kernel)) rfl
theorem k29_12 : At 29 12 ls st I J Q ↔ At 29 13 ls (.int (nI 0) :: st) I J Q := A_iconst (ab_io ci29 (by decide +kernel)) ic_0
theorem k29_13 : At 29 13 [some (.ref r), a1, a2, a3, a4] st I J Q ↔ At 29 14 [some (.ref r), a1, a2, a3, a4] (.ref r :: st) I J Q := A_aload_n (q := 0) (ab_io ci29 (by decide +kernel)) rfl
theorem k29_14_5 : At 29 14 ls (.ref 5 :: st) I J Q ↔ At 29 17 ls (.ref 6 :: st) I J Q := A_getR (ab_io ci29 (by decide +kernel)) ow29 fq1_9_5
theorem k29_14_17 : At 29 14 ls (.ref 17 :: st) I J Q ↔ At 29 17 ls (.ref 18 :: st) I J Q := A_getR (ab_io ci29 (by decide +kernel)) ow29 fq1_9_17
theorem k29_17 : At 29 17 ls st I J Q ↔ At 29 18 ls (.int (nI 4) :: st) I J Q := A_iconst (ab_io ci29 (by decide +kernel)) ic_4
theorem k29_18 : At 29 18 [a0, some (.int x), a2, a3, a4] st I J Q ↔ At 29 19 [a0, some (.int x), a2, a3, a4] (.int x :: st) I J Q := A_iload_n (q := 1) (ab_io ci29 (by decide +kernel)) rfl
theorem k29_19 : At 29 19 ls (.int x1 :: .int x :: st) I J Q ↔ At 29 20 ls (.int (x * x1) :: st) I J Q := A_imul (ab_io ci29 (by decide +kernel))
theorem k29_20 : At 29 20 [a0, a1, a2, a3, some (.int x)] st I J Q ↔ At 29 22 [a0, a1, a2, a3, some (.int x)] (.int x :: st) I J Q := A_iload (q := 4) (ab_io ci29 (by decide +kernel)) rfl
theorem k29_22 : At 29 22 ls (.int x1 :: .int x :: st) I J Q ↔ At 29 23 ls (.int (x + x1) :: st) I J Q := A_iadd (ab_io ci29 (by decide +kernel))
theorem k29_23 : At 29 23 ls (.int x :: .ref r :: st) I J Q ↔ ((ab_ly r).1 = 1 ∧ r < 75 ∧ 0 ≤ x.toInt ∧ x.toInt < (ab_ly r).2) ∧ At 29 24 ls (.int (I r x.toNatClampNeg) :: st) I J Q := A_iaload (ab_io ci29 (by decide +kernel))
theorem k29_24 : At 29 24 ls [.int x1, .int x, .long qu0] I J Q ↔ At 29 27 ls [.int (if x < x1 then x1 else x), .long qu0] I J Q := A_max (ab_io ci29 (by decide +kernel)) ow29 rfl (Nat.le_of_ble_eq_true rfl)
theorem k29_27 : At 29 27 ls (.int x :: st) I J Q ↔ At 29 28 ls (.long x.toInt64 :: st) I J Q := A_i2l (ab_io ci29 (by decide +kernel))
theorem k29_28 : At 29 28 ls (.long u1 :: .long u :: st) I J Q ↔ At 29 29 ls (.long (u + u1) :: st) I J Q := A_ladd (ab_io ci29 (by decide +kernel))
theorem k29_29 : At 29 29 [a0, a1, a2, a3, a4] (.long u :: st) I J Q ↔ At 29 30 [a0, ab_nv a1, some (.long u), none, a4] st I J Q := A_lstore_n (q := 2) (ab_io ci29 (by decide +kernel)) (Nat.le_of_ble_eq_true rfl) rfl
theorem k29_30 : At 29 30 [a0, a1, a2, a3, some (.int x)] st I J Q ↔ At 29 33 [a0, a1, a2, ab_nv a3, some (.int (x + (nI 1)))] st I J Q := A_iinc (q := 4) (ab_io ci29 (by decide +kernel)) ic_1 (Nat.le_of_ble_eq_true rfl) rfl rfl
theorem k29_33 : At 29 33 ls st I J Q ↔ At 29 5 ls st I J Q := A_goto (o := (-28)) (ab_io ci29 (by decide +kernel)) (by decide)
theorem k29_36 : At 29 36 [a0, a1, some (.long u), a3, a4] st I J Q ↔ At 29 37 [a0, a1, some (.long u), a3, a4] (.long u :: st) I J Q := A_lload_n (q := 2) (ab_io ci29 (by decide +kernel)) rfl
theorem k29_37 : At 29 37 ls [.long u] I J Q ↔ Q (some (.long u)) I J := A_lret (ab_io ci29 (by decide +kernel)) rt29
theorem k30_0 : At 30 0 ls st I J Q ↔ At 30 3 ls (.long 12 :: st) I J Q := A_ldc2_w (j := 67) (q := 443) (ab_io ci30 (by decide +kernel)) ow30 (by decide +kernel)
theorem k30_3 : At 30 3 [some (.ref r), a1] st I J Q ↔ At 30 4 [some (.ref r), a1] (.ref r :: st) I J Q := A_aload_n (q := 0) (ab_io ci30 (by decide +kernel)) rfl
theorem k30_4_5 : At 30 4 ls (.ref 5 :: st) I J Q ↔ At 30 7 ls (.ref 6 :: st) I J Q := A_getR (ab_io ci30 (by decide +kernel)) ow30 fq1_9_5
theorem k30_4_17 : At 30 4 ls (.ref 17 :: st) I J Q ↔ At 30 7 ls (.ref 18 :: st) I J Q := A_getR (ab_io ci30 (by decide +kernel)) ow30 fq1_9_17
theorem k30_7 : At 30 7 [a0, some (.int x)] st I J Q ↔ At 30 8 [a0, some (.int x)] (.int x :: st) I J Q := A_iload_n (q := 1) (ab_io ci30 (by decide +kernel)) rfl
theorem k30_8 : At 30 8 ls (.int x :: .ref r :: st) I J Q ↔ ((ab_ly r).1 = 1 ∧ r < 75 ∧ 0 ≤ x.toInt ∧ x.toInt < (ab_ly r).2) ∧ At 30 9 ls (.int (I r x.toNatClampNeg) :: st) I J Q := A_iaload (ab_io ci30 (by decide +kernel))
theorem k30_9 : At 30 9 ls (.int x :: st) I J Q ↔ At 30 10 ls (.long x.toInt64 :: st) I J Q := A_i2l (ab_io ci30 (by decide +kernel))
theorem k30_10 : At 30 10 [some (.ref r), a1] st I J Q ↔ At 30 11 [some (.ref r), a1] (.ref r :: st) I J Q := A_aload_n (q := 0) (ab_io ci30 (by decide +kernel)) rfl
theorem k30_11_5 : At 30 11 ls (.ref 5 :: st) I J Q ↔ At 30 14 ls (.long (J 5 11) :: st) I J Q := A_getJ (ab_io ci30 (by decide +kernel)) ow30 fq1_46_5
theorem k30_11_17 : At 30 11 ls (.ref 17 :: st) I J Q ↔ At 30 14 ls (.long (J 17 11) :: st) I J Q := A_getJ (ab_io ci30 (by decide +kernel)) ow30 fq1_46_17
theorem k30_14 : At 30 14 ls (.long u1 :: .long u :: st) I J Q ↔ At 30 15 ls (.long (u * u1) :: st) I J Q := A_lmul (ab_io ci30 (by decide +kernel))
theorem k30_15 : At 30 15 [some (.ref r), a1] st I J Q ↔ At 30 16 [some (.ref r), a1] (.ref r :: st) I J Q := A_aload_n (q := 0) (ab_io ci30 (by decide +kernel)) rfl
theorem k30_16_5 : At 30 16 ls (.ref 5 :: st) I J Q ↔ At 30 19 ls (.ref 15 :: st) I J Q := A_getR (ab_io ci30 (by decide +kernel)) ow30 fq1_40_5
theorem k30_16_17 : At 30 16 ls (.ref 17 :: st) I J Q ↔ At 30 19 ls (.ref 27 :: st) I J Q := A_getR (ab_io ci30 (by decide +kernel)) ow30 fq1_40_17
theorem k30_19 : At 30 19 [a0, some (.int x)] st I J Q ↔ At 30 20 [a0, some (.int x)] (.int x :: st) I J Q := A_iload_n (q := 1) (ab_io ci30 (by decide +kernel)) rfl
theorem k30_20 : At 30 20 ls st I J Q ↔ At 30 21 ls (.int (nI 4) :: st) I J Q := A_iconst (ab_io ci30 (by decide +kernel)) ic_4
theorem k30_21 : At 30 21 ls (.int x1 :: .int x :: st) I J Q ↔ ¬ x1 = 0 ∧ At 30 22 ls (.int (x - x / x1 * x1) :: st) I J Q := A_irem (ab_io ci30 (by decide +kernel))
theorem k30_22 : At 30 22 ls (.int x :: .ref r :: st) I J Q ↔ ((ab_ly r).1 = 2 ∧ r < 75 ∧ 0 ≤ x.toInt ∧ x.toInt < (ab_ly r).2) ∧ At 30 23 ls (.long (J r x.toNatClampNeg) :: st) I J Q := A_laload (ab_io ci30 (by decide +kernel))
theorem k30_23 : At 30 23 ls (.long u1 :: .long u :: st) I J Q ↔ At 30 24 ls (.long (u + u1) :: st) I J Q := A_ladd (ab_io ci30 (by decide +kernel))
theorem k30_24 : At 30 24 ls (.long u1 :: .long u :: st) I J Q ↔ At 30 25 ls (.long (u * u1) :: st) I J Q := A_lmul (ab_io ci30 (by decide +kernel))
theorem k30_25 : At 30 25 [some (.ref r), a1] st I J Q ↔ At 30 26 [some (.ref r), a1] (.ref r :: st) I J Q := A_aload_n (q := 0) (ab_io ci30 (by decide +kernel)) rfl
theorem k30_26_5 : At 30 26 ls (.ref 5 :: st) I J Q ↔ At 30 29 ls (.ref 16 :: st) I J Q := A_getR (ab_io ci30 (by decide +kernel)) ow30 fq1_43_5
theorem k30_26_17 : At 30 26 ls (.ref 17 :: st) I J Q ↔ At 30 29 ls (.ref 28 :: st) I J Q := A_getR (ab_io ci30 (by decide +kernel)) ow30 fq1_43_17
theorem k30_29 : At 30 29 [a0, some (.int x)] st I J Q ↔ At 30 30 [a0, some (.int x)] (.int x :: st) I J Q := A_iload_n (q := 1) (ab_io ci30 (by decide +kernel)) rfl
theorem k30_30 : At 30 30 ls st I J Q ↔ At 30 31 ls (.int (nI 4) :: st) I J Q := A_iconst (ab_io ci30 (by decide +kernel)) ic_4
theorem k30_31 : At 30 31 ls (.int x1 :: .int x :: st) I J Q ↔ ¬ x1 = 0 ∧ At 30 32 ls (.int (x / x1) :: st) I J Q := A_idiv (ab_io ci30 (by decide +kernel))
theorem k30_32 : At 30 32 ls (.int x :: .ref r :: st) I J Q ↔ ((ab_ly r).1 = 2 ∧ r < 75 ∧ 0 ≤ x.toInt ∧ x.toInt < (ab_ly r).2) ∧ At 30 33 ls (.long (J r x.toNatClampNeg) :: st) I J Q := A_laload (ab_io ci30 (by decide +kernel))
theorem k30_33 : At 30 33 ls (.long u1 :: .long u :: st) I J Q ↔ At 30 34 ls (.long (u - u1) :: st) I J Q := A_lsub (ab_io ci30 (by decide +kernel))
theorem k30_34 : At 30 34 ls [.long u] I J Q ↔ Q (some (.long u)) I J := A_lret (ab_io ci30 (by decide +kernel)) rt30
theorem k31_0 : At 31 0 ls st I J Q ↔ At 31 1 ls (.long 0 :: st) I J Q := A_lconst (n := 0) (ab_io ci31 (by decide +kernel)) rfl
theorem k31_1 : At 31 1 [a0, a1, a2, a3, a4] (.long u :: st) I J Q ↔ At 31 2 [a0, ab_nv a1, some (.long u), none, a4] st I J Q := A_lstore_n (q := 2) (ab_io ci31 (by decide +kernel)) (Nat.le_of_ble_eq_true rfl) rfl
theorem k31_2 : At 31 2 ls st I J Q ↔ At 31 3 ls (.int (nI 0) :: st) I J Q := A_iconst (ab_io ci31 (by decide +kernel)) ic_0
theorem k31_3 : At 31 3 [a0, a1, a2, a3, a4] (.int x :: st) I J Q ↔ At 31 5 [a0, a1, a2, ab_nv a3, some (.int x)] st I J Q := A_istore (q := 4) (ab_io ci31 (by decide +kernel)) (Nat.le_of_ble_eq_true rfl) rfl
theorem k31_5 : At 31 5 [a0, a1, a2, a3, some (.int x)] st I J Q ↔ At 31 7 [a0, a1, a2, a3, some (.int x)] (.int x :: st) I J Q := A_iload (q := 4) (ab_io ci31 (by decide +kernel)) rfl
theorem k31_7 : At 31 7 ls st I J Q ↔ At 31 9 ls (.int (nI 48) :: st) I J Q := A_bipush (ab_io ci31 (by decide +kernel)) bc_48
theorem k31_9 : At 31 9 ls (.int x1 :: .int x :: st) I J Q ↔ if x1 ≤ x then At 31 52 ls st I J Q else At 31 12 ls st I J Q := A_if_icmp_ge (o := 43) (ab_io ci31 (by decide +kernel)) (by decide)
theorem k31_12 : At 31 12 [some (.ref r), a1, a2, a3, a4] st I J Q ↔ At 31 13 [some (.ref r), a1, a2, a3, a4] (.ref r :: st) I J Q := A_aload_n (q := 0) (ab_io ci31 (by decide +kernel)) rfl
theorem k31_13_5 : At 31 13 ls (.ref 5 :: st) I J Q ↔ At 31 16 ls (.ref 6 :: st) I J Q := A_getR (ab_io ci31 (by decide +kernel)) ow31 fq1_9_5
theorem k31_13_17 : At 31 13 ls (.ref 17 :: st) I J Q ↔ At 31 16 ls (.ref 18 :: st) I J Q := A_getR (ab_io ci31 (by decide +kernel)) ow31 fq1_9_17
theorem k31_16 : At 31 16 [a0, a1, a2, a3, some (.int x)] st I J Q ↔ At 31 18 [a0, a1, a2, a3, some (.int x)] (.int x :: st) I J Q := A_iload (q := 4) (ab_io ci31 (by decide +kernel)) rfl
theorem k31_18 : At 31 18 ls (.int x :: .ref r :: st) I J Q ↔ ((ab_ly r).1 = 1 ∧ r < 75 ∧ 0 ≤ x.toInt ∧ x.toInt < (ab_ly r).2) ∧ At 31 19 ls (.int (I r x.toNatClampNeg) :: st) I J Q := A_iaload (ab_io ci31 (by decide +kernel))
theorem k31_19 : At 31 19 ls st I J Q ↔ At 31 20 ls (.int (-1) :: st) I J Q := A_iconst (ab_io ci31 (by decide +kernel)) ic_m1
theorem k31_20 : At 31 20 ls (.int x1 :: .int x :: st) I J Q ↔ if x = x1 then At 31 46 ls st I J Q else At 31 23 ls st I J Q := A_if_icmp_eq (o := 26) (ab_io ci31 (by decide +kernel)) (by decide)
theorem k31_23 : At 31 23 [a0, some (.int x), a2, a3, a4] st I J Q ↔ At 31 24 [a0, some (.int x), a2, a3, a4] (.int x :: st) I J Q := A_iload_n (q := 1) (ab_io ci31 (by decide +kernel)) rfl
theorem k31_24 : At 31 24 [a0, a1, a2, a3, some (.int x)] st I J Q ↔ At 31 26 [a0, a1, a2, a3, some (.int x)] (.int x :: st) I J Q := A_iload (q := 4) (ab_io ci31 (by decide +kernel)) rfl
theorem k31_26 : At 31 26 ls st I J Q ↔ At 31 27 ls (.int (nI 4) :: st) I J Q := A_iconst (ab_io ci31 (by decide +kernel)) ic_4
theorem k31_27 : At 31 27 ls (.int x1 :: .int x :: st) I J Q ↔ ¬ x1 = 0 ∧ At 31 28 ls (.int (x - x / x1 * x1) :: st) I J Q := A_irem (ab_io ci31 (by decide +kernel))
theorem k31_28 : At 31 28 ls (.int x1 :: .int x :: st) I J Q ↔ At 31 29 ls (.int (x >>> (x1 &&& 31)) :: st) I J Q := A_ishr (ab_io ci31 (by decide +kernel))
theorem k31_29 : At 31 29 ls st I J Q ↔ At 31 30 ls (.int (nI 1) :: st) I J Q := A_iconst (ab_io ci31 (by decide +kernel)) ic_1
theorem k31_30 : At 31 30 ls (.int x1 :: .int x :: st) I J Q ↔ At 31 31 ls (.int (x &&& x1) :: st) I J Q := A_iand (ab_io ci31 (by decide +kernel))
theorem k31_31 : At 31 31 ls (.int x :: st) I J Q ↔ if x = 0 then At 31 46 ls st I J Q else At 31 34 ls st I J Q := A_ifCond_eq (o := 15) (ab_io ci31 (by decide +kernel)) (by decide)
theorem k31_34 : At 31 34 [a0, a1, some (.long u), a3, a4] st I J Q ↔ At 31 35 [a0, a1, some (.long u), a3, a4] (.long u :: st) I J Q := A_lload_n (q := 2) (ab_io ci31 (by decide +kernel)) rfl
theorem k31_35 : At 31 35 [some (.ref r), a1, a2, a3, a4] st I J Q ↔ At 31 36 [some (.ref r), a1, a2, a3, a4] (.ref r :: st) I J Q := A_aload_n (q := 0) (ab_io ci31 (by decide +kernel)) rfl
theorem k31_36 : At 31 36 [a0, a1, a2, a3, some (.int x)] st I J Q ↔ At 31 38 [a0, a1, a2, a3, some (.int x)] (.int x :: st) I J Q := A_iload (q := 4) (ab_io ci31 (by decide +kernel)) rfl
theorem k31_38_5 : At 31 38 ls [.int p0, .ref 5, .long qu0] I J Q ↔ Cal 30 [.ref 5, .int p0] I J (fun v I' J' => At 31 41 ls (v.toList ++ [.long qu0]) I' J' Q) := A_cal (kd := 0) (j := 124) (na := 2) (ea := 2) (rk := 5) (by decide +kernel) rfl rfl rfl (Or.inr rfl) (Nat.le_of_ble_eq_true rfl)
theorem k31_38_17 : At 31 38 ls [.int p0, .ref 17, .long qu0] I J Q ↔ Cal 30 [.ref 17, .int p0] I J (fun v I' J' => At 31 41 ls (v.toList ++ [.long qu0]) I' J' Q) := A_cal (kd := 0) (j := 124) (na := 2) (ea := 2) (rk := 17) (by decide +kernel) rfl rfl rfl (Or.inr rfl) (Nat.le_of_ble_eq_true rfl)
theorem k31_41 : At 31 41 ls [.long u, .long qu0] I J Q ↔ At 31 44 ls [.long (if 0 < u then u else -u), .long qu0] I J Q := A_abs (j := 127) (q0 := 0) (q1 := 520) (by decide +kernel) (Nat.le_of_ble_eq_true rfl)
theorem k31_44 : At 31 44 ls (.long u1 :: .long u :: st) I J Q ↔ At 31 45 ls (.long (u + u1) :: st) I J Q := A_ladd (ab_io ci31 (by decide +kernel))
theorem k31_45 : At 31 45 [a0, a1, a2, a3, a4] (.long u :: st) I J Q ↔ At 31 46 [a0, ab_nv a1, some (.long u), none, a4] st I J Q := A_lstore_n (q := 2) (ab_io ci31 (by decide +kernel)) (Nat.le_of_ble_eq_true rfl) rfl
theorem k31_46 : At 31 46 [a0, a1, a2, a3, some (.int x)] st I J Q ↔ At 31 49 [a0, a1, a2, ab_nv a3, some (.int (x + (nI 1)))] st I J Q := A_iinc (q := 4) (ab_io ci31 (by decide +kernel)) ic_1 (Nat.le_of_ble_eq_true rfl) rfl rfl
theorem k31_49 : At 31 49 ls st I J Q ↔ At 31 5 ls st I J Q := A_goto (o := (-44)) (ab_io ci31 (by decide +kernel)) (by decide)
theorem k31_52 : At 31 52 [a0, a1, some (.long u), a3, a4] st I J Q ↔ At 31 53 [a0, a1, some (.long u), a3, a4] (.long u :: st) I J Q := A_lload_n (q := 2) (ab_io ci31 (by decide +kernel)) rfl
theorem k31_53 : At 31 53 ls [.long u] I J Q ↔ Q (some (.long u)) I J := A_lret (ab_io ci31 (by decide +kernel)) rt31
theorem k32_0 : At 32 0 [some (.ref r), a1, a2] st I J Q ↔ At 32 1 [some (.ref r), a1, a2] (.ref r :: st) I J Q := A_aload_n (q := 0) (ab_io ci32 (by decide +kernel)) rfl
theorem k32_1_5 : At 32 1 ls (.ref 5 :: st) I J Q ↔ At 32 4 ls (.ref 11 :: st) I J Q := A_getR (ab_io ci32 (by decide +kernel)) ow32 fq1_28_5
theorem k32_1_17 : At 32 1 ls (.ref 17 :: st) I J Q ↔ At 32 4 ls (.ref 23 :: st) I J Q := A_getR (ab_io ci32 (by decide +kernel)) ow32 fq1_28_17
theorem k32_4 : At 32 4 [a0, some (.int x), a2] st I J Q ↔ At 32 5 [a0, some (.int x), a2] (.int x :: st) I J Q := A_iload_n (q := 1) (ab_io ci32 (by decide +kernel)) rfl
theorem k32_5 : At 32 5 ls (.int x :: .ref r :: st) I J Q ↔ ((ab_ly r).1 = 1 ∧ r < 75 ∧ 0 ≤ x.toInt ∧ x.toInt < (ab_ly r).2) ∧ At 32 6 ls (.int (I r x.toNatClampNeg) :: st) I J Q := A_iaload (ab_io ci32 (by decide +kernel))
theorem k32_6 : At 32 6 ls st I J Q ↔ At 32 7 ls (.int (-1) :: st) I J Q := A_iconst (ab_io ci32 (by decide +kernel)) ic_m1
theorem k32_7 : At 32 7 ls (.int x1 :: .int x :: st) I J Q ↔ if x = x1 then At 32 29 ls st I J Q else At 32 10 ls st I J Q := A_if_icmp_eq (o := 22) (ab_io ci32 (by decide +kernel)) (by decide)
theorem k32_10 : At 32 10 [some (.ref r), a1, a2] st I J Q ↔ At 32 11 [some (.ref r), a1, a2] (.ref r :: st) I J Q := A_aload_n (q := 0) (ab_io ci32 (by decide +kernel)) rfl
theorem k32_11_5 : At 32 11 ls (.ref 5 :: st) I J Q ↔ At 32 14 ls (.ref 11 :: st) I J Q := A_getR (ab_io ci32 (by decide +kernel)) ow32 fq1_28_5
theorem k32_11_17 : At 32 11 ls (.ref 17 :: st) I J Q ↔ At 32 14 ls (.ref 23 :: st) I J Q := A_getR (ab_io ci32 (by decide +kernel)) ow32 fq1_28_17
theorem k32_14 : At 32 14 [a0, some (.int x), a2] st I J Q ↔ At 32 15 [a0, some (.int x), a2] (.int x :: st) I J Q := A_iload_n (q := 1) (ab_io ci32 (by decide +kernel)) rfl
theorem k32_15 : At 32 15 ls (.int x :: .ref r :: st) I J Q ↔ ((ab_ly r).1 = 1 ∧ r < 75 ∧ 0 ≤ x.toInt ∧ x.toInt < (ab_ly r).2) ∧ At 32 16 ls (.int (I r x.toNatClampNeg) :: st) I J Q := A_iaload (ab_io ci32 (by decide +kernel))
theorem k32_16 : At 32 16 [some (.ref r), a1, a2] st I J Q ↔ At 32 17 [some (.ref r), a1, a2] (.ref r :: st) I J Q := A_aload_n (q := 0) (ab_io ci32 (by decide +kernel)) rfl
theorem k32_17_5 : At 32 17 ls (.ref 5 :: st) I J Q ↔ At 32 20 ls (.ref 11 :: st) I J Q := A_getR (ab_io ci32 (by decide +kernel)) ow32 fq1_28_5
theorem k32_17_17 : At 32 17 ls (.ref 17 :: st) I J Q ↔ At 32 20 ls (.ref 23 :: st) I J Q := A_getR (ab_io ci32 (by decide +kernel)) ow32 fq1_28_17
theorem k32_20 : At 32 20 [a0, a1, some (.int x)] st I J Q ↔ At 32 21 [a0, a1, some (.int x)] (.int x :: st) I J Q := A_iload_n (q := 2) (ab_io ci32 (by decide +kernel)) rfl
theorem k32_21 : At 32 21 ls (.int x :: .ref r :: st) I J Q ↔ ((ab_ly r).1 = 1 ∧ r < 75 ∧ 0 ≤ x.toInt ∧ x.toInt < (ab_ly r).2) ∧ At 32 22 ls (.int (I r x.toNatClampNeg) :: st) I J Q := A_iaload (ab_io ci32 (by decide +kernel))
theorem k32_22 : At 32 22 ls (.int x1 :: .int x :: st) I J Q ↔ if ¬ x = x1 then At 32 29 ls st I J Q else At 32 25 ls st I J Q := A_if_icmp_ne (o := 7) (ab_io ci32 (by decide +kernel)) (by decide)
theorem k32_25 : At 32 25 ls st I J Q ↔ At 32 26 ls (.int (nI 1) :: st) I J Q := A_iconst (ab_io ci32 (by decide +kernel)) ic_1
theorem k32_26 : At 32 26 ls st I J Q ↔ At 32 30 ls st I J Q := A_goto (o := 4) (ab_io ci32 (by decide +kernel)) (by decide)
theorem k32_29 : At 32 29 ls st I J Q ↔ At 32 30 ls (.int (nI 0) :: st) I J Q := A_iconst (ab_io ci32 (by decide +kernel)) ic_0
theorem k32_30 : At 32 30 ls [.int x] I J Q ↔ (x = 0 ∨ x = 1) ∧ Q (some (.int x)) I J := A_zret (ab_io ci32 (by decide +kernel)) rt32
theorem k33_0 : At 33 0 [some (.ref r), a1, a2, a3, a4, a5, a6, a7, a8] st I J Q ↔ At 33 1 [some (.ref r), a1, a2, a3, a4, a5, a6, a7, a8] (.ref r :: st) I J Q := A_aload_n (q := 0) (ab_io ci33 (by decide +kernel)) rfl
theorem k33_1_5 : At 33 1 ls (.ref 5 :: st) I J Q ↔ At 33 4 ls (.long (J 5 11) :: st) I J Q := A_getJ (ab_io ci33 (by decide +kernel)) ow33 fq1_46_5
theorem k33_1_17 : At 33 1 ls (.ref 17 :: st) I J Q ↔ At 33 4 ls (.long (J 17 11) :: st) I J Q := A_getJ (ab_io ci33 (by decide +kernel)) ow33 fq1_46_17
theorem k33_4 : At 33 4 [some (.ref r), a1, a2, a3, a4, a5, a6, a7, a8] st I J Q ↔ At 33 5 [some (.ref r), a1, a2, a3, a4, a5, a6, a7, a8] (.ref r :: st) I J Q := A_aload_n (q := 0) (ab_io ci33 (by decide +kernel)) rfl
theorem k33_5_5 : At 33 5 ls (.ref 5 :: st) I J Q ↔ At 33 8 ls (.ref 8 :: st) I J Q := A_getR (ab_io ci33 (by decide +kernel)) ow33 fq1_18_5
theorem k33_5_17 : At 33 5 ls (.ref 17 :: st) I J Q ↔ At 33 8 ls (.ref 20 :: st) I J Q := A_getR (ab_io ci33 (by decide +kernel)) ow33 fq1_18_17
theorem k33_8 : At 33 8 [a0, some (.int x), a2, a3, a4, a5, a6, a7, a8] st I J Q ↔ At 33 9 [a0, some (.int x), a2, a3, a4, a5, a6, a7, a8] (.int x :: st) I J Q := A_iload_n (q := 1) (ab_io ci33 (by decide +kernel)) rfl
theorem k33_9 : At 33 9 ls (.int x :: .ref r :: st) I J Q ↔ ((ab_ly r).1 = 2 ∧ r < 75 ∧ 0 ≤ x.toInt ∧ x.toInt < (ab_ly r).2) ∧ At 33 10 ls (.long (J r x.toNatClampNeg) :: st) I J Q := A_laload (ab_io ci33 (by decide +kernel))
theorem k33_10 : At 33 10 [some (.ref r), a1, a2, a3, a4, a5, a6, a7, a8] st I J Q ↔ At 33 11 [some (.ref r), a1, a2, a3, a4, a5, a6, a7, a8] (.ref r :: st) I J Q := A_aload_n (q := 0) (ab_io ci33 (by decide +kernel)) rfl
theorem k33_11_5 : At 33 11 ls (.ref 5 :: st) I J Q ↔ At 33 14 ls (.ref 8 :: st) I J Q := A_getR (ab_io ci33 (by decide +kernel)) ow33 fq1_18_5
theorem k33_11_17 : At 33 11 ls (.ref 17 :: st) I J Q ↔ At 33 14 ls (.ref 20 :: st) I J Q := A_getR (ab_io ci33 (by decide +kernel)) ow33 fq1_18_17
theorem k33_14 : At 33 14 [a0, a1, some (.int x), a3, a4, a5, a6, a7, a8] st I J Q ↔ At 33 15 [a0, a1, some (.int x), a3, a4, a5, a6, a7, a8] (.int x :: st) I J Q := A_iload_n (q := 2) (ab_io ci33 (by decide +kernel)) rfl
theorem k33_15 : At 33 15 ls (.int x :: .ref r :: st) I J Q ↔ ((ab_ly r).1 = 2 ∧ r < 75 ∧ 0 ≤ x.toInt ∧ x.toInt < (ab_ly r).2) ∧ At 33 16 ls (.long (J r x.toNatClampNeg) :: st) I J Q := A_laload (ab_io ci33 (by decide +kernel))
theorem k33_16 : At 33 16 ls (.long u1 :: .long u :: st) I J Q ↔ At 33 17 ls (.long (u + u1) :: st) I J Q := A_ladd (ab_io ci33 (by decide +kernel))
theorem k33_17 : At 33 17 ls (.long u1 :: .long u :: st) I J Q ↔ At 33 18 ls (.long (u * u1) :: st) I J Q := A_lmul (ab_io ci33 (by decide +kernel))
theorem k33_18 : At 33 18 [a0, a1, a2, a3, a4, a5, a6, a7, a8] (.long u :: st) I J Q ↔ At 33 19 [a0, a1, ab_nv a2, some (.long u), none, a5, a6, a7, a8] st I J Q := A_lstore_n (q := 3) (ab_io ci33 (by decide +kernel)) (Nat.le_of_ble_eq_true rfl) rfl
theorem k33_19 : At 33 19 ls st I J Q ↔ At 33 20 ls (.int (nI 0) :: st) I J Q := A_iconst (ab_io ci33 (by decide +kernel)) ic_0
theorem k33_20 : At 33 20 [a0, a1, a2, a3, a4, a5, a6, a7, a8] (.int x :: st) I J Q ↔ At 33 22 [a0, a1, a2, a3, ab_nv a4, some (.int x), a6, a7, a8] st I J Q := A_istore (q := 5) (ab_io ci33 (by decide +kernel)) (Nat.le_of_ble_eq_true rfl) rfl
theorem k33_22 : At 33 22 [a0, a1, a2, a3, a4, some (.int x), a6, a7, a8] st I J Q ↔ At 33 24 [a0, a1, a2, a3, a4, some (.int x), a6, a7, a8] (.int x :: st) I J Q := A_iload (q := 5) (ab_io ci33 (by decide +kernel)) rfl
theorem k33_24 : At 33 24 ls st I J Q ↔ At 33 25 ls (.int (nI 3) :: st) I J Q := A_iconst (ab_io ci33 (by decide +kernel)) ic_3
theorem k33_25 : At 33 25 ls (.int x1 :: .int x :: st) I J Q ↔ if x1 ≤ x then At 33 107 ls st I J Q else At 33 28 ls st I J Q := A_if_icmp_ge (o := 82) (ab_io ci33 (by decide +kernel)) (by decide)
theorem k33_28 : At 33 28 [some (.ref r), a1, a2, a3, a4, a5, a6, a7, a8] st I J Q ↔ At 33 29 [some (.ref r), a1, a2, a3, a4, a5, a6, a7, a8] (.ref r :: st) I J Q := A_aload_n (q := 0) (ab_io ci33 (by decide +kernel)) rfl
theorem k33_29 : At 33 29 [a0, some (.int x), a2, a3, a4, a5, a6, a7, a8] st I J Q ↔ At 33 30 [a0, some (.int x), a2, a3, a4, a5, a6, a7, a8] (.int x :: st) I J Q := A_iload_n (q := 1) (ab_io ci33 (by decide +kernel)) rfl
theorem k33_30 : At 33 30 [a0, a1, a2, a3, a4, some (.int x), a6, a7, a8] st I J Q ↔ At 33 32 [a0, a1, a2, a3, a4, some (.int x), a6, a7, a8] (.int x :: st) I J Q := A_iload (q := 5) (ab_io ci33 (by decide +kernel)) rfl
theorem k33_32_5 : At 33 32 ls [.int p0, .int p1, .ref 5] I J Q ↔ Cal 23 [.ref 5, .int p1, .int p0] I J (fun v I' J' => At 33 35 ls (v.toList ++ []) I' J' Q) := A_cal (kd := 0) (j := 104) (na := 3) (ea := 3) (rk := 5) (by decide +kernel) rfl rfl rfl (Or.inr rfl) (Nat.le_of_ble_eq_true rfl)
theorem k33_32_17 : At 33 32 ls [.int p0, .int p1, .ref 17] I J Q ↔ Cal 23 [.ref 17, .int p1, .int p0] I J (fun v I' J' => At 33 35 ls (v.toList ++ []) I' J' Q) := A_cal (kd := 0) (j := 104) (na := 3) (ea := 3) (rk := 17) (by decide +kernel) rfl rfl rfl (Or.inr rfl) (Nat.le_of_ble_eq_true rfl)
theorem k33_35 : At 33 35 [some (.ref r), a1, a2, a3, a4, a5, a6, a7, a8] st I J Q ↔ At 33 36 [some (.ref r), a1, a2, a3, a4, a5, a6, a7, a8] (.ref r :: st) I J Q := A_aload_n (q := 0) (ab_io ci33 (by decide +kernel)) rfl
theorem k33_36 : At 33 36 [a0, a1, some (.int x), a3, a4, a5, a6, a7, a8] st I J Q ↔ At 33 37 [a0, a1, some (.int x), a3, a4, a5, a6, a7, a8] (.int x :: st) I J Q := A_iload_n (q := 2) (ab_io ci33 (by decide +kernel)) rfl
theorem k33_37 : At 33 37 [a0, a1, a2, a3, a4, some (.int x), a6, a7, a8] st I J Q ↔ At 33 39 [a0, a1, a2, a3, a4, some (.int x), a6, a7, a8] (.int x :: st) I J Q := A_iload (q := 5) (ab_io ci33 (by decide +kernel)) rfl
theorem k33_39_5 : At 33 39 ls [.int p0, .int p1, .ref 5, .long qu0] I J Q ↔ Cal 23 [.ref 5, .int p1, .int p0] I J (fun v I' J' => At 33 42 ls (v.toList ++ [.long qu0]) I' J' Q) := A_cal (kd := 0) (j := 104) (na := 3) (ea := 3) (rk := 5) (by decide +kernel) rfl rfl rfl (Or.inr rfl) (Nat.le_of_ble_eq_true rfl)
theorem k33_39_17 : At 33 39 ls [.int p0, .int p1, .ref 17, .long qu0] I J Q ↔ Cal 23 [.ref 17, .int p1, .int p0] I J (fun v I' J' => At 33 42 ls (v.toList ++ [.long qu0]) I' J' Q) := A_cal (kd := 0) (j := 104) (na := 3) (ea := 3) (rk := 17) (by decide +kernel) rfl rfl rfl (Or.inr rfl) (Nat.le_of_ble_eq_true rfl)
theorem k33_42 : At 33 42 ls (.long u1 :: .long u :: st) I J Q ↔ At 33 43 ls (.long (u - u1) :: st) I J Q := A_lsub (ab_io ci33 (by decide +kernel))
theorem k33_43 : At 33 43 [a0, a1, a2, a3, a4, a5, a6, a7, a8] (.long u :: st) I J Q ↔ At 33 45 [a0, a1, a2, a3, a4, ab_nv a5, some (.long u), none, a8] st I J Q := A_lstore (q := 6) (ab_io ci33 (by decide +kernel)) (Nat.le_of_ble_eq_true rfl) rfl
theorem k33_45 : At 33 45 ls st I J Q ↔ At 33 46 ls (.int (nI 0) :: st) I J Q := A_iconst (ab_io ci33 (by decide +kernel)) ic_0
theorem k33_46 : At 33 46 [a0, a1, a2, a3, a4, a5, a6, a7, a8] (.int x :: st) I J Q ↔ At 33 48 [a0, a1, a2, a3, a4, a5, a6, ab_nv a7, some (.int x)] st I J Q := A_istore (q := 8) (ab_io ci33 (by decide +kernel)) (Nat.le_of_ble_eq_true rfl) rfl
theorem k33_48 : At 33 48 [a0, a1, a2, a3, a4, a5, some (.long u), a7, a8] st I J Q ↔ At 33 50 [a0, a1, a2, a3, a4, a5, some (.long u), a7, a8] (.long u :: st) I J Q := A_lload (q := 6) (ab_io ci33 (by decide +kernel)) rfl
theorem k33_50 : At 33 50 ls st I J Q ↔ At 33 51 ls (.long 0 :: st) I J Q := A_lconst (n := 0) (ab_io ci33 (by decide +kernel)) rfl
theorem k33_51 : At 33 51 ls (.long u1 :: .long u :: st) I J Q ↔ At 33 52 ls (.int (lg_cmp u u1) :: st) I J Q := A_lcmp (ab_io ci33 (by decide +kernel))
theorem k33_52 : At 33 52 ls (.int x :: st) I J Q ↔ if x = 0 then At 33 101 ls st I J Q else At 33 55 ls st I J Q := A_ifCond_eq (o := 49) (ab_io ci33 (by decide +kernel)) (by decide)
theorem k33_55 : At 33 55 [a0, a1, a2, a3, a4, a5, a6, a7, some (.int x)] st I J Q ↔ At 33 57 [a0, a1, a2, a3, a4, a5, a6, a7, some (.int x)] (.int x :: st) I J Q := A_iload (q := 8) (ab_io ci33 (by decide +kernel)) rfl
theorem k33_57 : At 33 57 ls st I J Q ↔ At 33 58 ls (.int (nI 3) :: st) I J Q := A_iconst (ab_io ci33 (by decide +kernel)) ic_3
theorem k33_58 : At 33 58 ls (.int x1 :: .int x :: st) I J Q ↔ if x1 ≤ x then At 33 101 ls st I J Q else At 33 61 ls st I J Q := A_if_icmp_ge (o := 43) (ab_io ci33 (by decide +kernel)) (by decide)
theorem k33_61 : At 33 61 [a0, a1, a2, some (.long u), a4, a5, a6, a7, a8] st I J Q ↔ At 33 62 [a0, a1, a2, some (.long u), a4, a5, a6, a7, a8] (.long u :: st) I J Q := A_lload_n (q := 3) (ab_io ci33 (by decide +kernel)) rfl
theorem k33_62 : At 33 62 [a0, a1, a2, a3, a4, a5, some (.long u), a7, a8] st I J Q ↔ At 33 64 [a0, a1, a2, a3, a4, a5, some (.long u), a7, a8] (.long u :: st) I J Q := A_lload (q := 6) (ab_io ci33 (by decide +kernel)) rfl
theorem k33_64 : At 33 64 [some (.ref r), a1, a2, a3, a4, a5, a6, a7, a8] st I J Q ↔ At 33 65 [some (.ref r), a1, a2, a3, a4, a5, a6, a7, a8] (.ref r :: st) I J Q := A_aload_n (q := 0) (ab_io ci33 (by decide +kernel)) rfl
theorem k33_65_5 : At 33 65 ls (.ref 5 :: st) I J Q ↔ At 33 68 ls (.ref 13 :: st) I J Q := A_getR (ab_io ci33 (by decide +kernel)) ow33 fq1_34_5
theorem k33_65_17 : At 33 65 ls (.ref 17 :: st) I J Q ↔ At 33 68 ls (.ref 25 :: st) I J Q := A_getR (ab_io ci33 (by decide +kernel)) ow33 fq1_34_17
theorem k33_68 : At 33 68 ls st I J Q ↔ At 33 69 ls (.int (nI 3) :: st) I J Q := A_iconst (ab_io ci33 (by decide +kernel)) ic_3
theorem k33_69 : At 33 69 [a0, a1, a2, a3, a4, some (.int x), a6, a7, a8] st I J Q ↔ At 33 71 [a0, a1, a2, a3, a4, some (.int x), a6, a7, a8] (.int x :: st) I J Q := A_iload (q := 5) (ab_io ci33 (by decide +kernel)) rfl
theorem k33_71 : At 33 71 ls (.int x1 :: .int x :: st) I J Q ↔ At 33 72 ls (.int (x * x1) :: st) I J Q := A_imul (ab_io ci33 (by decide +kernel))
theorem k33_72 : At 33 72 [a0, a1, a2, a3, a4, a5, a6, a7, some (.int x)] st I J Q ↔ At 33 74 [a0, a1, a2, a3, a4, a5, a6, a7, some (.int x)] (.int x :: st) I J Q := A_iload (q := 8) (ab_io ci33 (by decide +kernel)) rfl
theorem k33_74 : At 33 74 ls (.int x1 :: .int x :: st) I J Q ↔ At 33 75 ls (.int (x + x1) :: st) I J Q := A_iadd (ab_io ci33 (by decide +kernel))
theorem k33_75 : At 33 75 ls (.int x :: .ref r :: st) I J Q ↔ ((ab_ly r).1 = 2 ∧ r < 75 ∧ 0 ≤ x.toInt ∧ x.toInt < (ab_ly r).2) ∧ At 33 76 ls (.long (J r x.toNatClampNeg) :: st) I J Q := A_laload (ab_io ci33 (by decide +kernel))
theorem k33_76 : At 33 76 ls (.long u1 :: .long u :: st) I J Q ↔ At 33 77 ls (.long (u * u1) :: st) I J Q := A_lmul (ab_io ci33 (by decide +kernel))
theorem k33_77 : At 33 77 [some (.ref r), a1, a2, a3, a4, a5, a6, a7, a8] st I J Q ↔ At 33 78 [some (.ref r), a1, a2, a3, a4, a5, a6, a7, a8] (.ref r :: st) I J Q := A_aload_n (q := 0) (ab_io ci33 (by decide +kernel)) rfl
theorem k33_78 : At 33 78 [a0, some (.int x), a2, a3, a4, a5, a6, a7, a8] st I J Q ↔ At 33 79 [a0, some (.int x), a2, a3, a4, a5, a6, a7, a8] (.int x :: st) I J Q := A_iload_n (q := 1) (ab_io ci33 (by decide +kernel)) rfl
theorem k33_79 : At 33 79 [a0, a1, a2, a3, a4, a5, a6, a7, some (.int x)] st I J Q ↔ At 33 81 [a0, a1, a2, a3, a4, a5, a6, a7, some (.int x)] (.int x :: st) I J Q := A_iload (q := 8) (ab_io ci33 (by decide +kernel)) rfl
theorem k33_81_5 : At 33 81 ls [.int p0, .int p1, .ref 5, .long qu0, .long qu1] I J Q ↔ Cal 23 [.ref 5, .int p1, .int p0] I J (fun v I' J' => At 33 84 ls (v.toList ++ [.long qu0, .long qu1]) I' J' Q) := A_cal (kd := 0) (j := 104) (na := 3) (ea := 3) (rk := 5) (by decide +kernel) rfl rfl rfl (Or.inr rfl) (Nat.le_of_ble_eq_true rfl)
theorem k33_81_17 : At 33 81 ls [.int p0, .int p1, .ref 17, .long qu0, .long qu1] I J Q ↔ Cal 23 [.ref 17, .int p1, .int p0] I J (fun v I' J' => At 33 84 ls (v.toList ++ [.long qu0, .long qu1]) I' J' Q) := A_cal (kd := 0) (j := 104) (na := 3) (ea := 3) (rk := 17) (by decide +kernel) rfl rfl rfl (Or.inr rfl) (Nat.le_of_ble_eq_true rfl)
theorem k33_84 : At 33 84 [some (.ref r), a1, a2, a3, a4, a5, a6, a7, a8] st I J Q ↔ At 33 85 [some (.ref r), a1, a2, a3, a4, a5, a6, a7, a8] (.ref r :: st) I J Q := A_aload_n (q := 0) (ab_io ci33 (by decide +kernel)) rfl
theorem k33_85 : At 33 85 [a0, a1, some (.int x), a3, a4, a5, a6, a7, a8] st I J Q ↔ At 33 86 [a0, a1, some (.int x), a3, a4, a5, a6, a7, a8] (.int x :: st) I J Q := A_iload_n (q := 2) (ab_io ci33 (by decide +kernel)) rfl
theorem k33_86 : At 33 86 [a0, a1, a2, a3, a4, a5, a6, a7, some (.int x)] st I J Q ↔ At 33 88 [a0, a1, a2, a3, a4, a5, a6, a7, some (.int x)] (.int x :: st) I J Q := A_iload (q := 8) (ab_io ci33 (by decide +kernel)) rfl
theorem k33_88_5 : At 33 88 ls [.int p0, .int p1, .ref 5, .long qu0, .long qu1, .long qu2] I J Q ↔ Cal 23 [.ref 5, .int p1, .int p0] I J (fun v I' J' => At 33 91 ls (v.toList ++ [.long qu0, .long qu1, .long qu2]) I' J' Q) := A_cal (kd := 0) (j := 104) (na := 3) (ea := 3) (rk := 5) (by decide +kernel) rfl rfl rfl (Or.inr rfl) (Nat.le_of_ble_eq_true rfl)
theorem k33_88_17 : At 33 88 ls [.int p0, .int p1, .ref 17, .long qu0, .long qu1, .long qu2] I J Q ↔ Cal 23 [.ref 17, .int p1, .int p0] I J (fun v I' J' => At 33 91 ls (v.toList ++ [.long qu0, .long qu1, .long qu2]) I' J' Q) := A_cal (kd := 0) (j := 104) (na := 3) (ea := 3) (rk := 17) (by decide +kernel) rfl rfl rfl (Or.inr rfl) (Nat.le_of_ble_eq_true rfl)
theorem k33_91 : At 33 91 ls (.long u1 :: .long u :: st) I J Q ↔ At 33 92 ls (.long (u - u1) :: st) I J Q := A_lsub (ab_io ci33 (by decide +kernel))
theorem k33_92 : At 33 92 ls (.long u1 :: .long u :: st) I J Q ↔ At 33 93 ls (.long (u * u1) :: st) I J Q := A_lmul (ab_io ci33 (by decide +kernel))
theorem k33_93 : At 33 93 ls (.long u1 :: .long u :: st) I J Q ↔ At 33 94 ls (.long (u + u1) :: st) I J Q := A_ladd (ab_io ci33 (by decide +kernel))
theorem k33_94 : At 33 94 [a0, a1, a2, a3, a4, a5, a6, a7, a8] (.long u :: st) I J Q ↔ At 33 95 [a0, a1, ab_nv a2, some (.long u), none, a5, a6, a7, a8] st I J Q := A_lstore_n (q := 3) (ab_io ci33 (by decide +kernel)) (Nat.le_of_ble_eq_true rfl) rfl
theorem k33_95 : At 33 95 [a0, a1, a2, a3, a4, a5, a6, a7, some (.int x)] st I J Q ↔ At 33 98 [a0, a1, a2, a3, a4, a5, a6, ab_nv a7, some (.int (x + (nI 1)))] st I J Q := A_iinc (q := 8) (ab_io ci33 (by decide +kernel)) ic_1 (Nat.le_of_ble_eq_true rfl) rfl rfl
theorem k33_98 : At 33 98 ls st I J Q ↔ At 33 48 ls st I J Q := A_goto (o := (-50)) (ab_io ci33 (by decide +kernel)) (by decide)
theorem k33_101 : At 33 101 [a0, a1, a2, a3, a4, some (.int x), a6, a7, a8] st I J Q ↔ At 33 104 [a0, a1, a2, a3, ab_nv a4, some (.int (x + (nI 1))), a6, a7, a8] st I J Q := A_iinc (q := 5) (ab_io ci33 (by decide +kernel)) ic_1 (Nat.le_of_ble_eq_true rfl) rfl rfl
theorem k33_104 : At 33 104 ls st I J Q ↔ At 33 22 ls st I J Q := A_goto (o := (-82)) (ab_io ci33 (by decide +kernel)) (by decide)
theorem k33_107 : At 33 107 [a0, a1, a2, some (.long u), a4, a5, a6, a7, a8] st I J Q ↔ At 33 108 [a0, a1, a2, some (.long u), a4, a5, a6, a7, a8] (.long u :: st) I J Q := A_lload_n (q := 3) (ab_io ci33 (by decide +kernel)) rfl
theorem k33_108 : At 33 108 ls [.long u] I J Q ↔ Q (some (.long u)) I J := A_lret (ab_io ci33 (by decide +kernel)) rt33
theorem k34_0 : At 34 0 [some (.ref r), a1, a2, a3, a4] st I J Q ↔ At 34 1 [some (.ref r), a1, a2, a3, a4] (.ref r :: st) I J Q := A_aload_n (q := 0) (ab_io ci34 (by decide +kernel)) rfl
theorem k34_1_5 : At 34 1 ls (.ref 5 :: st) I J Q ↔ At 34 4 ls (.int (I 5 16) :: st) I J Q := A_getZ (ab_io ci34 (by decide +kernel)) ow34 fq1_63_5
theorem k34_1_17 : At 34 1 ls (.ref 17 :: st) I J Q ↔ At 34 4 ls (.int (I 17 16) :: st) I J Q := A_getZ (ab_io ci34 (by decide +kernel)) ow34 fq1_63_17
theorem k34_4 : At 34 4 ls (.int x :: st) I J Q ↔ if x = 0 then At 34 8 ls st I J Q else At 34 7 ls st I J Q := A_ifCond_eq (o := 4) (ab_io ci34 (by decide +kernel)) (by decide)
theorem k34_7 : At 34 7 ls [] I J Q ↔ Q none I J := A_vret (ab_io ci34 (by decide +kernel)) rt34
theorem k34_8 : At 34 8 [some (.ref r), a1, a2, a3, a4] st I J Q ↔ At 34 9 [some (.ref r), a1, a2, a3, a4] (.ref r :: st) I J Q := A_aload_n (q := 0) (ab_io ci34 (by decide +kernel)) rfl
theorem k34_9 : At 34 9 ls st I J Q ↔ At 34 10 ls (.int (nI 1) :: st) I J Q := A_iconst (ab_io ci34 (by decide +kernel)) ic_1
theorem k34_10_5v0 : At 34 10 ls (.int (nI 0) :: .ref 5 :: st) I J Q ↔ At 34 13 ls st (va_up I 5 (va_up (I 5) 16 (nI 0))) J Q := A_putZ (ab_io ci34 (by decide +kernel)) ow34 ⟨fq1_63_5.1, fq1_63_5.2, Or.inl rfl⟩
theorem k34_10_5v1 : At 34 10 ls (.int (nI 1) :: .ref 5 :: st) I J Q ↔ At 34 13 ls st (va_up I 5 (va_up (I 5) 16 (nI 1))) J Q := A_putZ (ab_io ci34 (by decide +kernel)) ow34 ⟨fq1_63_5.1, fq1_63_5.2, Or.inr rfl⟩
theorem k34_10_17v0 : At 34 10 ls (.int (nI 0) :: .ref 17 :: st) I J Q ↔ At 34 13 ls st (va_up I 17 (va_up (I 17) 16 (nI 0))) J Q := A_putZ (ab_io ci34 (by decide +kernel)) ow34 ⟨fq1_63_17.1, fq1_63_17.2, Or.inl rfl⟩
theorem k34_10_17v1 : At 34 10 ls (.int (nI 1) :: .ref 17 :: st) I J Q ↔ At 34 13 ls st (va_up I 17 (va_up (I 17) 16 (nI 1))) J Q := A_putZ (ab_io ci34 (by decide +kernel)) ow34 ⟨fq1_63_17.1, fq1_63_17.2, Or.inr rfl⟩
theorem k34_13 : At 34 13 [some (.ref r), a1, a2, a3, a4] st I J Q ↔ At 34 14 [some (.ref r), a1, a2, a3, a4] (.ref r :: st) I J Q := A_aload_n (q := 0) (ab_io ci34 (by decide +kernel)) rfl
theorem k34_14 : At 34 14 ls st I J Q ↔ At 34 15 ls (.long 0 :: st) I J Q := A_lconst (n := 0) (ab_io ci34 (by decide +kernel)) rfl
theorem k34_15_5 : At 34 15 ls (.long u :: .ref 5 :: st) I J Q ↔ At 34 18 ls st I (va_up J 5 (va_up (J 5) 13 u)) Q := A_putJ (ab_io ci34 (by decide +kernel)) ow34 fq1_54_5
theorem k34_15_17 : At 34 15 ls (.long u :: .ref 17 :: st) I J Q ↔ At 34 18 ls st I (va_up J 17 (va_up (J 17) 13 u)) Q := A_putJ (ab_io ci34 (by decide +kernel)) ow34 fq1_54_17
theorem k34_18 : At 34 18 [some (.ref r), a1, a2, a3, a4] st I J Q ↔ At 34 19 [some (.ref r), a1, a2, a3, a4] (.ref r :: st) I J Q := A_aload_n (q := 0) (ab_io ci34 (by decide +kernel)) rfl
theorem k34_19 : At 34 19 ls st I J Q ↔ At 34 20 ls (.int (-1) :: st) I J Q := A_iconst (ab_io ci34 (by decide +kernel)) ic_m1
theorem k34_20_5 : At 34 20 ls (.int x :: .ref 5 :: st) I J Q ↔ At 34 23 ls st (va_up I 5 (va_up (I 5) 14 x)) J Q := A_putI (ab_io ci34 (by decide +kernel)) ow34 fq1_57_5
theorem k34_20_17 : At 34 20 ls (.int x :: .ref 17 :: st) I J Q ↔ At 34 23 ls st (va_up I 17 (va_up (I 17) 14 x)) J Q := A_putI (ab_io ci34 (by decide +kernel)) ow34 fq1_57_17
theorem k34_23 : At 34 23 [some (.ref r), a1, a2, a3, a4] st I J Q ↔ At 34 24 [some (.ref r), a1, a2, a3, a4] (.ref r :: st) I J Q := A_aload_n (q := 0) (ab_io ci34 (by decide +kernel)) rfl
theorem k34_24 : At 34 24 ls st I J Q ↔ At 34 25 ls (.int (-1) :: st) I J Q := A_iconst (ab_io ci34 (by decide +kernel)) ic_m1
theorem k34_25_5 : At 34 25 ls (.int x :: .ref 5 :: st) I J Q ↔ At 34 28 ls st (va_up I 5 (va_up (I 5) 15 x)) J Q := A_putI (ab_io ci34 (by decide +kernel)) ow34 fq1_60_5
theorem k34_25_17 : At 34 25 ls (.int x :: .ref 17 :: st) I J Q ↔ At 34 28 ls st (va_up I 17 (va_up (I 17) 15 x)) J Q := A_putI (ab_io ci34 (by decide +kernel)) ow34 fq1_60_17
theorem k34_28 : At 34 28 ls st I J Q ↔ At 34 29 ls (.int (nI 0) :: st) I J Q := A_iconst (ab_io ci34 (by decide +kernel)) ic_0
theorem k34_29 : At 34 29 [a0, a1, a2, a3, a4] (.int x :: st) I J Q ↔ At 34 30 [ab_nv a0, some (.int x), a2, a3, a4] st I J Q := A_istore_n (q := 1) (ab_io ci34 (by decide +kernel)) (Nat.le_of_ble_eq_true rfl) rfl
theorem k34_30 : At 34 30 [a0, some (.int x), a2, a3, a4] st I J Q ↔ At 34 31 [a0, some (.int x), a2, a3, a4] (.int x :: st) I J Q := A_iload_n (q := 1) (ab_io ci34 (by decide +kernel)) rfl
theorem k34_31 : At 34 31 ls st I J Q ↔ At 34 33 ls (.int (nI 12) :: st) I J Q := A_bipush (ab_io ci34 (by decide +kernel)) bc_12
theorem k34_33 : At 34 33 ls (.int x1 :: .int x :: st) I J Q ↔ if x1 ≤ x then At 34 102 ls st I J Q else At 34 36 ls st I J Q := A_if_icmp_ge (o := 69) (ab_io ci34 (by decide +kernel)) (by decide)
theorem k34_36 : At 34 36 [a0, some (.int x), a2, a3, a4] st I J Q ↔ At 34 37 [a0, some (.int x), a2, a3, a4] (.int x :: st) I J Q := A_iload_n (q := 1) (ab_io ci34 (by decide +kernel)) rfl
theorem k34_37 : At 34 37 ls st I J Q ↔ At 34 38 ls (.int (nI 1) :: st) I J Q := A_iconst (ab_io ci34 (by decide +kernel)) ic_1
theorem k34_38 : At 34 38 ls (.int x1 :: .int x :: st) I J Q ↔ At 34 39 ls (.int (x + x1) :: st) I J Q := A_iadd (ab_io ci34 (by decide +kernel))
theorem k34_39 : At 34 39 [a0, a1, a2, a3, a4] (.int x :: st) I J Q ↔ At 34 40 [a0, ab_nv a1, some (.int x), a3, a4] st I J Q := A_istore_n (q := 2) (ab_io ci34 (by decide +kernel)) (Nat.le_of_ble_eq_true rfl) rfl
theorem k34_40 : At 34 40 [a0, a1, some (.int x), a3, a4] st I J Q ↔ At 34 41 [a0, a1, some (.int x), a3, a4] (.int x :: st) I J Q := A_iload_n (q := 2) (ab_io ci34 (by decide +kernel)) rfl
theorem k34_41 : At 34 41 ls st I J Q ↔ At 34 43 ls (.int (nI 12) :: st) I J Q := A_bipush (ab_io ci34 (by decide +kernel)) bc_12
theorem k34_43 : At 34 43 ls (.int x1 :: .int x :: st) I J Q ↔ if x1 ≤ x then At 34 96 ls st I J Q else At 34 46 ls st I J Q := A_if_icmp_ge (o := 53) (ab_io ci34 (by decide +kernel)) (by decide)
theorem k34_46 : At 34 46 [some (.ref r), a1, a2, a3, a4] st I J Q ↔ At 34 47 [some (.ref r), a1, a2, a3, a4] (.ref r :: st) I J Q := A_aload_n (q := 0) (ab_io ci34 (by decide +kernel)) rfl
theorem k34_47 : At 34 47 [a0, some (.int x), a2, a3, a4] st I J Q ↔ At 34 48 [a0, some (.int x), a2, a3, a4] (.int x :: st) I J Q := A_iload_n (q := 1) (ab_io ci34 (by decide +kernel)) rfl
theorem k34_48 : At 34 48 [a0, a1, some (.int x), a3, a4] st I J Q ↔ At 34 49 [a0, a1, some (.int x), a3, a4] (.int x :: st) I J Q := A_iload_n (q := 2) (ab_io ci34 (by decide +kernel)) rfl
theorem k34_49_5 : At 34 49 ls [.int p0, .int p1, .ref 5] I J Q ↔ Cal 32 [.ref 5, .int p1, .int p0] I J (fun v I' J' => At 34 52 ls (v.toList ++ []) I' J' Q) := A_cal (kd := 0) (j := 131) (na := 3) (ea := 3) (rk := 5) (by decide +kernel) rfl rfl rfl (Or.inr rfl) (Nat.le_of_ble_eq_true rfl)
theorem k34_49_17 : At 34 49 ls [.int p0, .int p1, .ref 17] I J Q ↔ Cal 32 [.ref 17, .int p1, .int p0] I J (fun v I' J' => At 34 52 ls (v.toList ++ []) I' J' Q) := A_cal (kd := 0) (j := 131) (na := 3) (ea := 3) (rk := 17) (by decide +kernel) rfl rfl rfl (Or.inr rfl) (Nat.le_of_ble_eq_true rfl)
theorem k34_52 : At 34 52 ls (.int x :: st) I J Q ↔ if x = 0 then At 34 64 ls st I J Q else At 34 55 ls st I J Q := A_ifCond_eq (o := 12) (ab_io ci34 (by decide +kernel)) (by decide)
theorem k34_55 : At 34 55 [some (.ref r), a1, a2, a3, a4] st I J Q ↔ At 34 56 [some (.ref r), a1, a2, a3, a4] (.ref r :: st) I J Q := A_aload_n (q := 0) (ab_io ci34 (by decide +kernel)) rfl
theorem k34_56 : At 34 56 [a0, some (.int x), a2, a3, a4] st I J Q ↔ At 34 57 [a0, some (.int x), a2, a3, a4] (.int x :: st) I J Q := A_iload_n (q := 1) (ab_io ci34 (by decide +kernel)) rfl
theorem k34_57 : At 34 57 [a0, a1, some (.int x), a3, a4] st I J Q ↔ At 34 58 [a0, a1, some (.int x), a3, a4] (.int x :: st) I J Q := A_iload_n (q := 2) (ab_io ci34 (by decide +kernel)) rfl
theorem k34_58_5 : At 34 58 ls [.int p0, .int p1, .ref 5] I J Q ↔ Cal 33 [.ref 5, .int p1, .int p0] I J (fun v I' J' => At 34 61 ls (v.toList ++ []) I' J' Q) := A_cal (kd := 0) (j := 134) (na := 3) (ea := 3) (rk := 5) (by decide +kernel) rfl rfl rfl (Or.inr rfl) (Nat.le_of_ble_eq_true rfl)
theorem k34_58_17 : At 34 58 ls [.int p0, .int p1, .ref 17] I J Q ↔ Cal 33 [.ref 17, .int p1, .int p0] I J (fun v I' J' => At 34 61 ls (v.toList ++ []) I' J' Q) := A_cal (kd := 0) (j := 134) (na := 3) (ea := 3) (rk := 17) (by decide +kernel) rfl rfl rfl (Or.inr rfl) (Nat.le_of_ble_eq_true rfl)
theorem k34_61 : At 34 61 ls st I J Q ↔ At 34 65 ls st I J Q := A_goto (o := 4) (ab_io ci34 (by decide +kernel)) (by decide)
theorem k34_64 : At 34 64 ls st I J Q ↔ At 34 65 ls (.long 0 :: st) I J Q := A_lconst (n := 0) (ab_io ci34 (by decide +kernel)) rfl
theorem k34_65 : At 34 65 [a0, a1, a2, a3, a4] (.long u :: st) I J Q ↔ At 34 66 [a0, a1, ab_nv a2, some (.long u), none] st I J Q := A_lstore_n (q := 3) (ab_io ci34 (by decide +kernel)) (Nat.le_of_ble_eq_true rfl) rfl
theorem k34_66 : At 34 66 [a0, a1, a2, some (.long u), a4] st I J Q ↔ At 34 67 [a0, a1, a2, some (.long u), a4] (.long u :: st) I J Q := A_lload_n (q := 3) (ab_io ci34 (by decide +kernel)) rfl
theorem k34_67 : At 34 67 [some (.ref r), a1, a2, a3, a4] st I J Q ↔ At 34 68 [some (.ref r), a1, a2, a3, a4] (.ref r :: st) I J Q := A_aload_n (q := 0) (ab_io ci34 (by decide +kernel)) rfl
theorem k34_68_5 : At 34 68 ls (.ref 5 :: st) I J Q ↔ At 34 71 ls (.long (J 5 13) :: st) I J Q := A_getJ (ab_io ci34 (by decide +kernel)) ow34 fq1_54_5
theorem k34_68_17 : At 34 68 ls (.ref 17 :: st) I J Q ↔ At 34 71 ls (.long (J 17 13) :: st) I J Q := A_getJ (ab_io ci34 (by decide +kernel)) ow34 fq1_54_17
theorem k34_71 : At 34 71 ls (.long u1 :: .long u :: st) I J Q ↔ At 34 72 ls (.int (lg_cmp u u1) :: st) I J Q := A_lcmp (ab_io ci34 (by decide +kernel))
theorem k34_72 : At 34 72 ls (.int x :: st) I J Q ↔ if x ≤ 0 then At 34 90 ls st I J Q else At 34 75 ls st I J Q := A_ifCond_le (o := 18) (ab_io ci34 (by decide +kernel)) (by decide)
theorem k34_75 : At 34 75 [some (.ref r), a1, a2, a3, a4] st I J Q ↔ At 34 76 [some (.ref r), a1, a2, a3, a4] (.ref r :: st) I J Q := A_aload_n (q := 0) (ab_io ci34 (by decide +kernel)) rfl
theorem k34_76 : At 34 76 [a0, a1, a2, some (.long u), a4] st I J Q ↔ At 34 77 [a0, a1, a2, some (.long u), a4] (.long u :: st) I J Q := A_lload_n (q := 3) (ab_io ci34 (by decide +kernel)) rfl
theorem k34_77_5 : At 34 77 ls (.long u :: .ref 5 :: st) I J Q ↔ At 34 80 ls st I (va_up J 5 (va_up (J 5) 13 u)) Q := A_putJ (ab_io ci34 (by decide +kernel)) ow34 fq1_54_5
theorem k34_77_17 : At 34 77 ls (.long u :: .ref 17 :: st) I J Q ↔ At 34 80 ls st I (va_up J 17 (va_up (J 17) 13 u)) Q := A_putJ (ab_io ci34 (by decide +kernel)) ow34 fq1_54_17
theorem k34_80 : At 34 80 [some (.ref r), a1, a2, a3, a4] st I J Q ↔ At 34 81 [some (.ref r), a1, a2, a3, a4] (.ref r :: st) I J Q := A_aload_n (q := 0) (ab_io ci34 (by decide +kernel)) rfl
theorem k34_81 : At 34 81 [a0, some (.int x), a2, a3, a4] st I J Q ↔ At 34 82 [a0, some (.int x), a2, a3, a4] (.int x :: st) I J Q := A_iload_n (q := 1) (ab_io ci34 (by decide +kernel)) rfl
theorem k34_82_5 : At 34 82 ls (.int x :: .ref 5 :: st) I J Q ↔ At 34 85 ls st (va_up I 5 (va_up (I 5) 14 x)) J Q := A_putI (ab_io ci34 (by decide +kernel)) ow34 fq1_57_5
theorem k34_82_17 : At 34 82 ls (.int x :: .ref 17 :: st) I J Q ↔ At 34 85 ls st (va_up I 17 (va_up (I 17) 14 x)) J Q := A_putI (ab_io ci34 (by decide +kernel)) ow34 fq1_57_17
theorem k34_85 : At 34 85 [some (.ref r), a1, a2, a3, a4] st I J Q ↔ At 34 86 [some (.ref r), a1, a2, a3, a4] (.ref r :: st) I J Q := A_aload_n (q := 0) (ab_io ci34 (by decide +kernel)) rfl
theorem k34_86 : At 34 86 [a0, a1, some (.int x), a3, a4] st I J Q ↔ At 34 87 [a0, a1, some (.int x), a3, a4] (.int x :: st) I J Q := A_iload_n (q := 2) (ab_io ci34 (by decide +kernel)) rfl
theorem k34_87_5 : At 34 87 ls (.int x :: .ref 5 :: st) I J Q ↔ At 34 90 ls st (va_up I 5 (va_up (I 5) 15 x)) J Q := A_putI (ab_io ci34 (by decide +kernel)) ow34 fq1_60_5
theorem k34_87_17 : At 34 87 ls (.int x :: .ref 17 :: st) I J Q ↔ At 34 90 ls st (va_up I 17 (va_up (I 17) 15 x)) J Q := A_putI (ab_io ci34 (by decide +kernel)) ow34 fq1_60_17
theorem k34_90 : At 34 90 [a0, a1, some (.int x), a3, a4] st I J Q ↔ At 34 93 [a0, ab_nv a1, some (.int (x + (nI 1))), a3, a4] st I J Q := A_iinc (q := 2) (ab_io ci34 (by decide +kernel)) ic_1 (Nat.le_of_ble_eq_true rfl) rfl rfl
theorem k34_93 : At 34 93 ls st I J Q ↔ At 34 40 ls st I J Q := A_goto (o := (-53)) (ab_io ci34 (by decide +kernel)) (by decide)
theorem k34_96 : At 34 96 [a0, some (.int x), a2, a3, a4] st I J Q ↔ At 34 99 [ab_nv a0, some (.int (x + (nI 1))), a2, a3, a4] st I J Q := A_iinc (q := 1) (ab_io ci34 (by decide +kernel)) ic_1 (Nat.le_of_ble_eq_true rfl) rfl rfl
theorem k34_99 : At 34 99 ls st I J Q ↔ At 34 30 ls st I J Q := A_goto (o := (-69)) (ab_io ci34 (by decide +kernel)) (by decide)
theorem k34_102 : At 34 102 ls [] I J Q ↔ Q none I J := A_vret (ab_io ci34 (by decide +kernel)) rt34
theorem k35_0 : At 35 0 [some (.ref r), a1, a2, a3, a4, a5] st I J Q ↔ At 35 1 [some (.ref r), a1, a2, a3, a4, a5] (.ref r :: st) I J Q := A_aload_n (q := 0) (ab_io ci35 (by decide +kernel)) rfl
theorem k35_1_5 : At 35 1 ls (.ref 5 :: st) I J Q ↔ At 35 4 ls (.ref 7 :: st) I J Q := A_getR (ab_io ci35 (by decide +kernel)) ow35 fq1_15_5
theorem k35_1_17 : At 35 1 ls (.ref 17 :: st) I J Q ↔ At 35 4 ls (.ref 19 :: st) I J Q := A_getR (ab_io ci35 (by decide +kernel)) ow35 fq1_15_17
theorem k35_4 : At 35 4 [a0, some (.int x), a2, a3, a4, a5] st I J Q ↔ At 35 5 [a0, some (.int x), a2, a3, a4, a5] (.int x :: st) I J Q := A_iload_n (q := 1) (ab_io ci35 (by decide +kernel)) rfl
theorem k35_5 : At 35 5 ls (.int x :: .ref r :: st) I J Q ↔ ((ab_ly r).1 = 1 ∧ r < 75 ∧ 0 ≤ x.toInt ∧ x.toInt < (ab_ly r).2) ∧ At 35 6 ls (.int (I r x.toNatClampNeg) :: st) I J Q := A_iaload (ab_io ci35 (by decide +kernel))
theorem k35_6 : At 35 6 ls st I J Q ↔ At 35 7 ls (.int (nI 1) :: st) I J Q := A_iconst (ab_io ci35 (by decide +kernel)) ic_1
theorem k35_7 : At 35 7 [a0, a1, some (.int x), a3, a4, a5] st I J Q ↔ At 35 8 [a0, a1, some (.int x), a3, a4, a5] (.int x :: st) I J Q := A_iload_n (q := 2) (ab_io ci35 (by decide +kernel)) rfl
theorem k35_8 : At 35 8 ls (.int x1 :: .int x :: st) I J Q ↔ At 35 9 ls (.int (x <<< (x1 &&& 31)) :: st) I J Q := A_ishl (ab_io ci35 (by decide +kernel))
theorem k35_9 : At 35 9 ls st I J Q ↔ At 35 10 ls (.int (-1) :: st) I J Q := A_iconst (ab_io ci35 (by decide +kernel)) ic_m1
theorem k35_10 : At 35 10 ls (.int x1 :: .int x :: st) I J Q ↔ At 35 11 ls (.int (x ^^^ x1) :: st) I J Q := A_ixor (ab_io ci35 (by decide +kernel))
theorem k35_11 : At 35 11 ls (.int x1 :: .int x :: st) I J Q ↔ At 35 12 ls (.int (x &&& x1) :: st) I J Q := A_iand (ab_io ci35 (by decide +kernel))
theorem k35_12 : At 35 12 [a0, a1, a2, a3, a4, a5] (.int x :: st) I J Q ↔ At 35 13 [a0, a1, ab_nv a2, some (.int x), a4, a5] st I J Q := A_istore_n (q := 3) (ab_io ci35 (by decide +kernel)) (Nat.le_of_ble_eq_true rfl) rfl
theorem k35_13 : At 35 13 ls st I J Q ↔ At 35 14 ls (.int (nI 0) :: st) I J Q := A_iconst (ab_io ci35 (by decide +kernel)) ic_0
theorem k35_14 : At 35 14 [a0, a1, a2, a3, a4, a5] (.int x :: st) I J Q ↔ At 35 16 [a0, a1, a2, ab_nv a3, some (.int x), a5] st I J Q := A_istore (q := 4) (ab_io ci35 (by decide +kernel)) (Nat.le_of_ble_eq_true rfl) rfl
theorem k35_16 : At 35 16 [a0, a1, a2, a3, some (.int x), a5] st I J Q ↔ At 35 18 [a0, a1, a2, a3, some (.int x), a5] (.int x :: st) I J Q := A_iload (q := 4) (ab_io ci35 (by decide +kernel)) rfl
theorem k35_18 : At 35 18 ls st I J Q ↔ At 35 19 ls (.int (nI 4) :: st) I J Q := A_iconst (ab_io ci35 (by decide +kernel)) ic_4
theorem k35_19 : At 35 19 ls (.int x1 :: .int x :: st) I J Q ↔ if x1 ≤ x then At 35 72 ls st I J Q else At 35 22 ls st I J Q := A_if_icmp_ge (o := 53) (ab_io ci35 (by decide +kernel)) (by decide)
theorem k35_22 : At 35 22 ls st I J Q ↔ At 35 23 ls (.int (nI 0) :: st) I J Q := A_iconst (ab_io ci35 (by decide +kernel)) ic_0
theorem k35_23 : At 35 23 [a0, a1, a2, a3, a4, a5] (.int x :: st) I J Q ↔ At 35 25 [a0, a1, a2, a3, ab_nv a4, some (.int x)] st I J Q := A_istore (q := 5) (ab_io ci35 (by decide +kernel)) (Nat.le_of_ble_eq_true rfl) rfl
theorem k35_25 : At 35 25 [a0, a1, a2, a3, a4, some (.int x)] st I J Q ↔ At 35 27 [a0, a1, a2, a3, a4, some (.int x)] (.int x :: st) I J Q := A_iload (q := 5) (ab_io ci35 (by decide +kernel)) rfl
theorem k35_27 : At 35 27 ls st I J Q ↔ At 35 29 ls (.int (nI 12) :: st) I J Q := A_bipush (ab_io ci35 (by decide +kernel)) bc_12
theorem k35_29 : At 35 29 ls (.int x1 :: .int x :: st) I J Q ↔ if x1 ≤ x then At 35 66 ls st I J Q else At 35 32 ls st I J Q := A_if_icmp_ge (o := 37) (ab_io ci35 (by decide +kernel)) (by decide)
theorem k35_32 : At 35 32 [a0, a1, a2, a3, a4, some (.int x)] st I J Q ↔ At 35 34 [a0, a1, a2, a3, a4, some (.int x)] (.int x :: st) I J Q := A_iload (q := 5) (ab_io ci35 (by decide +kernel)) rfl
theorem k35_34 : At 35 34 [a0, some (.int x), a2, a3, a4, a5] st I J Q ↔ At 35 35 [a0, some (.int x), a2, a3, a4, a5] (.int x :: st) I J Q := A_iload_n (q := 1) (ab_io ci35 (by decide +kernel)) rfl
theorem k35_35 : At 35 35 ls (.int x1 :: .int x :: st) I J Q ↔ if x = x1 then At 35 60 ls st I J Q else At 35 38 ls st I J Q := A_if_icmp_eq (o := 25) (ab_io ci35 (by decide +kernel)) (by decide)
theorem k35_38 : At 35 38 [some (.ref r), a1, a2, a3, a4, a5] st I J Q ↔ At 35 39 [some (.ref r), a1, a2, a3, a4, a5] (.ref r :: st) I J Q := A_aload_n (q := 0) (ab_io ci35 (by decide +kernel)) rfl
theorem k35_39_5 : At 35 39 ls (.ref 5 :: st) I J Q ↔ At 35 42 ls (.ref 7 :: st) I J Q := A_getR (ab_io ci35 (by decide +kernel)) ow35 fq1_15_5
theorem k35_39_17 : At 35 39 ls (.ref 17 :: st) I J Q ↔ At 35 42 ls (.ref 19 :: st) I J Q := A_getR (ab_io ci35 (by decide +kernel)) ow35 fq1_15_17
theorem k35_42 : At 35 42 [a0, a1, a2, a3, a4, some (.int x)] st I J Q ↔ At 35 44 [a0, a1, a2, a3, a4, some (.int x)] (.int x :: st) I J Q := A_iload (q := 5) (ab_io ci35 (by decide +kernel)) rfl
theorem k35_44 : At 35 44 ls (.int x :: .ref r :: st) I J Q ↔ ((ab_ly r).1 = 1 ∧ r < 75 ∧ 0 ≤ x.toInt ∧ x.toInt < (ab_ly r).2) ∧ At 35 45 ls (.int (I r x.toNatClampNeg) :: st) I J Q := A_iaload (ab_io ci35 (by decide +kernel))
theorem k35_45 : At 35 45 [a0, a1, a2, some (.int x), a4, a5] st I J Q ↔ At 35 46 [a0, a1, a2, some (.int x), a4, a5] (.int x :: st) I J Q := A_iload_n (q := 3) (ab_io ci35 (by decide +kernel)) rfl
theorem k35_46 : At 35 46 ls (.int x1 :: .int x :: st) I J Q ↔ At 35 47 ls (.int (x &&& x1) :: st) I J Q := A_iand (ab_io ci35 (by decide +kernel))
theorem k35_47 : At 35 47 ls (.int x :: st) I J Q ↔ if x = 0 then At 35 60 ls st I J Q else At 35 50 ls st I J Q := A_ifCond_eq (o := 13) (ab_io ci35 (by decide +kernel)) (by decide)
theorem k35_50 : At 35 50 [a0, a1, a2, some (.int x), a4, a5] st I J Q ↔ At 35 51 [a0, a1, a2, some (.int x), a4, a5] (.int x :: st) I J Q := A_iload_n (q := 3) (ab_io ci35 (by decide +kernel)) rfl
theorem k35_51 : At 35 51 [some (.ref r), a1, a2, a3, a4, a5] st I J Q ↔ At 35 52 [some (.ref r), a1, a2, a3, a4, a5] (.ref r :: st) I J Q := A_aload_n (q := 0) (ab_io ci35 (by decide +kernel)) rfl
theorem k35_52_5 : At 35 52 ls (.ref 5 :: st) I J Q ↔ At 35 55 ls (.ref 7 :: st) I J Q := A_getR (ab_io ci35 (by decide +kernel)) ow35 fq1_15_5
theorem k35_52_17 : At 35 52 ls (.ref 17 :: st) I J Q ↔ At 35 55 ls (.ref 19 :: st) I J Q := A_getR (ab_io ci35 (by decide +kernel)) ow35 fq1_15_17
theorem k35_55 : At 35 55 [a0, a1, a2, a3, a4, some (.int x)] st I J Q ↔ At 35 57 [a0, a1, a2, a3, a4, some (.int x)] (.int x :: st) I J Q := A_iload (q := 5) (ab_io ci35 (by decide +kernel)) rfl
theorem k35_57 : At 35 57 ls (.int x :: .ref r :: st) I J Q ↔ ((ab_ly r).1 = 1 ∧ r < 75 ∧ 0 ≤ x.toInt ∧ x.toInt < (ab_ly r).2) ∧ At 35 58 ls (.int (I r x.toNatClampNeg) :: st) I J Q := A_iaload (ab_io ci35 (by decide +kernel))
theorem k35_58 : At 35 58 ls (.int x1 :: .int x :: st) I J Q ↔ At 35 59 ls (.int (x ||| x1) :: st) I J Q := A_ior (ab_io ci35 (by decide +kernel))
theorem k35_59 : At 35 59 [a0, a1, a2, a3, a4, a5] (.int x :: st) I J Q ↔ At 35 60 [a0, a1, ab_nv a2, some (.int x), a4, a5] st I J Q := A_istore_n (q := 3) (ab_io ci35 (by decide +kernel)) (Nat.le_of_ble_eq_true rfl) rfl
theorem k35_60 : At 35 60 [a0, a1, a2, a3, a4, some (.int x)] st I J Q ↔ At 35 63 [a0, a1, a2, a3, ab_nv a4, some (.int (x + (nI 1)))] st I J Q := A_iinc (q := 5) (ab_io ci35 (by decide +kernel)) ic_1 (Nat.le_of_ble_eq_true rfl) rfl rfl
theorem k35_63 : At 35 63 ls st I J Q ↔ At 35 25 ls st I J Q := A_goto (o := (-38)) (ab_io ci35 (by decide +kernel)) (by decide)
theorem k35_66 : At 35 66 [a0, a1, a2, a3, some (.int x), a5] st I J Q ↔ At 35 69 [a0, a1, a2, ab_nv a3, some (.int (x + (nI 1))), a5] st I J Q := A_iinc (q := 4) (ab_io ci35 (by decide +kernel)) ic_1 (Nat.le_of_ble_eq_true rfl) rfl rfl
theorem k35_69 : At 35 69 ls st I J Q ↔ At 35 16 ls st I J Q := A_goto (o := (-53)) (ab_io ci35 (by decide +kernel)) (by decide)
theorem k35_72 : At 35 72 [a0, a1, a2, some (.int x), a4, a5] st I J Q ↔ At 35 73 [a0, a1, a2, some (.int x), a4, a5] (.int x :: st) I J Q := A_iload_n (q := 3) (ab_io ci35 (by decide +kernel)) rfl
theorem k35_73 : At 35 73 [a0, a1, some (.int x), a3, a4, a5] st I J Q ↔ At 35 74 [a0, a1, some (.int x), a3, a4, a5] (.int x :: st) I J Q := A_iload_n (q := 2) (ab_io ci35 (by decide +kernel)) rfl
theorem k35_74 : At 35 74 ls (.int x1 :: .int x :: st) I J Q ↔ At 35 75 ls (.int (x >>> (x1 &&& 31)) :: st) I J Q := A_ishr (ab_io ci35 (by decide +kernel))
theorem k35_75 : At 35 75 ls st I J Q ↔ At 35 76 ls (.int (nI 1) :: st) I J Q := A_iconst (ab_io ci35 (by decide +kernel)) ic_1
theorem k35_76 : At 35 76 ls (.int x1 :: .int x :: st) I J Q ↔ At 35 77 ls (.int (x &&& x1) :: st) I J Q := A_iand (ab_io ci35 (by decide +kernel))
theorem k35_77 : At 35 77 ls (.int x :: st) I J Q ↔ if ¬ x = 0 then At 35 84 ls st I J Q else At 35 80 ls st I J Q := A_ifCond_ne (o := 7) (ab_io ci35 (by decide +kernel)) (by decide)
theorem k35_80 : At 35 80 ls st I J Q ↔ At 35 81 ls (.int (nI 1) :: st) I J Q := A_iconst (ab_io ci35 (by decide +kernel)) ic_1
theorem k35_81 : At 35 81 ls st I J Q ↔ At 35 85 ls st I J Q := A_goto (o := 4) (ab_io ci35 (by decide +kernel)) (by decide)
theorem k35_84 : At 35 84 ls st I J Q ↔ At 35 85 ls (.int (nI 0) :: st) I J Q := A_iconst (ab_io ci35 (by decide +kernel)) ic_0
theorem k35_85 : At 35 85 ls [.int x] I J Q ↔ (x = 0 ∨ x = 1) ∧ Q (some (.int x)) I J := A_zret (ab_io ci35 (by decide +kernel)) rt35
theorem k36_0 : At 36 0 ls st I J Q ↔ At 36 1 ls (.int (nI 0) :: st) I J Q := A_iconst (ab_io ci36 (by decide +kernel)) ic_0
theorem k36_1 : At 36 1 [a0, a1, a2] (.int x :: st) I J Q ↔ At 36 2 [ab_nv a0, some (.int x), a2] st I J Q := A_istore_n (q := 1) (ab_io ci36 (by decide +kernel)) (Nat.le_of_ble_eq_true rfl) rfl
theorem k36_2 : At 36 2 ls st I J Q ↔ At 36 3 ls (.int (nI 0) :: st) I J Q := A_iconst (ab_io ci36 (by decide +kernel)) ic_0
theorem k36_3 : At 36 3 [a0, a1, a2] (.int x :: st) I J Q ↔ At 36 4 [a0, ab_nv a1, some (.int x)] st I J Q := A_istore_n (q := 2) (ab_io ci36 (by decide +kernel)) (Nat.le_of_ble_eq_true rfl) rfl
theorem k36_4 : At 36 4 [a0, a1, some (.int x)] st I J Q ↔ At 36 5 [a0, a1, some (.int x)] (.int x :: st) I J Q := A_iload_n (q := 2) (ab_io ci36 (by decide +kernel)) rfl
theorem k36_5 : At 36 5 ls st I J Q ↔ At 36 7 ls (.int (nI 48) :: st) I J Q := A_bipush (ab_io ci36 (by decide +kernel)) bc_48
theorem k36_7 : At 36 7 ls (.int x1 :: .int x :: st) I J Q ↔ if x1 ≤ x then At 36 42 ls st I J Q else At 36 10 ls st I J Q := A_if_icmp_ge (o := 35) (ab_io ci36 (by decide +kernel)) (by decide)
theorem k36_10 : At 36 10 [some (.ref r), a1, a2] st I J Q ↔ At 36 11 [some (.ref r), a1, a2] (.ref r :: st) I J Q := A_aload_n (q := 0) (ab_io ci36 (by decide +kernel)) rfl
theorem k36_11_5 : At 36 11 ls (.ref 5 :: st) I J Q ↔ At 36 14 ls (.ref 6 :: st) I J Q := A_getR (ab_io ci36 (by decide +kernel)) ow36 fq1_9_5
theorem k36_11_17 : At 36 11 ls (.ref 17 :: st) I J Q ↔ At 36 14 ls (.ref 18 :: st) I J Q := A_getR (ab_io ci36 (by decide +kernel)) ow36 fq1_9_17
theorem k36_14 : At 36 14 [a0, a1, some (.int x)] st I J Q ↔ At 36 15 [a0, a1, some (.int x)] (.int x :: st) I J Q := A_iload_n (q := 2) (ab_io ci36 (by decide +kernel)) rfl
theorem k36_15 : At 36 15 ls (.int x :: .ref r :: st) I J Q ↔ ((ab_ly r).1 = 1 ∧ r < 75 ∧ 0 ≤ x.toInt ∧ x.toInt < (ab_ly r).2) ∧ At 36 16 ls (.int (I r x.toNatClampNeg) :: st) I J Q := A_iaload (ab_io ci36 (by decide +kernel))
theorem k36_16 : At 36 16 ls st I J Q ↔ At 36 17 ls (.int (-1) :: st) I J Q := A_iconst (ab_io ci36 (by decide +kernel)) ic_m1
theorem k36_17 : At 36 17 ls (.int x1 :: .int x :: st) I J Q ↔ if x = x1 then At 36 36 ls st I J Q else At 36 20 ls st I J Q := A_if_icmp_eq (o := 19) (ab_io ci36 (by decide +kernel)) (by decide)
theorem k36_20 : At 36 20 [some (.ref r), a1, a2] st I J Q ↔ At 36 21 [some (.ref r), a1, a2] (.ref r :: st) I J Q := A_aload_n (q := 0) (ab_io ci36 (by decide +kernel)) rfl
theorem k36_21 : At 36 21 [a0, a1, some (.int x)] st I J Q ↔ At 36 22 [a0, a1, some (.int x)] (.int x :: st) I J Q := A_iload_n (q := 2) (ab_io ci36 (by decide +kernel)) rfl
theorem k36_22 : At 36 22 ls st I J Q ↔ At 36 23 ls (.int (nI 4) :: st) I J Q := A_iconst (ab_io ci36 (by decide +kernel)) ic_4
theorem k36_23 : At 36 23 ls (.int x1 :: .int x :: st) I J Q ↔ ¬ x1 = 0 ∧ At 36 24 ls (.int (x / x1) :: st) I J Q := A_idiv (ab_io ci36 (by decide +kernel))
theorem k36_24 : At 36 24 [a0, a1, some (.int x)] st I J Q ↔ At 36 25 [a0, a1, some (.int x)] (.int x :: st) I J Q := A_iload_n (q := 2) (ab_io ci36 (by decide +kernel)) rfl
theorem k36_25 : At 36 25 ls st I J Q ↔ At 36 26 ls (.int (nI 4) :: st) I J Q := A_iconst (ab_io ci36 (by decide +kernel)) ic_4
theorem k36_26 : At 36 26 ls (.int x1 :: .int x :: st) I J Q ↔ ¬ x1 = 0 ∧ At 36 27 ls (.int (x - x / x1 * x1) :: st) I J Q := A_irem (ab_io ci36 (by decide +kernel))
theorem k36_27_5 : At 36 27 ls [.int p0, .int p1, .ref 5] I J Q ↔ Cal 35 [.ref 5, .int p1, .int p0] I J (fun v I' J' => At 36 30 ls (v.toList ++ []) I' J' Q) := A_cal (kd := 0) (j := 137) (na := 3) (ea := 3) (rk := 5) (by decide +kernel) rfl rfl rfl (Or.inr rfl) (Nat.le_of_ble_eq_true rfl)
theorem k36_27_17 : At 36 27 ls [.int p0, .int p1, .ref 17] I J Q ↔ Cal 35 [.ref 17, .int p1, .int p0] I J (fun v I' J' => At 36 30 ls (v.toList ++ []) I' J' Q) := A_cal (kd := 0) (j := 137) (na := 3) (ea := 3) (rk := 17) (by decide +kernel) rfl rfl rfl (Or.inr rfl) (Nat.le_of_ble_eq_true rfl)
theorem k36_30 : At 36 30 ls (.int x :: st) I J Q ↔ if x = 0 then At 36 36 ls st I J Q else At 36 33 ls st I J Q := A_ifCond_eq (o := 6) (ab_io ci36 (by decide +kernel)) (by decide)
theorem k36_33 : At 36 33 [a0, some (.int x), a2] st I J Q ↔ At 36 36 [ab_nv a0, some (.int (x + (nI 1))), a2] st I J Q := A_iinc (q := 1) (ab_io ci36 (by decide +kernel)) ic_1 (Nat.le_of_ble_eq_true rfl) rfl rfl
theorem k36_36 : At 36 36 [a0, a1, some (.int x)] st I J Q ↔ At 36 39 [a0, ab_nv a1, some (.int (x + (nI 1)))] st I J Q := A_iinc (q := 2) (ab_io ci36 (by decide +kernel)) ic_1 (Nat.le_of_ble_eq_true rfl) rfl rfl
theorem k36_39 : At 36 39 ls st I J Q ↔ At 36 4 ls st I J Q := A_goto (o := (-35)) (ab_io ci36 (by decide +kernel)) (by decide)
theorem k36_42 : At 36 42 [a0, some (.int x), a2] st I J Q ↔ At 36 43 [a0, some (.int x), a2] (.int x :: st) I J Q := A_iload_n (q := 1) (ab_io ci36 (by decide +kernel)) rfl
theorem k36_43 : At 36 43 ls [.int x] I J Q ↔ Q (some (.int x)) I J := A_iret (ab_io ci36 (by decide +kernel)) rt36
theorem k37_0 : At 37 0 ls st I J Q ↔ At 37 1 ls (.int (nI 0) :: st) I J Q := A_iconst (ab_io ci37 (by decide +kernel)) ic_0
theorem k37_1 : At 37 1 [a0, a1, a2] (.int x :: st) I J Q ↔ At 37 2 [ab_nv a0, some (.int x), a2] st I J Q := A_istore_n (q := 1) (ab_io ci37 (by decide +kernel)) (Nat.le_of_ble_eq_true rfl) rfl
theorem k37_2 : At 37 2 ls st I J Q ↔ At 37 3 ls (.int (nI 0) :: st) I J Q := A_iconst (ab_io ci37 (by decide +kernel)) ic_0
theorem k37_3 : At 37 3 [a0, a1, a2] (.int x :: st) I J Q ↔ At 37 4 [a0, ab_nv a1, some (.int x)] st I J Q := A_istore_n (q := 2) (ab_io ci37 (by decide +kernel)) (Nat.le_of_ble_eq_true rfl) rfl
theorem k37_4 : At 37 4 [a0, a1, some (.int x)] st I J Q ↔ At 37 5 [a0, a1, some (.int x)] (.int x :: st) I J Q := A_iload_n (q := 2) (ab_io ci37 (by decide +kernel)) rfl
theorem k37_5 : At 37 5 ls st I J Q ↔ At 37 6 ls (.int (nI 4) :: st) I J Q := A_iconst (ab_io ci37 (by decide +kernel)) ic_4
theorem k37_6 : At 37 6 ls (.int x1 :: .int x :: st) I J Q ↔ if x1 ≤ x then At 37 28 ls st I J Q else At 37 9 ls st I J Q := A_if_icmp_ge (o := 22) (ab_io ci37 (by decide +kernel)) (by decide)
theorem k37_9 : At 37 9 [some (.ref r), a1, a2] st I J Q ↔ At 37 10 [some (.ref r), a1, a2] (.ref r :: st) I J Q := A_aload_n (q := 0) (ab_io ci37 (by decide +kernel)) rfl
theorem k37_10_5 : At 37 10 ls (.ref 5 :: st) I J Q ↔ At 37 13 ls (.ref 10 :: st) I J Q := A_getR (ab_io ci37 (by decide +kernel)) ow37 fq1_25_5
theorem k37_10_17 : At 37 10 ls (.ref 17 :: st) I J Q ↔ At 37 13 ls (.ref 22 :: st) I J Q := A_getR (ab_io ci37 (by decide +kernel)) ow37 fq1_25_17
theorem k37_13 : At 37 13 [a0, a1, some (.int x)] st I J Q ↔ At 37 14 [a0, a1, some (.int x)] (.int x :: st) I J Q := A_iload_n (q := 2) (ab_io ci37 (by decide +kernel)) rfl
theorem k37_14 : At 37 14 ls (.int x :: .ref r :: st) I J Q ↔ ((ab_ly r).1 = 1 ∧ r < 75 ∧ 0 ≤ x.toInt ∧ x.toInt < (ab_ly r).2) ∧ At 37 15 ls (.int (I r x.toNatClampNeg) :: st) I J Q := A_iaload (ab_io ci37 (by decide +kernel))
theorem k37_15 : At 37 15 [a0, a1, some (.int x)] st I J Q ↔ At 37 16 [a0, a1, some (.int x)] (.int x :: st) I J Q := A_iload_n (q := 2) (ab_io ci37 (by decide +kernel)) rfl
theorem k37_16 : At 37 16 ls (.int x1 :: .int x :: st) I J Q ↔ if ¬ x = x1 then At 37 22 ls st I J Q else At 37 19 ls st I J Q := A_if_icmp_ne (o := 6) (ab_io ci37 (by decide +kernel)) (by decide)
theorem k37_19 : At 37 19 [a0, some (.int x), a2] st I J Q ↔ At 37 22 [ab_nv a0, some (.int (x + (nI 1))), a2] st I J Q := A_iinc (q := 1) (ab_io ci37 (by decide +kernel)) ic_1 (Nat.le_of_ble_eq_true rfl) rfl rfl
theorem k37_22 : At 37 22 [a0, a1, some (.int x)] st I J Q ↔ At 37 25 [a0, ab_nv a1, some (.int (x + (nI 1)))] st I J Q := A_iinc (q := 2) (ab_io ci37 (by decide +kernel)) ic_1 (Nat.le_of_ble_eq_true rfl) rfl rfl
theorem k37_25 : At 37 25 ls st I J Q ↔ At 37 4 ls st I J Q := A_goto (o := (-21)) (ab_io ci37 (by decide +kernel)) (by decide)
theorem k37_28 : At 37 28 [a0, some (.int x), a2] st I J Q ↔ At 37 29 [a0, some (.int x), a2] (.int x :: st) I J Q := A_iload_n (q := 1) (ab_io ci37 (by decide +kernel)) rfl
theorem k37_29 : At 37 29 ls [.int x] I J Q ↔ Q (some (.int x)) I J := A_iret (ab_io ci37 (by decide +kernel)) rt37
theorem k38_0 : At 38 0 ls st I J Q ↔ At 38 1 ls (.int (nI 0) :: st) I J Q := A_iconst (ab_io ci38 (by decide +kernel)) ic_0
theorem k38_1 : At 38 1 [a0, a1, a2, a3] (.int x :: st) I J Q ↔ At 38 2 [a0, ab_nv a1, some (.int x), a3] st I J Q := A_istore_n (q := 2) (ab_io ci38 (by decide +kernel)) (Nat.le_of_ble_eq_true rfl) rfl
theorem k38_2 : At 38 2 ls st I J Q ↔ At 38 3 ls (.int (nI 0) :: st) I J Q := A_iconst (ab_io ci38 (by decide +kernel)) ic_0
theorem k38_3 : At 38 3 [a0, a1, a2, a3] (.int x :: st) I J Q ↔ At 38 4 [a0, a1, ab_nv a2, some (.int x)] st I J Q := A_istore_n (q := 3) (ab_io ci38 (by decide +kernel)) (Nat.le_of_ble_eq_true rfl) rfl
theorem k38_4 : At 38 4 [a0, a1, a2, some (.int x)] st I J Q ↔ At 38 5 [a0, a1, a2, some (.int x)] (.int x :: st) I J Q := A_iload_n (q := 3) (ab_io ci38 (by decide +kernel)) rfl
theorem k38_5 : At 38 5 ls st I J Q ↔ At 38 7 ls (.int (nI 12) :: st) I J Q := A_bipush (ab_io ci38 (by decide +kernel)) bc_12
theorem k38_7 : At 38 7 ls (.int x1 :: .int x :: st) I J Q ↔ if x1 ≤ x then At 38 29 ls st I J Q else At 38 10 ls st I J Q := A_if_icmp_ge (o := 22) (ab_io ci38 (by decide +kernel)) (by decide)
theorem k38_10 : At 38 10 [a0, a1, some (.int x), a3] st I J Q ↔ At 38 11 [a0, a1, some (.int x), a3] (.int x :: st) I J Q := A_iload_n (q := 2) (ab_io ci38 (by decide +kernel)) rfl
theorem k38_11 : At 38 11 [some (.ref r), a1, a2, a3] st I J Q ↔ At 38 12 [some (.ref r), a1, a2, a3] (.ref r :: st) I J Q := A_aload_n (q := 0) (ab_io ci38 (by decide +kernel)) rfl
theorem k38_12_5 : At 38 12 ls (.ref 5 :: st) I J Q ↔ At 38 15 ls (.ref 7 :: st) I J Q := A_getR (ab_io ci38 (by decide +kernel)) ow38 fq1_15_5
theorem k38_12_17 : At 38 12 ls (.ref 17 :: st) I J Q ↔ At 38 15 ls (.ref 19 :: st) I J Q := A_getR (ab_io ci38 (by decide +kernel)) ow38 fq1_15_17
theorem k38_15 : At 38 15 [a0, a1, a2, some (.int x)] st I J Q ↔ At 38 16 [a0, a1, a2, some (.int x)] (.int x :: st) I J Q := A_iload_n (q := 3) (ab_io ci38 (by decide +kernel)) rfl
theorem k38_16 : At 38 16 ls (.int x :: .ref r :: st) I J Q ↔ ((ab_ly r).1 = 1 ∧ r < 75 ∧ 0 ≤ x.toInt ∧ x.toInt < (ab_ly r).2) ∧ At 38 17 ls (.int (I r x.toNatClampNeg) :: st) I J Q := A_iaload (ab_io ci38 (by decide +kernel))
theorem k38_17 : At 38 17 [a0, some (.int x), a2, a3] st I J Q ↔ At 38 18 [a0, some (.int x), a2, a3] (.int x :: st) I J Q := A_iload_n (q := 1) (ab_io ci38 (by decide +kernel)) rfl
theorem k38_18 : At 38 18 ls (.int x1 :: .int x :: st) I J Q ↔ At 38 19 ls (.int (x >>> (x1 &&& 31)) :: st) I J Q := A_ishr (ab_io ci38 (by decide +kernel))
theorem k38_19 : At 38 19 ls st I J Q ↔ At 38 20 ls (.int (nI 1) :: st) I J Q := A_iconst (ab_io ci38 (by decide +kernel)) ic_1
theorem k38_20 : At 38 20 ls (.int x1 :: .int x :: st) I J Q ↔ At 38 21 ls (.int (x &&& x1) :: st) I J Q := A_iand (ab_io ci38 (by decide +kernel))
theorem k38_21 : At 38 21 ls (.int x1 :: .int x :: st) I J Q ↔ At 38 22 ls (.int (x + x1) :: st) I J Q := A_iadd (ab_io ci38 (by decide +kernel))
theorem k38_22 : At 38 22 [a0, a1, a2, a3] (.int x :: st) I J Q ↔ At 38 23 [a0, ab_nv a1, some (.int x), a3] st I J Q := A_istore_n (q := 2) (ab_io ci38 (by decide +kernel)) (Nat.le_of_ble_eq_true rfl) rfl
theorem k38_23 : At 38 23 [a0, a1, a2, some (.int x)] st I J Q ↔ At 38 26 [a0, a1, ab_nv a2, some (.int (x + (nI 1)))] st I J Q := A_iinc (q := 3) (ab_io ci38 (by decide +kernel)) ic_1 (Nat.le_of_ble_eq_true rfl) rfl rfl
theorem k38_26 : At 38 26 ls st I J Q ↔ At 38 4 ls st I J Q := A_goto (o := (-22)) (ab_io ci38 (by decide +kernel)) (by decide)
theorem k38_29 : At 38 29 [a0, a1, some (.int x), a3] st I J Q ↔ At 38 30 [a0, a1, some (.int x), a3] (.int x :: st) I J Q := A_iload_n (q := 2) (ab_io ci38 (by decide +kernel)) rfl
theorem k38_30 : At 38 30 ls [.int x] I J Q ↔ Q (some (.int x)) I J := A_iret (ab_io ci38 (by decide +kernel)) rt38
theorem k39_0 : At 39 0 ls st I J Q ↔ At 39 1 ls (.int (nI 0) :: st) I J Q := A_iconst (ab_io ci39 (by decide +kernel)) ic_0
theorem k39_1 : At 39 1 [a0, a1, a2] (.int x :: st) I J Q ↔ At 39 2 [ab_nv a0, some (.int x), a2] st I J Q := A_istore_n (q := 1) (ab_io ci39 (by decide +kernel)) (Nat.le_of_ble_eq_true rfl) rfl
theorem k39_2 : At 39 2 ls st I J Q ↔ At 39 3 ls (.int (nI 0) :: st) I J Q := A_iconst (ab_io ci39 (by decide +kernel)) ic_0
theorem k39_3 : At 39 3 [a0, a1, a2] (.int x :: st) I J Q ↔ At 39 4 [a0, ab_nv a1, some (.int x)] st I J Q := A_istore_n (q := 2) (ab_io ci39 (by decide +kernel)) (Nat.le_of_ble_eq_true rfl) rfl
theorem k39_4 : At 39 4 [a0, a1, some (.int x)] st I J Q ↔ At 39 5 [a0, a1, some (.int x)] (.int x :: st) I J Q := A_iload_n (q := 2) (ab_io ci39 (by decide +kernel)) rfl
theorem k39_5 : At 39 5 ls st I J Q ↔ At 39 7 ls (.int (nI 12) :: st) I J Q := A_bipush (ab_io ci39 (by decide +kernel)) bc_12
theorem k39_7 : At 39 7 ls (.int x1 :: .int x :: st) I J Q ↔ if x1 ≤ x then At 39 28 ls st I J Q else At 39 10 ls st I J Q := A_if_icmp_ge (o := 21) (ab_io ci39 (by decide +kernel)) (by decide)
theorem k39_10 : At 39 10 [a0, some (.int x), a2] st I J Q ↔ At 39 11 [a0, some (.int x), a2] (.int x :: st) I J Q := A_iload_n (q := 1) (ab_io ci39 (by decide +kernel)) rfl
theorem k39_11 : At 39 11 [some (.ref r), a1, a2] st I J Q ↔ At 39 12 [some (.ref r), a1, a2] (.ref r :: st) I J Q := A_aload_n (q := 0) (ab_io ci39 (by decide +kernel)) rfl
theorem k39_12_5 : At 39 12 ls (.ref 5 :: st) I J Q ↔ At 39 15 ls (.ref 7 :: st) I J Q := A_getR (ab_io ci39 (by decide +kernel)) ow39 fq1_15_5
theorem k39_12_17 : At 39 12 ls (.ref 17 :: st) I J Q ↔ At 39 15 ls (.ref 19 :: st) I J Q := A_getR (ab_io ci39 (by decide +kernel)) ow39 fq1_15_17
theorem k39_15 : At 39 15 [a0, a1, some (.int x)] st I J Q ↔ At 39 16 [a0, a1, some (.int x)] (.int x :: st) I J Q := A_iload_n (q := 2) (ab_io ci39 (by decide +kernel)) rfl
theorem k39_16 : At 39 16 ls (.int x :: .ref r :: st) I J Q ↔ ((ab_ly r).1 = 1 ∧ r < 75 ∧ 0 ≤ x.toInt ∧ x.toInt < (ab_ly r).2) ∧ At 39 17 ls (.int (I r x.toNatClampNeg) :: st) I J Q := A_iaload (ab_io ci39 (by decide +kernel))
theorem k39_17 : At 39 17 ls [.int p0, .int q0] I J Q ↔ Cal 202 [.int p0] I J (fun v I' J' => At 39 20 ls (v.toList ++ [.int q0]) I' J' Q) := A_cal (kd := 1) (j := 87) (na := 1) (ea := 1) (rk := 0) (by decide +kernel) rfl rfl rfl (Or.inl rfl) (Nat.le_of_ble_eq_true rfl)
theorem k39_20 : At 39 20 ls (.int x1 :: .int x :: st) I J Q ↔ At 39 21 ls (.int (x + x1) :: st) I J Q := A_iadd (ab_io ci39 (by decide +kernel))
theorem k39_21 : At 39 21 [a0, a1, a2] (.int x :: st) I J Q ↔ At 39 22 [ab_nv a0, some (.int x), a2] st I J Q := A_istore_n (q := 1) (ab_io ci39 (by decide +kernel)) (Nat.le_of_ble_eq_true rfl) rfl
theorem k39_22 : At 39 22 [a0, a1, some (.int x)] st I J Q ↔ At 39 25 [a0, ab_nv a1, some (.int (x + (nI 1)))] st I J Q := A_iinc (q := 2) (ab_io ci39 (by decide +kernel)) ic_1 (Nat.le_of_ble_eq_true rfl) rfl rfl
theorem k39_25 : At 39 25 ls st I J Q ↔ At 39 4 ls st I J Q := A_goto (o := (-21)) (ab_io ci39 (by decide +kernel)) (by decide)
theorem k39_28 : At 39 28 [a0, some (.int x), a2] st I J Q ↔ At 39 29 [a0, some (.int x), a2] (.int x :: st) I J Q := A_iload_n (q := 1) (ab_io ci39 (by decide +kernel)) rfl
theorem k39_29 : At 39 29 ls [.int x] I J Q ↔ Q (some (.int x)) I J := A_iret (ab_io ci39 (by decide +kernel)) rt39
theorem k40_0 : At 40 0 ls st I J Q ↔ At 40 1 ls (.int (nI 0) :: st) I J Q := A_iconst (ab_io ci40 (by decide +kernel)) ic_0
theorem k40_1 : At 40 1 [a0, a1, a2] (.int x :: st) I J Q ↔ At 40 2 [ab_nv a0, some (.int x), a2] st I J Q := A_istore_n (q := 1) (ab_io ci40 (by decide +kernel)) (Nat.le_of_ble_eq_true rfl) rfl
theorem k40_2 : At 40 2 ls st I J Q ↔ At 40 3 ls (.int (nI 0) :: st) I J Q := A_iconst (ab_io ci40 (by decide +kernel)) ic_0
theorem k40_3 : At 40 3 [a0, a1, a2] (.int x :: st) I J Q ↔ At 40 4 [a0, ab_nv a1, some (.int x)] st I J Q := A_istore_n (q := 2) (ab_io ci40 (by decide +kernel)) (Nat.le_of_ble_eq_true rfl) rfl
theorem k40_4 : At 40 4 [a0, a1, some (.int x)] st I J Q ↔ At 40 5 [a0, a1, some (.int x)] (.int x :: st) I J Q := A_iload_n (q := 2) (ab_io ci40 (by decide +kernel)) rfl
theorem k40_5 : At 40 5 ls st I J Q ↔ At 40 7 ls (.int (nI 12) :: st) I J Q := A_bipush (ab_io ci40 (by decide +kernel)) bc_12
theorem k40_7 : At 40 7 ls (.int x1 :: .int x :: st) I J Q ↔ if x1 ≤ x then At 40 31 ls st I J Q else At 40 10 ls st I J Q := A_if_icmp_ge (o := 24) (ab_io ci40 (by decide +kernel)) (by decide)
theorem k40_10 : At 40 10 [some (.ref r), a1, a2] st I J Q ↔ At 40 11 [some (.ref r), a1, a2] (.ref r :: st) I J Q := A_aload_n (q := 0) (ab_io ci40 (by decide +kernel)) rfl
theorem k40_11_5 : At 40 11 ls (.ref 5 :: st) I J Q ↔ At 40 14 ls (.ref 7 :: st) I J Q := A_getR (ab_io ci40 (by decide +kernel)) ow40 fq1_15_5
theorem k40_11_17 : At 40 11 ls (.ref 17 :: st) I J Q ↔ At 40 14 ls (.ref 19 :: st) I J Q := A_getR (ab_io ci40 (by decide +kernel)) ow40 fq1_15_17
theorem k40_14 : At 40 14 [a0, a1, some (.int x)] st I J Q ↔ At 40 15 [a0, a1, some (.int x)] (.int x :: st) I J Q := A_iload_n (q := 2) (ab_io ci40 (by decide +kernel)) rfl
theorem k40_15 : At 40 15 ls (.int x :: .ref r :: st) I J Q ↔ ((ab_ly r).1 = 1 ∧ r < 75 ∧ 0 ≤ x.toInt ∧ x.toInt < (ab_ly r).2) ∧ At 40 16 ls (.int (I r x.toNatClampNeg) :: st) I J Q := A_iaload (ab_io ci40 (by decide +kernel))
theorem k40_16 : At 40 16 ls (.int x :: st) I J Q ↔ if x = 0 then At 40 25 ls st I J Q else At 40 19 ls st I J Q := A_ifCond_eq (o := 9) (ab_io ci40 (by decide +kernel)) (by decide)
theorem k40_19 : At 40 19 [a0, some (.int x), a2] st I J Q ↔ At 40 20 [a0, some (.int x), a2] (.int x :: st) I J Q := A_iload_n (q := 1) (ab_io ci40 (by decide +kernel)) rfl
theorem k40_20 : At 40 20 ls st I J Q ↔ At 40 21 ls (.int (nI 1) :: st) I J Q := A_iconst (ab_io ci40 (by decide +kernel)) ic_1
theorem k40_21 : At 40 21 [a0, a1, some (.int x)] st I J Q ↔ At 40 22 [a0, a1, some (.int x)] (.int x :: st) I J Q := A_iload_n (q := 2) (ab_io ci40 (by decide +kernel)) rfl
theorem k40_22 : At 40 22 ls (.int x1 :: .int x :: st) I J Q ↔ At 40 23 ls (.int (x <<< (x1 &&& 31)) :: st) I J Q := A_ishl (ab_io ci40 (by decide +kernel))
theorem k40_23 : At 40 23 ls (.int x1 :: .int x :: st) I J Q ↔ At 40 24 ls (.int (x ||| x1) :: st) I J Q := A_ior (ab_io ci40 (by decide +kernel))
theorem k40_24 : At 40 24 [a0, a1, a2] (.int x :: st) I J Q ↔ At 40 25 [ab_nv a0, some (.int x), a2] st I J Q := A_istore_n (q := 1) (ab_io ci40 (by decide +kernel)) (Nat.le_of_ble_eq_true rfl) rfl
theorem k40_25 : At 40 25 [a0, a1, some (.int x)] st I J Q ↔ At 40 28 [a0, ab_nv a1, some (.int (x + (nI 1)))] st I J Q := A_iinc (q := 2) (ab_io ci40 (by decide +kernel)) ic_1 (Nat.le_of_ble_eq_true rfl) rfl rfl
theorem k40_28 : At 40 28 ls st I J Q ↔ At 40 4 ls st I J Q := A_goto (o := (-24)) (ab_io ci40 (by decide +kernel)) (by decide)
theorem k40_31 : At 40 31 [a0, some (.int x), a2] st I J Q ↔ At 40 32 [a0, some (.int x), a2] (.int x :: st) I J Q := A_iload_n (q := 1) (ab_io ci40 (by decide +kernel)) rfl
theorem k40_32 : At 40 32 ls [.int x] I J Q ↔ Q (some (.int x)) I J := A_iret (ab_io ci40 (by decide +kernel)) rt40
end KROWS
