/-! the constructors, piece by piece (made by gen_ct.py) -/
theorem zo0 : mOw 0 = 0 := by decide +kernel
theorem zj0_3 : objE 0 3 = some (3, 156) := by decide +kernel
theorem zr0 : mRt 0 = none := by decide +kernel
theorem zm0 : mKd 0 = 2 ∧ mNp 0 = 0 ∧ mMx 0 = 1 := by decide +kernel
theorem zo9 : mOw 9 = 1 := by decide +kernel
theorem zj1_1 : objE 1 1 = some (1, 185) := by decide +kernel
theorem zq1_7 : fld 1 7 = some (1, 0) ∧ ftc 1 0 = 0 := by decide +kernel
theorem zf9_1_0 : (fQ 1 0).2.2 = false ∨ (mKd 9 = 2 ∧ mOw 9 = 1) := by decide +kernel
theorem zl1_13 : clk 1 13 = some 0 := by decide +kernel
theorem zc1_15 : cal 1 15 = some 0 := by decide +kernel
theorem zb1_15 : objE 1 15 = none := by decide +kernel
theorem zq1_16 : fld 1 16 = some (1, 1) ∧ ftc 1 1 = 2 := by decide +kernel
theorem zf9_1_1 : (fQ 1 1).2.2 = false ∨ (mKd 9 = 2 ∧ mOw 9 = 1) := by decide +kernel
theorem zr9 : mRt 9 = none := by decide +kernel
theorem zo15 : mOw 15 = 3 := by decide +kernel
theorem zj3_3 : objE 3 3 = some (3, 306) := by decide +kernel
theorem zl3_9 : clk 3 9 = some 0 := by decide +kernel
theorem zc3_11 : cal 3 11 = some 0 := by decide +kernel
theorem zb3_11 : objE 3 11 = none := by decide +kernel
theorem zq3_12 : fld 3 12 = some (3, 0) ∧ ftc 3 0 = 2 := by decide +kernel
theorem zf15_3_0 : (fQ 3 0).2.2 = false ∨ (mKd 15 = 2 ∧ mOw 15 = 3) := by decide +kernel
theorem zr15 : mRt 15 = none := by decide +kernel
theorem zo12 : mOw 12 = 2 := by decide +kernel
theorem zj2_1 : objE 2 1 = some (1, 300) := by decide +kernel
theorem zl2_7 : clk 2 7 = some 3 := by decide +kernel
theorem zc2_9 : cal 2 9 = some 15 := by decide +kernel
theorem zm15 : mKd 15 = 2 ∧ mNp 15 = 0 ∧ mMx 15 = 1 := by decide +kernel
theorem zb2_9 : objE 2 9 = none := by decide +kernel
theorem zq2_10 : fld 2 10 = some (2, 0) ∧ ftc 2 0 = 2 := by decide +kernel
theorem zf12_2_0 : (fQ 2 0).2.2 = false ∨ (mKd 12 = 2 ∧ mOw 12 = 2) := by decide +kernel
theorem zl2_16 : clk 2 16 = some 0 := by decide +kernel
theorem zc2_18 : cal 2 18 = some 0 := by decide +kernel
theorem zb2_18 : objE 2 18 = none := by decide +kernel
theorem zq2_19 : fld 2 19 = some (2, 1) ∧ ftc 2 1 = 2 := by decide +kernel
theorem zf12_2_1 : (fQ 2 1).2.2 = false ∨ (mKd 12 = 2 ∧ mOw 12 = 2) := by decide +kernel
theorem zq2_23 : fld 2 23 = some (2, 2) ∧ ftc 2 2 = 2 := by decide +kernel
theorem zf12_2_2 : (fQ 2 2).2.2 = false ∨ (mKd 12 = 2 ∧ mOw 12 = 2) := by decide +kernel
theorem zr12 : mRt 12 = none := by decide +kernel
theorem zo21 : mOw 21 = 4 := by decide +kernel
theorem zj4_3 : objE 4 3 = some (3, 584) := by decide +kernel
theorem zq4_9 : fld 4 9 = some (4, 0) ∧ ftc 4 0 = 2 := by decide +kernel
theorem zf21_4_0 : (fQ 4 0).2.2 = false ∨ (mKd 21 = 2 ∧ mOw 21 = 4) := by decide +kernel
theorem on344_38 : obn 344 38 4 := by unfold obn; decide +kernel
theorem zq4_15 : fld 4 15 = some (4, 1) ∧ ftc 4 1 = 2 := by decide +kernel
theorem zf21_4_1 : (fQ 4 1).2.2 = false ∨ (mKd 21 = 2 ∧ mOw 21 = 4) := by decide +kernel
theorem zq4_19 : fld 4 19 = some (4, 2) ∧ ftc 4 2 = 2 := by decide +kernel
theorem zf21_4_2 : (fQ 4 2).2.2 = false ∨ (mKd 21 = 2 ∧ mOw 21 = 4) := by decide +kernel
theorem zl4_23 : clk 4 23 = some 0 := by decide +kernel
theorem nw344 : nwo 344 39 0 := by unfold nwo; decide +kernel
theorem zc4_25 : cal 4 25 = some 0 := by decide +kernel
theorem zb4_25 : objE 4 25 = none := by decide +kernel
theorem zq4_26 : fld 4 26 = some (4, 3) ∧ ftc 4 3 = 2 := by decide +kernel
theorem zf21_4_3 : (fQ 4 3).2.2 = false ∨ (mKd 21 = 2 ∧ mOw 21 = 4) := by decide +kernel
theorem on345_38 : obn 345 38 4 := by unfold obn; decide +kernel
theorem nw345 : nwo 345 40 0 := by unfold nwo; decide +kernel
theorem zq4_30 : fld 4 30 = some (4, 4) ∧ ftc 4 4 = 2 := by decide +kernel
theorem zf21_4_4 : (fQ 4 4).2.2 = false ∨ (mKd 21 = 2 ∧ mOw 21 = 4) := by decide +kernel
theorem on346_38 : obn 346 38 4 := by unfold obn; decide +kernel
theorem nw346 : nwo 346 41 0 := by unfold nwo; decide +kernel
theorem zq4_33 : fld 4 33 = some (4, 5) ∧ ftc 4 5 = 2 := by decide +kernel
theorem zf21_4_5 : (fQ 4 5).2.2 = false ∨ (mKd 21 = 2 ∧ mOw 21 = 4) := by decide +kernel
theorem on347_38 : obn 347 38 4 := by unfold obn; decide +kernel
theorem nw347 : nwo 347 42 0 := by unfold nwo; decide +kernel
theorem zq4_36 : fld 4 36 = some (4, 6) ∧ ftc 4 6 = 2 := by decide +kernel
theorem zf21_4_6 : (fQ 4 6).2.2 = false ∨ (mKd 21 = 2 ∧ mOw 21 = 4) := by decide +kernel
theorem on348_38 : obn 348 38 4 := by unfold obn; decide +kernel
theorem zl4_39 : clk 4 39 = some 3 := by decide +kernel
theorem nw348 : nwo 348 43 3 := by unfold nwo; decide +kernel
theorem zc4_41 : cal 4 41 = some 15 := by decide +kernel
theorem zb4_41 : objE 4 41 = none := by decide +kernel
theorem zq4_42 : fld 4 42 = some (4, 7) ∧ ftc 4 7 = 2 := by decide +kernel
theorem zf21_4_7 : (fQ 4 7).2.2 = false ∨ (mKd 21 = 2 ∧ mOw 21 = 4) := by decide +kernel
theorem on350_38 : obn 350 38 4 := by unfold obn; decide +kernel
theorem zr21 : mRt 21 = none := by decide +kernel
theorem zo24 : mOw 24 = 5 := by decide +kernel
theorem zj5_3 : objE 5 3 = some (3, 130) := by decide +kernel
theorem zcs630 : (Int16.ofInt 630).toInt32 = 630 := by decide +kernel
theorem nw2 : nwa 2 3 2 630 := by unfold nwa; decide +kernel
theorem zn630 : ¬ (630 : Int32) < 0 ∧ (630 : Int32).toNatClampNeg = 630 := by decide +kernel
theorem zq5_9 : fld 5 9 = some (5, 0) ∧ ftc 5 0 = 2 := by decide +kernel
theorem zf24_5_0 : (fQ 5 0).2.2 = false ∨ (mKd 24 = 2 ∧ mOw 24 = 5) := by decide +kernel
theorem on3_2 : obn 3 2 5 := by unfold obn; decide +kernel
theorem zci0 : Int32.ofInt 0 = 0 := by decide +kernel
theorem an3_3 : arn 3 3 2 630 := by unfold arn; decide +kernel
theorem zcs360 : (Int16.ofInt 360).toInt32 = 360 := by decide +kernel
theorem zcs180 : (Int16.ofInt 180).toInt32 = 180 := by decide +kernel
theorem zc5_15 : cal 5 15 = some 25 := by decide +kernel
theorem zm25 : mKd 25 = 1 ∧ mNp 25 = 1 ∧ mMx 25 = 2 := by decide +kernel
theorem zp5_15 : prm 5 15 = none := by decide +kernel
theorem zr24 : mRt 24 = none := by decide +kernel
theorem znd24_58 : nds 24 58 = [] := by decide +kernel
theorem zci1 : Int32.ofInt 1 = 1 := by decide +kernel
theorem znd24_15 : nds 24 15 = [] := by decide +kernel
theorem zo38 : mOw 38 = 6 := by decide +kernel
theorem zj6_3 : objE 6 3 = some (3, 448) := by decide +kernel
theorem zq6_9 : fld 6 9 = some (6, 0) ∧ ftc 6 0 = 2 := by decide +kernel
theorem zf38_6_0 : (fQ 6 0).2.2 = false ∨ (mKd 38 = 2 ∧ mOw 38 = 6) := by decide +kernel
theorem on298_22 : obn 298 22 6 := by unfold obn; decide +kernel
theorem zq6_15 : fld 6 15 = some (6, 1) ∧ ftc 6 1 = 2 := by decide +kernel
theorem zf38_6_1 : (fQ 6 1).2.2 = false ∨ (mKd 38 = 2 ∧ mOw 38 = 6) := by decide +kernel
theorem zq6_19 : fld 6 19 = some (6, 2) ∧ ftc 6 2 = 2 := by decide +kernel
theorem zf38_6_2 : (fQ 6 2).2.2 = false ∨ (mKd 38 = 2 ∧ mOw 38 = 6) := by decide +kernel
theorem zcb60 : (Int8.ofInt 60).toInt32 = 60 := by decide +kernel
theorem nw298 : nwa 298 23 2 60 := by unfold nwa; decide +kernel
theorem zn60 : ¬ (60 : Int32) < 0 ∧ (60 : Int32).toNatClampNeg = 60 := by decide +kernel
theorem zq6_23 : fld 6 23 = some (6, 3) ∧ ftc 6 3 = 2 := by decide +kernel
theorem zf38_6_3 : (fQ 6 3).2.2 = false ∨ (mKd 38 = 2 ∧ mOw 38 = 6) := by decide +kernel
theorem on299_22 : obn 299 22 6 := by unfold obn; decide +kernel
theorem zcb30 : (Int8.ofInt 30).toInt32 = 30 := by decide +kernel
theorem nw299 : nwa 299 24 4 30 := by unfold nwa; decide +kernel
theorem zn30 : ¬ (30 : Int32) < 0 ∧ (30 : Int32).toNatClampNeg = 30 := by decide +kernel
theorem zl6_27 : clk 6 27 = some 0 := by decide +kernel
theorem zq6_29 : fld 6 29 = some (6, 4) ∧ ftc 6 4 = 2 := by decide +kernel
theorem zf38_6_4 : (fQ 6 4).2.2 = false ∨ (mKd 38 = 2 ∧ mOw 38 = 6) := by decide +kernel
theorem on300_22 : obn 300 22 6 := by unfold obn; decide +kernel
theorem zc6_33 : cal 6 33 = some 0 := by decide +kernel
theorem zb6_33 : objE 6 33 = none := by decide +kernel
theorem znd38_39 : nds 38 39 = [] := by decide +kernel
theorem zl6_34 : clk 6 34 = some 3 := by decide +kernel
theorem nw330 : nwo 330 25 3 := by unfold nwo; decide +kernel
theorem zc6_36 : cal 6 36 = some 15 := by decide +kernel
theorem zb6_36 : objE 6 36 = none := by decide +kernel
theorem zq6_37 : fld 6 37 = some (6, 5) ∧ ftc 6 5 = 2 := by decide +kernel
theorem zf38_6_5 : (fQ 6 5).2.2 = false ∨ (mKd 38 = 2 ∧ mOw 38 = 6) := by decide +kernel
theorem on332_22 : obn 332 22 6 := by unfold obn; decide +kernel
theorem zcim1 : Int32.ofInt (-1) = (-1) := by decide +kernel
theorem zq6_41 : fld 6 41 = some (6, 8) ∧ ftc 6 8 = 0 := by decide +kernel
theorem zf38_6_8 : (fQ 6 8).2.2 = false ∨ (mKd 38 = 2 ∧ mOw 38 = 6) := by decide +kernel
theorem zr38 : mRt 38 = none := by decide +kernel
theorem zo46 : mOw 46 = 7 := by decide +kernel
theorem zj7_3 : objE 7 3 = some (3, 543) := by decide +kernel
theorem zq7_9 : fld 7 9 = some (7, 0) ∧ ftc 7 0 = 2 := by decide +kernel
theorem zf46_7_0 : (fQ 7 0).2.2 = false ∨ (mKd 46 = 2 ∧ mOw 46 = 7) := by decide +kernel
theorem on340_34 : obn 340 34 7 := by unfold obn; decide +kernel
theorem zq7_15 : fld 7 15 = some (7, 1) ∧ ftc 7 1 = 2 := by decide +kernel
theorem zf46_7_1 : (fQ 7 1).2.2 = false ∨ (mKd 46 = 2 ∧ mOw 46 = 7) := by decide +kernel
theorem zl7_19 : clk 7 19 = some 0 := by decide +kernel
theorem nw340 : nwo 340 35 0 := by unfold nwo; decide +kernel
theorem zc7_21 : cal 7 21 = some 0 := by decide +kernel
theorem zb7_21 : objE 7 21 = none := by decide +kernel
theorem zq7_22 : fld 7 22 = some (7, 2) ∧ ftc 7 2 = 2 := by decide +kernel
theorem zf46_7_2 : (fQ 7 2).2.2 = false ∨ (mKd 46 = 2 ∧ mOw 46 = 7) := by decide +kernel
theorem on341_34 : obn 341 34 7 := by unfold obn; decide +kernel
theorem zcs900 : (Int16.ofInt 900).toInt32 = 900 := by decide +kernel
theorem nw341 : nwa 341 36 2 900 := by unfold nwa; decide +kernel
theorem zn900 : ¬ (900 : Int32) < 0 ∧ (900 : Int32).toNatClampNeg = 900 := by decide +kernel
theorem zq7_26 : fld 7 26 = some (7, 3) ∧ ftc 7 3 = 2 := by decide +kernel
theorem zf46_7_3 : (fQ 7 3).2.2 = false ∨ (mKd 46 = 2 ∧ mOw 46 = 7) := by decide +kernel
theorem on342_34 : obn 342 34 7 := by unfold obn; decide +kernel
theorem nw342 : nwa 342 37 2 900 := by unfold nwa; decide +kernel
theorem zq7_30 : fld 7 30 = some (7, 4) ∧ ftc 7 4 = 2 := by decide +kernel
theorem zf46_7_4 : (fQ 7 4).2.2 = false ∨ (mKd 46 = 2 ∧ mOw 46 = 7) := by decide +kernel
theorem on343_34 : obn 343 34 7 := by unfold obn; decide +kernel
theorem zq7_33 : fld 7 33 = some (7, 5) ∧ ftc 7 5 = 0 := by decide +kernel
theorem zf46_7_5 : (fQ 7 5).2.2 = false ∨ (mKd 46 = 2 ∧ mOw 46 = 7) := by decide +kernel
theorem zq7_37 : fld 7 37 = some (7, 6) ∧ ftc 7 6 = 0 := by decide +kernel
theorem zf46_7_6 : (fQ 7 6).2.2 = false ∨ (mKd 46 = 2 ∧ mOw 46 = 7) := by decide +kernel
theorem zq7_40 : fld 7 40 = some (7, 7) ∧ ftc 7 7 = 0 := by decide +kernel
theorem zf46_7_7 : (fQ 7 7).2.2 = false ∨ (mKd 46 = 2 ∧ mOw 46 = 7) := by decide +kernel
theorem zcb20 : (Int8.ofInt 20).toInt32 = 20 := by decide +kernel
theorem zq7_43 : fld 7 43 = some (7, 8) ∧ ftc 7 8 = 0 := by decide +kernel
theorem zf46_7_8 : (fQ 7 8).2.2 = false ∨ (mKd 46 = 2 ∧ mOw 46 = 7) := by decide +kernel
theorem zq7_46 : fld 7 46 = some (7, 9) ∧ ftc 7 9 = 0 := by decide +kernel
theorem zf46_7_9 : (fQ 7 9).2.2 = false ∨ (mKd 46 = 2 ∧ mOw 46 = 7) := by decide +kernel
theorem zr46 : mRt 46 = none := by decide +kernel
theorem zo58 : mOw 58 = 8 := by decide +kernel
theorem zj8_3 : objE 8 3 = some (3, 149) := by decide +kernel
theorem zq8_9 : fld 8 9 = some (8, 0) ∧ ftc 8 0 = 2 := by decide +kernel
theorem zf58_8_0 : (fQ 8 0).2.2 = false ∨ (mKd 58 = 2 ∧ mOw 58 = 8) := by decide +kernel
theorem on4_4 : obn 4 4 8 := by unfold obn; decide +kernel
theorem zcb6 : (Int8.ofInt 6).toInt32 = 6 := by decide +kernel
theorem nw4 : nwa 4 5 2 6 := by unfold nwa; decide +kernel
theorem zn6 : ¬ (6 : Int32) < 0 ∧ (6 : Int32).toNatClampNeg = 6 := by decide +kernel
theorem zq8_15 : fld 8 15 = some (8, 1) ∧ ftc 8 1 = 2 := by decide +kernel
theorem zf58_8_1 : (fQ 8 1).2.2 = false ∨ (mKd 58 = 2 ∧ mOw 58 = 8) := by decide +kernel
theorem on5_4 : obn 5 4 8 := by unfold obn; decide +kernel
theorem nw5 : nwa 5 6 2 6 := by unfold nwa; decide +kernel
theorem zq8_19 : fld 8 19 = some (8, 2) ∧ ftc 8 2 = 2 := by decide +kernel
theorem zf58_8_2 : (fQ 8 2).2.2 = false ∨ (mKd 58 = 2 ∧ mOw 58 = 8) := by decide +kernel
theorem on6_4 : obn 6 4 8 := by unfold obn; decide +kernel
theorem nw6 : nwa 6 7 2 6 := by unfold nwa; decide +kernel
theorem zq8_22 : fld 8 22 = some (8, 3) ∧ ftc 8 3 = 2 := by decide +kernel
theorem zf58_8_3 : (fQ 8 3).2.2 = false ∨ (mKd 58 = 2 ∧ mOw 58 = 8) := by decide +kernel
theorem on7_4 : obn 7 4 8 := by unfold obn; decide +kernel
theorem nw7 : nwa 7 8 4 6 := by unfold nwa; decide +kernel
theorem zl8_25 : clk 8 25 = some 0 := by decide +kernel
theorem zq8_27 : fld 8 27 = some (8, 4) ∧ ftc 8 4 = 2 := by decide +kernel
theorem zf58_8_4 : (fQ 8 4).2.2 = false ∨ (mKd 58 = 2 ∧ mOw 58 = 8) := by decide +kernel
theorem on8_4 : obn 8 4 8 := by unfold obn; decide +kernel
theorem zc8_31 : cal 8 31 = some 0 := by decide +kernel
theorem zb8_31 : objE 8 31 = none := by decide +kernel
theorem znd58_44 : nds 58 44 = [] := by decide +kernel
theorem nw14 : nwa 14 9 5 60 := by unfold nwa; decide +kernel
theorem zl8_32 : clk 8 32 = some 1 := by decide +kernel
theorem zq8_34 : fld 8 34 = some (8, 5) ∧ ftc 8 5 = 2 := by decide +kernel
theorem zf58_8_5 : (fQ 8 5).2.2 = false ∨ (mKd 58 = 2 ∧ mOw 58 = 8) := by decide +kernel
theorem on15_4 : obn 15 4 8 := by unfold obn; decide +kernel
theorem zc8_38 : cal 8 38 = some 9 := by decide +kernel
theorem zm9 : mKd 9 = 2 ∧ mNp 9 = 1 ∧ mMx 9 = 2 := by decide +kernel
theorem zb8_38 : objE 8 38 = none := by decide +kernel
theorem znd58_80 : nds 58 80 = [] := by decide +kernel
theorem zcs3600 : (Int16.ofInt 3600).toInt32 = 3600 := by decide +kernel
theorem nw135 : nwa 135 10 2 3600 := by unfold nwa; decide +kernel
theorem zn3600 : ¬ (3600 : Int32) < 0 ∧ (3600 : Int32).toNatClampNeg = 3600 := by decide +kernel
theorem zq8_41 : fld 8 41 = some (8, 6) ∧ ftc 8 6 = 2 := by decide +kernel
theorem zf58_8_6 : (fQ 8 6).2.2 = false ∨ (mKd 58 = 2 ∧ mOw 58 = 8) := by decide +kernel
theorem on136_4 : obn 136 4 8 := by unfold obn; decide +kernel
theorem zq8_44 : fld 8 44 = some (8, 9) ∧ ftc 8 9 = 0 := by decide +kernel
theorem zf58_8_9 : (fQ 8 9).2.2 = false ∨ (mKd 58 = 2 ∧ mOw 58 = 8) := by decide +kernel
theorem zr58 : mRt 58 = none := by decide +kernel
theorem zo77 : mOw 77 = 9 := by decide +kernel
theorem zj9_3 : objE 9 3 = some (3, 489) := by decide +kernel
theorem zq9_9 : fld 9 9 = some (9, 0) ∧ ftc 9 0 = 2 := by decide +kernel
theorem zf77_9_0 : (fQ 9 0).2.2 = false ∨ (mKd 77 = 2 ∧ mOw 77 = 9) := by decide +kernel
theorem on333_27 : obn 333 27 9 := by unfold obn; decide +kernel
theorem zq9_15 : fld 9 15 = some (9, 1) ∧ ftc 9 1 = 2 := by decide +kernel
theorem zf77_9_1 : (fQ 9 1).2.2 = false ∨ (mKd 77 = 2 ∧ mOw 77 = 9) := by decide +kernel
theorem zl9_19 : clk 9 19 = some 0 := by decide +kernel
theorem nw333 : nwo 333 28 0 := by unfold nwo; decide +kernel
theorem zc9_21 : cal 9 21 = some 0 := by decide +kernel
theorem zb9_21 : objE 9 21 = none := by decide +kernel
theorem zq9_22 : fld 9 22 = some (9, 2) ∧ ftc 9 2 = 2 := by decide +kernel
theorem zf77_9_2 : (fQ 9 2).2.2 = false ∨ (mKd 77 = 2 ∧ mOw 77 = 9) := by decide +kernel
theorem on334_27 : obn 334 27 9 := by unfold obn; decide +kernel
theorem nw334 : nwa 334 29 3 6 := by unfold nwa; decide +kernel
theorem zq9_26 : fld 9 26 = some (9, 3) ∧ ftc 9 3 = 2 := by decide +kernel
theorem zf77_9_3 : (fQ 9 3).2.2 = false ∨ (mKd 77 = 2 ∧ mOw 77 = 9) := by decide +kernel
theorem on335_27 : obn 335 27 9 := by unfold obn; decide +kernel
theorem zci2 : Int32.ofInt 2 = 2 := by decide +kernel
theorem nw335 : nwa 335 30 2 2 := by unfold nwa; decide +kernel
theorem zn2 : ¬ (2 : Int32) < 0 ∧ (2 : Int32).toNatClampNeg = 2 := by decide +kernel
theorem zq9_30 : fld 9 30 = some (9, 4) ∧ ftc 9 4 = 2 := by decide +kernel
theorem zf77_9_4 : (fQ 9 4).2.2 = false ∨ (mKd 77 = 2 ∧ mOw 77 = 9) := by decide +kernel
theorem on336_27 : obn 336 27 9 := by unfold obn; decide +kernel
theorem nw336 : nwa 336 31 2 2 := by unfold nwa; decide +kernel
theorem zq9_34 : fld 9 34 = some (9, 5) ∧ ftc 9 5 = 2 := by decide +kernel
theorem zf77_9_5 : (fQ 9 5).2.2 = false ∨ (mKd 77 = 2 ∧ mOw 77 = 9) := by decide +kernel
theorem on337_27 : obn 337 27 9 := by unfold obn; decide +kernel
theorem zci3 : Int32.ofInt 3 = 3 := by decide +kernel
theorem nw337 : nwa 337 32 2 3 := by unfold nwa; decide +kernel
theorem zn3 : ¬ (3 : Int32) < 0 ∧ (3 : Int32).toNatClampNeg = 3 := by decide +kernel
theorem zq9_37 : fld 9 37 = some (9, 6) ∧ ftc 9 6 = 2 := by decide +kernel
theorem zf77_9_6 : (fQ 9 6).2.2 = false ∨ (mKd 77 = 2 ∧ mOw 77 = 9) := by decide +kernel
theorem on338_27 : obn 338 27 9 := by unfold obn; decide +kernel
theorem nw338 : nwa 338 33 2 3 := by unfold nwa; decide +kernel
theorem zq9_40 : fld 9 40 = some (9, 7) ∧ ftc 9 7 = 2 := by decide +kernel
theorem zf77_9_7 : (fQ 9 7).2.2 = false ∨ (mKd 77 = 2 ∧ mOw 77 = 9) := by decide +kernel
theorem on339_27 : obn 339 27 9 := by unfold obn; decide +kernel
theorem zq9_43 : fld 9 43 = some (9, 8) ∧ ftc 9 8 = 0 := by decide +kernel
theorem zf77_9_8 : (fQ 9 8).2.2 = false ∨ (mKd 77 = 2 ∧ mOw 77 = 9) := by decide +kernel
theorem zq9_47 : fld 9 47 = some (9, 9) ∧ ftc 9 9 = 0 := by decide +kernel
theorem zf77_9_9 : (fQ 9 9).2.2 = false ∨ (mKd 77 = 2 ∧ mOw 77 = 9) := by decide +kernel
theorem zq9_50 : fld 9 50 = some (9, 10) ∧ ftc 9 10 = 0 := by decide +kernel
theorem zf77_9_10 : (fQ 9 10).2.2 = false ∨ (mKd 77 = 2 ∧ mOw 77 = 9) := by decide +kernel
theorem zq9_53 : fld 9 53 = some (9, 11) ∧ ftc 9 11 = 0 := by decide +kernel
theorem zf77_9_11 : (fQ 9 11).2.2 = false ∨ (mKd 77 = 2 ∧ mOw 77 = 9) := by decide +kernel
theorem zr77 : mRt 77 = none := by decide +kernel
theorem zo86 : mOw 86 = 10 := by decide +kernel
theorem zj10_3 : objE 10 3 = some (3, 292) := by decide +kernel
theorem zq10_9 : fld 10 9 = some (10, 0) ∧ ftc 10 0 = 2 := by decide +kernel
theorem zf86_10_0 : (fQ 10 0).2.2 = false ∨ (mKd 86 = 2 ∧ mOw 86 = 10) := by decide +kernel
theorem on137_11 : obn 137 11 10 := by unfold obn; decide +kernel
theorem zq10_15 : fld 10 15 = some (10, 1) ∧ ftc 10 1 = 2 := by decide +kernel
theorem zf86_10_1 : (fQ 10 1).2.2 = false ∨ (mKd 86 = 2 ∧ mOw 86 = 10) := by decide +kernel
theorem nw137 : nwa 137 12 2 60 := by unfold nwa; decide +kernel
theorem zq10_19 : fld 10 19 = some (10, 2) ∧ ftc 10 2 = 2 := by decide +kernel
theorem zf86_10_2 : (fQ 10 2).2.2 = false ∨ (mKd 86 = 2 ∧ mOw 86 = 10) := by decide +kernel
theorem on138_11 : obn 138 11 10 := by unfold obn; decide +kernel
theorem nw138 : nwa 138 13 6 30 := by unfold nwa; decide +kernel
theorem zl10_23 : clk 10 23 = some 2 := by decide +kernel
theorem zq10_25 : fld 10 25 = some (10, 3) ∧ ftc 10 3 = 2 := by decide +kernel
theorem zf86_10_3 : (fQ 10 3).2.2 = false ∨ (mKd 86 = 2 ∧ mOw 86 = 10) := by decide +kernel
theorem on139_11 : obn 139 11 10 := by unfold obn; decide +kernel
theorem nw139 : nwa 139 14 4 30 := by unfold nwa; decide +kernel
theorem zl10_29 : clk 10 29 = some 0 := by decide +kernel
theorem zq10_31 : fld 10 31 = some (10, 4) ∧ ftc 10 4 = 2 := by decide +kernel
theorem zf86_10_4 : (fQ 10 4).2.2 = false ∨ (mKd 86 = 2 ∧ mOw 86 = 10) := by decide +kernel
theorem on140_11 : obn 140 11 10 := by unfold obn; decide +kernel
theorem zc10_35 : cal 10 35 = some 12 := by decide +kernel
theorem zm12 : mKd 12 = 2 ∧ mNp 12 = 0 ∧ mMx 12 = 1 := by decide +kernel
theorem zb10_35 : objE 10 35 = none := by decide +kernel
theorem zq10_36 : fld 10 36 = some (2, 2) ∧ ftc 2 2 = 2 := by decide +kernel
theorem znd86_42 : nds 86 42 = [] := by decide +kernel
theorem nw290 : nwa 290 15 2 60 := by unfold nwa; decide +kernel
theorem zq10_40 : fld 10 40 = some (10, 5) ∧ ftc 10 5 = 2 := by decide +kernel
theorem zf86_10_5 : (fQ 10 5).2.2 = false ∨ (mKd 86 = 2 ∧ mOw 86 = 10) := by decide +kernel
theorem on291_11 : obn 291 11 10 := by unfold obn; decide +kernel
theorem nw291 : nwa 291 16 2 60 := by unfold nwa; decide +kernel
theorem zq10_43 : fld 10 43 = some (10, 6) ∧ ftc 10 6 = 2 := by decide +kernel
theorem zf86_10_6 : (fQ 10 6).2.2 = false ∨ (mKd 86 = 2 ∧ mOw 86 = 10) := by decide +kernel
theorem on292_11 : obn 292 11 10 := by unfold obn; decide +kernel
theorem nw292 : nwa 292 17 2 60 := by unfold nwa; decide +kernel
theorem zq10_46 : fld 10 46 = some (10, 7) ∧ ftc 10 7 = 2 := by decide +kernel
theorem zf86_10_7 : (fQ 10 7).2.2 = false ∨ (mKd 86 = 2 ∧ mOw 86 = 10) := by decide +kernel
theorem on293_11 : obn 293 11 10 := by unfold obn; decide +kernel
theorem nw293 : nwa 293 18 2 60 := by unfold nwa; decide +kernel
theorem zq10_49 : fld 10 49 = some (10, 8) ∧ ftc 10 8 = 2 := by decide +kernel
theorem zf86_10_8 : (fQ 10 8).2.2 = false ∨ (mKd 86 = 2 ∧ mOw 86 = 10) := by decide +kernel
theorem on294_11 : obn 294 11 10 := by unfold obn; decide +kernel
theorem nw294 : nwa 294 19 2 60 := by unfold nwa; decide +kernel
theorem zq10_52 : fld 10 52 = some (10, 9) ∧ ftc 10 9 = 2 := by decide +kernel
theorem zf86_10_9 : (fQ 10 9).2.2 = false ∨ (mKd 86 = 2 ∧ mOw 86 = 10) := by decide +kernel
theorem on295_11 : obn 295 11 10 := by unfold obn; decide +kernel
theorem zcb46 : (Int8.ofInt 46).toInt32 = 46 := by decide +kernel
theorem nw295 : nwa 295 20 2 46 := by unfold nwa; decide +kernel
theorem zn46 : ¬ (46 : Int32) < 0 ∧ (46 : Int32).toNatClampNeg = 46 := by decide +kernel
theorem zq10_55 : fld 10 55 = some (10, 10) ∧ ftc 10 10 = 2 := by decide +kernel
theorem zf86_10_10 : (fQ 10 10).2.2 = false ∨ (mKd 86 = 2 ∧ mOw 86 = 10) := by decide +kernel
theorem on296_11 : obn 296 11 10 := by unfold obn; decide +kernel
theorem zcb91 : (Int8.ofInt 91).toInt32 = 91 := by decide +kernel
theorem nw296 : nwa 296 21 2 91 := by unfold nwa; decide +kernel
theorem zn91 : ¬ (91 : Int32) < 0 ∧ (91 : Int32).toNatClampNeg = 91 := by decide +kernel
theorem zq10_58 : fld 10 58 = some (10, 11) ∧ ftc 10 11 = 2 := by decide +kernel
theorem zf86_10_11 : (fQ 10 11).2.2 = false ∨ (mKd 86 = 2 ∧ mOw 86 = 10) := by decide +kernel
theorem on297_11 : obn 297 11 10 := by unfold obn; decide +kernel
theorem zcb10 : (Int8.ofInt 10).toInt32 = 10 := by decide +kernel
theorem zq10_61 : fld 10 61 = some (10, 12) ∧ ftc 10 12 = 0 := by decide +kernel
theorem zf86_10_12 : (fQ 10 12).2.2 = false ∨ (mKd 86 = 2 ∧ mOw 86 = 10) := by decide +kernel
theorem zq10_65 : fld 10 65 = some (10, 13) ∧ ftc 10 13 = 0 := by decide +kernel
theorem zf86_10_13 : (fQ 10 13).2.2 = false ∨ (mKd 86 = 2 ∧ mOw 86 = 10) := by decide +kernel
theorem zq10_68 : fld 10 68 = some (10, 15) ∧ ftc 10 15 = 0 := by decide +kernel
theorem zf86_10_15 : (fQ 10 15).2.2 = false ∨ (mKd 86 = 2 ∧ mOw 86 = 10) := by decide +kernel
theorem zq10_71 : fld 10 71 = some (10, 16) ∧ ftc 10 16 = 0 := by decide +kernel
theorem zf86_10_16 : (fQ 10 16).2.2 = false ∨ (mKd 86 = 2 ∧ mOw 86 = 10) := by decide +kernel
theorem zr86 : mRt 86 = none := by decide +kernel
theorem zo117 : mOw 117 = 11 := by decide +kernel
theorem zj11_1 : objE 11 1 = some (1, 122) := by decide +kernel
theorem zl11_7 : clk 11 7 = some 5 := by decide +kernel
theorem nw1 : nwo 1 2 5 := by unfold nwo; decide +kernel
theorem zc11_9 : cal 11 9 = some 24 := by decide +kernel
theorem zm24 : mKd 24 = 2 ∧ mNp 24 = 0 ∧ mMx 24 = 3 := by decide +kernel
theorem zb11_9 : objE 11 9 = none := by decide +kernel
theorem zq11_10 : fld 11 10 = some (11, 0) ∧ ftc 11 0 = 2 := by decide +kernel
theorem zf117_11_0 : (fQ 11 0).2.2 = false ∨ (mKd 117 = 2 ∧ mOw 117 = 11) := by decide +kernel
theorem on3_1 : obn 3 1 11 := by unfold obn; decide +kernel
theorem zl11_16 : clk 11 16 = some 8 := by decide +kernel
theorem nw3 : nwo 3 4 8 := by unfold nwo; decide +kernel
theorem on4_1 : obn 4 1 11 := by unfold obn; decide +kernel
theorem zc11_18 : cal 11 18 = some 58 := by decide +kernel
theorem zm58 : mKd 58 = 2 ∧ mNp 58 = 1 ∧ mMx 58 = 3 := by decide +kernel
theorem zb11_18 : objE 11 18 = none := by decide +kernel
theorem zq11_21 : fld 11 21 = some (11, 1) ∧ ftc 11 1 = 2 := by decide +kernel
theorem zf117_11_1 : (fQ 11 1).2.2 = false ∨ (mKd 117 = 2 ∧ mOw 117 = 11) := by decide +kernel
theorem on136_1 : obn 136 1 11 := by unfold obn; decide +kernel
theorem zl11_25 : clk 11 25 = some 10 := by decide +kernel
theorem nw136 : nwo 136 11 10 := by unfold nwo; decide +kernel
theorem on137_1 : obn 137 1 11 := by unfold obn; decide +kernel
theorem zc11_27 : cal 11 27 = some 86 := by decide +kernel
theorem zm86 : mKd 86 = 2 ∧ mNp 86 = 2 ∧ mMx 86 = 4 := by decide +kernel
theorem zb11_27 : objE 11 27 = none := by decide +kernel
theorem zq11_30 : fld 11 30 = some (11, 2) ∧ ftc 11 2 = 2 := by decide +kernel
theorem zf117_11_2 : (fQ 11 2).2.2 = false ∨ (mKd 117 = 2 ∧ mOw 117 = 11) := by decide +kernel
theorem on297_1 : obn 297 1 11 := by unfold obn; decide +kernel
theorem zl11_34 : clk 11 34 = some 6 := by decide +kernel
theorem nw297 : nwo 297 22 6 := by unfold nwo; decide +kernel
theorem on298_1 : obn 298 1 11 := by unfold obn; decide +kernel
theorem zc11_36 : cal 11 36 = some 38 := by decide +kernel
theorem zm38 : mKd 38 = 2 ∧ mNp 38 = 3 ∧ mMx 38 = 5 := by decide +kernel
theorem zb11_36 : objE 11 36 = none := by decide +kernel
theorem zq11_39 : fld 11 39 = some (11, 3) ∧ ftc 11 3 = 2 := by decide +kernel
theorem zf117_11_3 : (fQ 11 3).2.2 = false ∨ (mKd 117 = 2 ∧ mOw 117 = 11) := by decide +kernel
theorem on332_1 : obn 332 1 11 := by unfold obn; decide +kernel
theorem zl11_43 : clk 11 43 = some 9 := by decide +kernel
theorem nw332 : nwo 332 27 9 := by unfold nwo; decide +kernel
theorem on333_1 : obn 333 1 11 := by unfold obn; decide +kernel
theorem zc11_45 : cal 11 45 = some 77 := by decide +kernel
theorem zm77 : mKd 77 = 2 ∧ mNp 77 = 2 ∧ mMx 77 = 3 := by decide +kernel
theorem zb11_45 : objE 11 45 = none := by decide +kernel
theorem zq11_46 : fld 11 46 = some (11, 4) ∧ ftc 11 4 = 2 := by decide +kernel
theorem zf117_11_4 : (fQ 11 4).2.2 = false ∨ (mKd 117 = 2 ∧ mOw 117 = 11) := by decide +kernel
theorem on339_1 : obn 339 1 11 := by unfold obn; decide +kernel
theorem zl11_50 : clk 11 50 = some 7 := by decide +kernel
theorem nw339 : nwo 339 34 7 := by unfold nwo; decide +kernel
theorem on340_1 : obn 340 1 11 := by unfold obn; decide +kernel
theorem zc11_52 : cal 11 52 = some 46 := by decide +kernel
theorem zm46 : mKd 46 = 2 ∧ mNp 46 = 2 ∧ mMx 46 = 3 := by decide +kernel
theorem zb11_52 : objE 11 52 = none := by decide +kernel
theorem zq11_55 : fld 11 55 = some (11, 5) ∧ ftc 11 5 = 2 := by decide +kernel
theorem zf117_11_5 : (fQ 11 5).2.2 = false ∨ (mKd 117 = 2 ∧ mOw 117 = 11) := by decide +kernel
theorem on343_1 : obn 343 1 11 := by unfold obn; decide +kernel
theorem zl11_59 : clk 11 59 = some 4 := by decide +kernel
theorem nw343 : nwo 343 38 4 := by unfold nwo; decide +kernel
theorem on344_1 : obn 344 1 11 := by unfold obn; decide +kernel
theorem zc11_61 : cal 11 61 = some 21 := by decide +kernel
theorem zm21 : mKd 21 = 2 ∧ mNp 21 = 3 ∧ mMx 21 = 4 := by decide +kernel
theorem zb11_61 : objE 11 61 = none := by decide +kernel
theorem zq11_62 : fld 11 62 = some (11, 6) ∧ ftc 11 6 = 2 := by decide +kernel
theorem zf117_11_6 : (fQ 11 6).2.2 = false ∨ (mKd 117 = 2 ∧ mOw 117 = 11) := by decide +kernel
theorem on350_1 : obn 350 1 11 := by unfold obn; decide +kernel
theorem zl11_66 : clk 11 66 = some 0 := by decide +kernel
theorem nw350 : nwo 350 45 0 := by unfold nwo; decide +kernel
theorem zc11_68 : cal 11 68 = some 0 := by decide +kernel
theorem zb11_68 : objE 11 68 = none := by decide +kernel
theorem zq11_69 : fld 11 69 = some (11, 7) ∧ ftc 11 7 = 2 := by decide +kernel
theorem zf117_11_7 : (fQ 11 7).2.2 = false ∨ (mKd 117 = 2 ∧ mOw 117 = 11) := by decide +kernel
theorem on351_1 : obn 351 1 11 := by unfold obn; decide +kernel
theorem zq11_73 : fld 11 73 = some (11, 8) ∧ ftc 11 8 = 0 := by decide +kernel
theorem zf117_11_8 : (fQ 11 8).2.2 = false ∨ (mKd 117 = 2 ∧ mOw 117 = 11) := by decide +kernel
theorem zr117 : mRt 117 = none := by decide +kernel
theorem zo176 : mOw 176 = 12 := by decide +kernel
theorem zj12_1 : objE 12 1 = some (1, 1406) := by decide +kernel
theorem zq12_7 : fld 12 7 = some (12, 3) ∧ ftc 12 3 = 0 := by decide +kernel
theorem zf176_12_3 : (fQ 12 3).2.2 = false ∨ (mKd 176 = 2 ∧ mOw 176 = 12) := by decide +kernel
theorem on352_46 : obn 352 46 12 := by unfold obn; decide +kernel
theorem zq12_13 : fld 12 13 = some (12, 4) ∧ ftc 12 4 = 0 := by decide +kernel
theorem zf176_12_4 : (fQ 12 4).2.2 = false ∨ (mKd 176 = 2 ∧ mOw 176 = 12) := by decide +kernel
theorem zq12_16 : fld 12 16 = some (12, 5) ∧ ftc 12 5 = 0 := by decide +kernel
theorem zf176_12_5 : (fQ 12 5).2.2 = false ∨ (mKd 176 = 2 ∧ mOw 176 = 12) := by decide +kernel
theorem zq12_19 : fld 12 19 = some (12, 7) ∧ ftc 12 7 = 0 := by decide +kernel
theorem zf176_12_7 : (fQ 12 7).2.2 = false ∨ (mKd 176 = 2 ∧ mOw 176 = 12) := by decide +kernel
theorem zq12_22 : fld 12 22 = some (12, 8) ∧ ftc 12 8 = 0 := by decide +kernel
theorem zf176_12_8 : (fQ 12 8).2.2 = false ∨ (mKd 176 = 2 ∧ mOw 176 = 12) := by decide +kernel
theorem zq12_25 : fld 12 25 = some (12, 9) ∧ ftc 12 9 = 0 := by decide +kernel
theorem zf176_12_9 : (fQ 12 9).2.2 = false ∨ (mKd 176 = 2 ∧ mOw 176 = 12) := by decide +kernel
theorem nw352 : nwa 352 47 2 6 := by unfold nwa; decide +kernel
theorem zq12_28 : fld 12 28 = some (12, 10) ∧ ftc 12 10 = 2 := by decide +kernel
theorem zf176_12_10 : (fQ 12 10).2.2 = false ∨ (mKd 176 = 2 ∧ mOw 176 = 12) := by decide +kernel
theorem on353_46 : obn 353 46 12 := by unfold obn; decide +kernel
theorem nw353 : nwa 353 48 2 6 := by unfold nwa; decide +kernel
theorem zq12_32 : fld 12 32 = some (12, 11) ∧ ftc 12 11 = 2 := by decide +kernel
theorem zf176_12_11 : (fQ 12 11).2.2 = false ∨ (mKd 176 = 2 ∧ mOw 176 = 12) := by decide +kernel
theorem on354_46 : obn 354 46 12 := by unfold obn; decide +kernel
theorem nw354 : nwa 354 49 2 6 := by unfold nwa; decide +kernel
theorem zq12_35 : fld 12 35 = some (12, 12) ∧ ftc 12 12 = 2 := by decide +kernel
theorem zf176_12_12 : (fQ 12 12).2.2 = false ∨ (mKd 176 = 2 ∧ mOw 176 = 12) := by decide +kernel
theorem on355_46 : obn 355 46 12 := by unfold obn; decide +kernel
theorem nw355 : nwa 355 50 2 60 := by unfold nwa; decide +kernel
theorem zq12_38 : fld 12 38 = some (12, 13) ∧ ftc 12 13 = 2 := by decide +kernel
theorem zf176_12_13 : (fQ 12 13).2.2 = false ∨ (mKd 176 = 2 ∧ mOw 176 = 12) := by decide +kernel
theorem on356_46 : obn 356 46 12 := by unfold obn; decide +kernel
theorem nw356 : nwa 356 51 2 60 := by unfold nwa; decide +kernel
theorem zq12_41 : fld 12 41 = some (12, 14) ∧ ftc 12 14 = 2 := by decide +kernel
theorem zf176_12_14 : (fQ 12 14).2.2 = false ∨ (mKd 176 = 2 ∧ mOw 176 = 12) := by decide +kernel
theorem on357_46 : obn 357 46 12 := by unfold obn; decide +kernel
theorem nw357 : nwa 357 52 2 60 := by unfold nwa; decide +kernel
theorem zq12_44 : fld 12 44 = some (12, 15) ∧ ftc 12 15 = 2 := by decide +kernel
theorem zf176_12_15 : (fQ 12 15).2.2 = false ∨ (mKd 176 = 2 ∧ mOw 176 = 12) := by decide +kernel
theorem on358_46 : obn 358 46 12 := by unfold obn; decide +kernel
theorem nw358 : nwa 358 53 2 60 := by unfold nwa; decide +kernel
theorem zq12_47 : fld 12 47 = some (12, 16) ∧ ftc 12 16 = 2 := by decide +kernel
theorem zf176_12_16 : (fQ 12 16).2.2 = false ∨ (mKd 176 = 2 ∧ mOw 176 = 12) := by decide +kernel
theorem on359_46 : obn 359 46 12 := by unfold obn; decide +kernel
theorem nw359 : nwa 359 54 2 60 := by unfold nwa; decide +kernel
theorem zq12_50 : fld 12 50 = some (12, 17) ∧ ftc 12 17 = 2 := by decide +kernel
theorem zf176_12_17 : (fQ 12 17).2.2 = false ∨ (mKd 176 = 2 ∧ mOw 176 = 12) := by decide +kernel
theorem on360_46 : obn 360 46 12 := by unfold obn; decide +kernel
theorem nw360 : nwa 360 55 2 60 := by unfold nwa; decide +kernel
theorem zq12_53 : fld 12 53 = some (12, 18) ∧ ftc 12 18 = 2 := by decide +kernel
theorem zf176_12_18 : (fQ 12 18).2.2 = false ∨ (mKd 176 = 2 ∧ mOw 176 = 12) := by decide +kernel
theorem on361_46 : obn 361 46 12 := by unfold obn; decide +kernel
theorem nw361 : nwa 361 56 2 60 := by unfold nwa; decide +kernel
theorem zq12_56 : fld 12 56 = some (12, 19) ∧ ftc 12 19 = 2 := by decide +kernel
theorem zf176_12_19 : (fQ 12 19).2.2 = false ∨ (mKd 176 = 2 ∧ mOw 176 = 12) := by decide +kernel
theorem on362_46 : obn 362 46 12 := by unfold obn; decide +kernel
theorem nw362 : nwa 362 57 2 6 := by unfold nwa; decide +kernel
theorem zq12_59 : fld 12 59 = some (12, 20) ∧ ftc 12 20 = 2 := by decide +kernel
theorem zf176_12_20 : (fQ 12 20).2.2 = false ∨ (mKd 176 = 2 ∧ mOw 176 = 12) := by decide +kernel
theorem on363_46 : obn 363 46 12 := by unfold obn; decide +kernel
theorem nw363 : nwa 363 58 2 6 := by unfold nwa; decide +kernel
theorem zq12_62 : fld 12 62 = some (12, 21) ∧ ftc 12 21 = 2 := by decide +kernel
theorem zf176_12_21 : (fQ 12 21).2.2 = false ∨ (mKd 176 = 2 ∧ mOw 176 = 12) := by decide +kernel
theorem on364_46 : obn 364 46 12 := by unfold obn; decide +kernel
theorem nw364 : nwa 364 59 2 6 := by unfold nwa; decide +kernel
theorem zq12_65 : fld 12 65 = some (12, 22) ∧ ftc 12 22 = 2 := by decide +kernel
theorem zf176_12_22 : (fQ 12 22).2.2 = false ∨ (mKd 176 = 2 ∧ mOw 176 = 12) := by decide +kernel
theorem on365_46 : obn 365 46 12 := by unfold obn; decide +kernel
theorem nw365 : nwa 365 60 2 60 := by unfold nwa; decide +kernel
theorem zq12_68 : fld 12 68 = some (12, 26) ∧ ftc 12 26 = 2 := by decide +kernel
theorem zf176_12_26 : (fQ 12 26).2.2 = false ∨ (mKd 176 = 2 ∧ mOw 176 = 12) := by decide +kernel
theorem on366_46 : obn 366 46 12 := by unfold obn; decide +kernel
theorem nw366 : nwa 366 61 2 60 := by unfold nwa; decide +kernel
theorem zq12_71 : fld 12 71 = some (12, 27) ∧ ftc 12 27 = 2 := by decide +kernel
theorem zf176_12_27 : (fQ 12 27).2.2 = false ∨ (mKd 176 = 2 ∧ mOw 176 = 12) := by decide +kernel
theorem on367_46 : obn 367 46 12 := by unfold obn; decide +kernel
theorem nw367 : nwa 367 62 2 60 := by unfold nwa; decide +kernel
theorem zq12_74 : fld 12 74 = some (12, 28) ∧ ftc 12 28 = 2 := by decide +kernel
theorem zf176_12_28 : (fQ 12 28).2.2 = false ∨ (mKd 176 = 2 ∧ mOw 176 = 12) := by decide +kernel
theorem on368_46 : obn 368 46 12 := by unfold obn; decide +kernel
theorem nw368 : nwa 368 63 2 60 := by unfold nwa; decide +kernel
theorem zq12_77 : fld 12 77 = some (12, 29) ∧ ftc 12 29 = 2 := by decide +kernel
theorem zf176_12_29 : (fQ 12 29).2.2 = false ∨ (mKd 176 = 2 ∧ mOw 176 = 12) := by decide +kernel
theorem on369_46 : obn 369 46 12 := by unfold obn; decide +kernel
theorem nw369 : nwa 369 64 2 30 := by unfold nwa; decide +kernel
theorem zq12_80 : fld 12 80 = some (12, 36) ∧ ftc 12 36 = 2 := by decide +kernel
theorem zf176_12_36 : (fQ 12 36).2.2 = false ∨ (mKd 176 = 2 ∧ mOw 176 = 12) := by decide +kernel
theorem on370_46 : obn 370 46 12 := by unfold obn; decide +kernel
theorem nw370 : nwa 370 65 2 30 := by unfold nwa; decide +kernel
theorem zq12_83 : fld 12 83 = some (12, 37) ∧ ftc 12 37 = 2 := by decide +kernel
theorem zf176_12_37 : (fQ 12 37).2.2 = false ∨ (mKd 176 = 2 ∧ mOw 176 = 12) := by decide +kernel
theorem on371_46 : obn 371 46 12 := by unfold obn; decide +kernel
theorem nw371 : nwa 371 66 2 30 := by unfold nwa; decide +kernel
theorem zq12_86 : fld 12 86 = some (12, 38) ∧ ftc 12 38 = 2 := by decide +kernel
theorem zf176_12_38 : (fQ 12 38).2.2 = false ∨ (mKd 176 = 2 ∧ mOw 176 = 12) := by decide +kernel
theorem on372_46 : obn 372 46 12 := by unfold obn; decide +kernel
theorem nw372 : nwa 372 67 2 60 := by unfold nwa; decide +kernel
theorem zq12_89 : fld 12 89 = some (12, 39) ∧ ftc 12 39 = 2 := by decide +kernel
theorem zf176_12_39 : (fQ 12 39).2.2 = false ∨ (mKd 176 = 2 ∧ mOw 176 = 12) := by decide +kernel
theorem on373_46 : obn 373 46 12 := by unfold obn; decide +kernel
theorem nw373 : nwa 373 68 3 6 := by unfold nwa; decide +kernel
theorem zq12_92 : fld 12 92 = some (12, 41) ∧ ftc 12 41 = 2 := by decide +kernel
theorem zf176_12_41 : (fQ 12 41).2.2 = false ∨ (mKd 176 = 2 ∧ mOw 176 = 12) := by decide +kernel
theorem on374_46 : obn 374 46 12 := by unfold obn; decide +kernel
theorem nw374 : nwa 374 69 2 30 := by unfold nwa; decide +kernel
theorem zq12_96 : fld 12 96 = some (12, 45) ∧ ftc 12 45 = 2 := by decide +kernel
theorem zf176_12_45 : (fQ 12 45).2.2 = false ∨ (mKd 176 = 2 ∧ mOw 176 = 12) := by decide +kernel
theorem on375_46 : obn 375 46 12 := by unfold obn; decide +kernel
theorem nw375 : nwa 375 70 2 30 := by unfold nwa; decide +kernel
theorem zq12_99 : fld 12 99 = some (12, 46) ∧ ftc 12 46 = 2 := by decide +kernel
theorem zf176_12_46 : (fQ 12 46).2.2 = false ∨ (mKd 176 = 2 ∧ mOw 176 = 12) := by decide +kernel
theorem on376_46 : obn 376 46 12 := by unfold obn; decide +kernel
theorem nw376 : nwa 376 71 2 900 := by unfold nwa; decide +kernel
theorem zq12_102 : fld 12 102 = some (12, 47) ∧ ftc 12 47 = 2 := by decide +kernel
theorem zf176_12_47 : (fQ 12 47).2.2 = false ∨ (mKd 176 = 2 ∧ mOw 176 = 12) := by decide +kernel
theorem on377_46 : obn 377 46 12 := by unfold obn; decide +kernel
theorem nw377 : nwa 377 72 2 900 := by unfold nwa; decide +kernel
theorem zq12_105 : fld 12 105 = some (12, 48) ∧ ftc 12 48 = 2 := by decide +kernel
theorem zf176_12_48 : (fQ 12 48).2.2 = false ∨ (mKd 176 = 2 ∧ mOw 176 = 12) := by decide +kernel
theorem on378_46 : obn 378 46 12 := by unfold obn; decide +kernel
theorem zr176 : mRt 176 = none := by decide +kernel
theorem zo309 : mOw 309 = 13 := by decide +kernel
theorem zl13_7 : clk 13 7 = some 11 := by decide +kernel
theorem nw0 : nwo 0 1 11 := by unfold nwo; decide +kernel
theorem zc13_9 : cal 13 9 = some 117 := by decide +kernel
theorem zm117 : mKd 117 = 2 ∧ mNp 117 = 0 ∧ mMx 117 = 1 := by decide +kernel
theorem zb13_9 : objE 13 9 = none := by decide +kernel
theorem zl13_10 : clk 13 10 = some 12 := by decide +kernel
theorem nw351 : nwo 351 46 12 := by unfold nwo; decide +kernel
theorem zc13_12 : cal 13 12 = some 176 := by decide +kernel
theorem zm176 : mKd 176 = 2 ∧ mNp 176 = 0 ∧ mMx 176 = 1 := by decide +kernel
theorem zb13_12 : objE 13 12 = none := by decide +kernel
set_option maxRecDepth 40000 in
theorem D0 : dOK 0 [(0, .aload_n 0, 1), (1, .invokespecial 3, 3), (4, .return_, 1)] = true := by decide +kernel
theorem K0_0 {d : Nat} {σ : Mm} (a : Nat) : den (d + 1) 0 [.ref a] σ = some (none, σ) := by
  refine (show den (d + 1) 0 [.ref a] σ = ev (d + 1) 0 0 [.ref a] [] σ from rfl).trans ?_
  refine (r_aln (dk D0 0 rfl) rfl).trans ?_
  refine (r_obj (dk D0 1 rfl) zo0 zj0_3 (Nat.le_of_ble_eq_true rfl)).trans ?_
  exact r_rev (dk D0 2 rfl) zr0
theorem g_vec {d y pc : Nat} {L st : List Value} {σ : Mm} {own x b : Nat} (hd : decode (mCode y) pc = .ok (.invokespecial x, 3)) (ho : mOw y = own) (hob : objE own x = none) (hc : cal own x = some 0) (h8 : ctS st ≤ 8) : ev (d + 2) y pc L (.ref b :: st) σ = ev (d + 2) y (pc + 3) L st σ := by
  refine (g_ci (d := d + 1) (as := []) (rest := st) hd ho hob hc zm0 (Nat.zero_le _) rfl rfl h8 (Nat.le_of_ble_eq_true rfl)).trans ?_
  rw [K0_0]
  rfl
set_option maxRecDepth 40000 in
theorem D9 : dOK 9 [(0, .aload_n 0, 1), (1, .invokespecial 1, 3), (4, .aload_n 0, 1), (5, .iload_n 1, 1), (6, .putfield 7, 3), (9, .aload_n 0, 1), (10, .new 13, 3), (13, .dup, 1), (14, .invokespecial 15, 3), (17, .putfield 16, 3), (20, .return_, 1)] = true := by decide +kernel
theorem K9_0 {d sl : Nat} {R : Nat → Nat → Option Nat} {I : Nat → Nat → Int32} {J : Nat → Nat → Int64} {n a b : Nat} (x : Int32) (ha : obn n a 1) (hb : nwo n b 0) : den (d + 2) 9 [.ref a, .int x] (G sl R n I J) = some (none, (G sl (up2 (zr2 R b none) a 1 (some b)) (n + 1) (zr2 (up2 I a 0 x) b 0) (zr2 J b 0))) := by
  refine (show den (d + 2) 9 [.ref a, .int x] (G sl R n I J) = ev (d + 2) 9 0 [.ref a, .int x] [] (G sl R n I J) from rfl).trans ?_
  refine (r_aln (dk D9 0 rfl) rfl).trans ?_
  refine (r_obj (dk D9 1 rfl) zo9 zj1_1 (Nat.le_of_ble_eq_true rfl)).trans ?_
  refine (r_aln (dk D9 2 rfl) rfl).trans ?_
  refine (r_iln (dk D9 3 rfl) rfl).trans ?_
  refine (g_putI (dk D9 4 rfl) zo9 zq1_7 zf9_1_0 ha).trans ?_
  refine (r_aln (dk D9 5 rfl) rfl).trans ?_
  refine (g_new (dk D9 6 rfl) zo9 zl1_13 hb).trans ?_
  refine (r_dup (dk D9 7 rfl) rfl).trans ?_
  refine (g_vec (dk D9 8 rfl) zo9 zb1_15 zc1_15 (Nat.le_of_ble_eq_true rfl)).trans ?_
  refine (g_putR (dk D9 9 rfl) zo9 zq1_16 zf9_1_1 (obn_s ha)).trans ?_
  exact r_rev (dk D9 10 rfl) zr9
set_option maxRecDepth 40000 in
theorem D15 : dOK 15 [(0, .aload_n 0, 1), (1, .invokespecial 3, 3), (4, .aload_n 0, 1), (5, .new 9, 3), (8, .dup, 1), (9, .invokespecial 11, 3), (12, .putfield 12, 3), (15, .return_, 1)] = true := by decide +kernel
theorem K15_0 {d sl : Nat} {R : Nat → Nat → Option Nat} {I : Nat → Nat → Int32} {J : Nat → Nat → Int64} {n a b : Nat} (ha : obn n a 3) (hb : nwo n b 0) : den (d + 2) 15 [.ref a] (G sl R n I J) = some (none, (G sl (up2 (zr2 R b none) a 0 (some b)) (n + 1) (zr2 I b 0) (zr2 J b 0))) := by
  refine (show den (d + 2) 15 [.ref a] (G sl R n I J) = ev (d + 2) 15 0 [.ref a] [] (G sl R n I J) from rfl).trans ?_
  refine (r_aln (dk D15 0 rfl) rfl).trans ?_
  refine (r_obj (dk D15 1 rfl) zo15 zj3_3 (Nat.le_of_ble_eq_true rfl)).trans ?_
  refine (r_aln (dk D15 2 rfl) rfl).trans ?_
  refine (g_new (dk D15 3 rfl) zo15 zl3_9 hb).trans ?_
  refine (r_dup (dk D15 4 rfl) rfl).trans ?_
  refine (g_vec (dk D15 5 rfl) zo15 zb3_11 zc3_11 (Nat.le_of_ble_eq_true rfl)).trans ?_
  refine (g_putR (dk D15 6 rfl) zo15 zq3_12 zf15_3_0 (obn_s ha)).trans ?_
  exact r_rev (dk D15 7 rfl) zr15
set_option maxRecDepth 40000 in
theorem D12 : dOK 12 [(0, .aload_n 0, 1), (1, .invokespecial 1, 3), (4, .aload_n 0, 1), (5, .new 7, 3), (8, .dup, 1), (9, .invokespecial 9, 3), (12, .putfield 10, 3), (15, .aload_n 0, 1), (16, .new 16, 3), (19, .dup, 1), (20, .invokespecial 18, 3), (23, .putfield 19, 3), (26, .aload_n 0, 1), (27, .new 16, 3), (30, .dup, 1), (31, .invokespecial 18, 3), (34, .putfield 23, 3), (37, .return_, 1)] = true := by decide +kernel
theorem K12_0 {d sl : Nat} {R : Nat → Nat → Option Nat} {I : Nat → Nat → Int32} {J : Nat → Nat → Int64} {n a b : Nat} (ha : obn n a 2) (hb : nwo n b 3) : den (d + 3) 12 [.ref a] (G sl R n I J) = evK (d + 3) 12 12 [.ref a] [.ref b, .ref a] (den (d + 2) 15 [.ref b] (G sl (zr2 R b none) (n + 1) (zr2 I b 0) (zr2 J b 0))) := by
  refine (show den (d + 3) 12 [.ref a] (G sl R n I J) = ev (d + 3) 12 0 [.ref a] [] (G sl R n I J) from rfl).trans ?_
  refine (r_aln (dk D12 0 rfl) rfl).trans ?_
  refine (r_obj (dk D12 1 rfl) zo12 zj2_1 (Nat.le_of_ble_eq_true rfl)).trans ?_
  refine (r_aln (dk D12 2 rfl) rfl).trans ?_
  refine (g_new (dk D12 3 rfl) zo12 zl2_7 hb).trans ?_
  refine (r_dup (dk D12 4 rfl) rfl).trans ?_
  exact g_ci (dk D12 5 rfl) zo12 zb2_9 zc2_9 zm15 (Nat.le_of_ble_eq_true rfl) rfl rfl (Nat.le_of_ble_eq_true rfl) (Nat.le_of_ble_eq_true rfl)
theorem K12_12 {d sl : Nat} {R : Nat → Nat → Option Nat} {I : Nat → Nat → Int32} {J : Nat → Nat → Int64} {n a g b c : Nat} (ha : obn n a 2) (hb : nwo n b 0) (hc : nwo (n + 1) c 0) : ev (d + 3) 12 12 [.ref a] [.ref g, .ref a] (G sl R n I J) = some (none, (G sl (up2 (zr2 (up2 (zr2 (up2 R a 0 (some g)) b none) a 1 (some b)) c none) a 2 (some c)) (n + 2) (zr2 (zr2 I b 0) c 0) (zr2 (zr2 J b 0) c 0))) := by
  refine (g_putR (dk D12 6 rfl) zo12 zq2_10 zf12_2_0 ha).trans ?_
  refine (r_aln (dk D12 7 rfl) rfl).trans ?_
  refine (g_new (dk D12 8 rfl) zo12 zl2_16 hb).trans ?_
  refine (r_dup (dk D12 9 rfl) rfl).trans ?_
  refine (g_vec (dk D12 10 rfl) zo12 zb2_18 zc2_18 (Nat.le_of_ble_eq_true rfl)).trans ?_
  refine (g_putR (dk D12 11 rfl) zo12 zq2_19 zf12_2_1 (obn_s ha)).trans ?_
  refine (r_aln (dk D12 12 rfl) rfl).trans ?_
  refine (g_new (dk D12 13 rfl) zo12 zl2_16 hc).trans ?_
  refine (r_dup (dk D12 14 rfl) rfl).trans ?_
  refine (g_vec (dk D12 15 rfl) zo12 zb2_18 zc2_18 (Nat.le_of_ble_eq_true rfl)).trans ?_
  refine (g_putR (dk D12 16 rfl) zo12 zq2_23 zf12_2_2 (obn_s (obn_s ha))).trans ?_
  exact r_rev (dk D12 17 rfl) zr12
set_option maxRecDepth 40000 in
theorem D21 : dOK 21 [(0, .aload_n 0, 1), (1, .invokespecial 3, 3), (4, .aload_n 0, 1), (5, .aload_n 1, 1), (6, .putfield 9, 3), (9, .aload_n 0, 1), (10, .aload_n 2, 1), (11, .putfield 15, 3), (14, .aload_n 0, 1), (15, .aload_n 3, 1), (16, .putfield 19, 3), (19, .aload_n 0, 1), (20, .new 23, 3), (23, .dup, 1), (24, .invokespecial 25, 3), (27, .putfield 26, 3), (30, .aload_n 0, 1), (31, .new 23, 3), (34, .dup, 1), (35, .invokespecial 25, 3), (38, .putfield 30, 3), (41, .aload_n 0, 1), (42, .new 23, 3), (45, .dup, 1), (46, .invokespecial 25, 3), (49, .putfield 33, 3), (52, .aload_n 0, 1), (53, .new 23, 3), (56, .dup, 1), (57, .invokespecial 25, 3), (60, .putfield 36, 3), (63, .aload_n 0, 1), (64, .new 39, 3), (67, .dup, 1), (68, .invokespecial 41, 3), (71, .putfield 42, 3), (74, .return_, 1)] = true := by decide +kernel
theorem K21_0 {d sl : Nat} {R : Nat → Nat → Option Nat} {I : Nat → Nat → Int32} {J : Nat → Nat → Int64}  : den (d + 4) 21 [.ref 38, .ref 4, .ref 11, .ref 2] (G sl R 344 I J) = evK (d + 4) 21 71 [.ref 38, .ref 4, .ref 11, .ref 2] [.ref 43, .ref 38] (den (d + 3) 15 [.ref 43] (G sl (zr2 (up2 (zr2 (up2 (zr2 (up2 (zr2 (up2 (zr2 (up2 (up2 (up2 R 38 0 (some 4)) 38 1 (some 11)) 38 2 (some 2)) 39 none) 38 3 (some 39)) 40 none) 38 4 (some 40)) 41 none) 38 5 (some 41)) 42 none) 38 6 (some 42)) 43 none) 349 (zr2 (zr2 (zr2 (zr2 (zr2 I 39 0) 40 0) 41 0) 42 0) 43 0) (zr2 (zr2 (zr2 (zr2 (zr2 J 39 0) 40 0) 41 0) 42 0) 43 0))) := by
  refine (show den (d + 4) 21 [.ref 38, .ref 4, .ref 11, .ref 2] (G sl R 344 I J) = ev (d + 4) 21 0 [.ref 38, .ref 4, .ref 11, .ref 2] [] (G sl R 344 I J) from rfl).trans ?_
  refine (r_aln (dk D21 0 rfl) rfl).trans ?_
  refine (r_obj (dk D21 1 rfl) zo21 zj4_3 (Nat.le_of_ble_eq_true rfl)).trans ?_
  refine (r_aln (dk D21 2 rfl) rfl).trans ?_
  refine (r_aln (dk D21 3 rfl) rfl).trans ?_
  refine (g_putR (dk D21 4 rfl) zo21 zq4_9 zf21_4_0 on344_38).trans ?_
  refine (r_aln (dk D21 5 rfl) rfl).trans ?_
  refine (r_aln (dk D21 6 rfl) rfl).trans ?_
  refine (g_putR (dk D21 7 rfl) zo21 zq4_15 zf21_4_1 on344_38).trans ?_
  refine (r_aln (dk D21 8 rfl) rfl).trans ?_
  refine (r_aln (dk D21 9 rfl) rfl).trans ?_
  refine (g_putR (dk D21 10 rfl) zo21 zq4_19 zf21_4_2 on344_38).trans ?_
  refine (r_aln (dk D21 11 rfl) rfl).trans ?_
  refine (g_new (dk D21 12 rfl) zo21 zl4_23 nw344).trans ?_
  refine (r_dup (dk D21 13 rfl) rfl).trans ?_
  refine (g_vec (dk D21 14 rfl) zo21 zb4_25 zc4_25 (Nat.le_of_ble_eq_true rfl)).trans ?_
  refine (g_putR (dk D21 15 rfl) zo21 zq4_26 zf21_4_3 on345_38).trans ?_
  refine (r_aln (dk D21 16 rfl) rfl).trans ?_
  refine (g_new (dk D21 17 rfl) zo21 zl4_23 nw345).trans ?_
  refine (r_dup (dk D21 18 rfl) rfl).trans ?_
  refine (g_vec (dk D21 19 rfl) zo21 zb4_25 zc4_25 (Nat.le_of_ble_eq_true rfl)).trans ?_
  refine (g_putR (dk D21 20 rfl) zo21 zq4_30 zf21_4_4 on346_38).trans ?_
  refine (r_aln (dk D21 21 rfl) rfl).trans ?_
  refine (g_new (dk D21 22 rfl) zo21 zl4_23 nw346).trans ?_
  refine (r_dup (dk D21 23 rfl) rfl).trans ?_
  refine (g_vec (dk D21 24 rfl) zo21 zb4_25 zc4_25 (Nat.le_of_ble_eq_true rfl)).trans ?_
  refine (g_putR (dk D21 25 rfl) zo21 zq4_33 zf21_4_5 on347_38).trans ?_
  refine (r_aln (dk D21 26 rfl) rfl).trans ?_
  refine (g_new (dk D21 27 rfl) zo21 zl4_23 nw347).trans ?_
  refine (r_dup (dk D21 28 rfl) rfl).trans ?_
  refine (g_vec (dk D21 29 rfl) zo21 zb4_25 zc4_25 (Nat.le_of_ble_eq_true rfl)).trans ?_
  refine (g_putR (dk D21 30 rfl) zo21 zq4_36 zf21_4_6 on348_38).trans ?_
  refine (r_aln (dk D21 31 rfl) rfl).trans ?_
  refine (g_new (dk D21 32 rfl) zo21 zl4_39 nw348).trans ?_
  refine (r_dup (dk D21 33 rfl) rfl).trans ?_
  exact g_ci (dk D21 34 rfl) zo21 zb4_41 zc4_41 zm15 (Nat.le_of_ble_eq_true rfl) rfl rfl (Nat.le_of_ble_eq_true rfl) (Nat.le_of_ble_eq_true rfl)
theorem K21_71 {d sl : Nat} {R : Nat → Nat → Option Nat} {I : Nat → Nat → Int32} {J : Nat → Nat → Int64}  : ev (d + 4) 21 71 [.ref 38, .ref 4, .ref 11, .ref 2] [.ref 43, .ref 38] (G sl R 350 I J) = some (none, (G sl (up2 R 38 7 (some 43)) 350 I J)) := by
  refine (g_putR (dk D21 35 rfl) zo21 zq4_42 zf21_4_7 on350_38).trans ?_
  exact r_rev (dk D21 36 rfl) zr21
set_option maxRecDepth 40000 in
theorem D24 : dOK 24 [(0, .aload_n 0, 1), (1, .invokespecial 3, 3), (4, .aload_n 0, 1), (5, .sipush 630, 3), (8, .newarray .int, 2), (10, .putfield 9, 3), (13, .iconst 0, 1), (14, .istore_n 1, 1), (15, .iload_n 1, 1), (16, .aload_n 0, 1), (17, .getfield 9, 3), (20, .arraylength, 1), (21, .if_icmp .ge 44, 3), (24, .iload_n 1, 1), (25, .sipush 360, 3), (28, .irem, 1), (29, .istore_n 2, 1), (30, .aload_n 0, 1), (31, .getfield 9, 3), (34, .iload_n 1, 1), (35, .iload_n 2, 1), (36, .sipush 180, 3), (39, .if_icmp .gt 10, 3), (42, .iload_n 2, 1), (43, .invokestatic 15, 3), (46, .goto 12, 3), (49, .iload_n 2, 1), (50, .sipush 180, 3), (53, .isub, 1), (54, .invokestatic 15, 3), (57, .ineg, 1), (58, .iastore, 1), (59, .iinc 1 1, 3), (62, .goto (-47), 3), (65, .return_, 1)] = true := by decide +kernel
theorem K24_0 {d sl : Nat} {R : Nat → Nat → Option Nat} {I : Nat → Nat → Int32} {J : Nat → Nat → Int64}  : den (d + 4) 24 [.ref 2] (G sl R 2 I J) = ev (d + 4) 24 15 [.ref 2, .int 0, .retAddr 0] [] (G sl (up2 (zr2 R 3 none) 2 0 (some 3)) 3 (zr2 I 3 0) (zr2 J 3 0)) := by
  refine (show den (d + 4) 24 [.ref 2] (G sl R 2 I J) = ev (d + 4) 24 0 [.ref 2, .retAddr 0, .retAddr 0] [] (G sl R 2 I J) from rfl).trans ?_
  refine (r_aln (dk D24 0 rfl) rfl).trans ?_
  refine (r_obj (dk D24 1 rfl) zo24 zj5_3 (Nat.le_of_ble_eq_true rfl)).trans ?_
  refine (r_aln (dk D24 2 rfl) rfl).trans ?_
  refine (r_sp (dk D24 3 rfl) zcs630).trans ?_
  refine (g_nai (dk D24 4 rfl) nw2 zn630).trans ?_
  refine (g_putR (dk D24 5 rfl) zo24 zq5_9 zf24_5_0 on3_2).trans ?_
  refine (r_ic (dk D24 6 rfl) zci0).trans ?_
  refine (r_isn (L' := [.ref 2, .int 0, .retAddr 0]) (dk D24 7 rfl) (Nat.le_of_ble_eq_true rfl) rfl).trans ?_
  exact rfl
theorem K24_15 {d sl : Nat} {R : Nat → Nat → Option Nat} {I : Nat → Nat → Int32} {J : Nat → Nat → Int64} {i : Nat} (u : Value) (hr : R 2 0 = some 3) : ev (d + 4) 24 15 [.ref 2, .int (nI i), u] [] (G sl R 3 I J) = (if (nI i) < (nI 630) then (if ((nI i) - (nI i) / 360 * 360) ≤ 180 then evK (d + 4) 24 46 [.ref 2, .int (nI i), .int ((nI i) - (nI i) / 360 * 360)] [.int (nI i), .ref 3] (den (d + 3) 25 [.int ((nI i) - (nI i) / 360 * 360)] (G sl R 3 I J)) else evK (d + 4) 24 57 [.ref 2, .int (nI i), .int ((nI i) - (nI i) / 360 * 360)] [.int (nI i), .ref 3] (den (d + 3) 25 [.int (((nI i) - (nI i) / 360 * 360) - 180)] (G sl R 3 I J))) else some (none, (G sl R 3 I J))) := by
  refine (r_iln (dk D24 8 rfl) rfl).trans ?_
  refine (r_aln (dk D24 9 rfl) rfl).trans ?_
  refine (g_getR (dk D24 10 rfl) zo24 zq5_9 on3_2 hr).trans ?_
  refine (g_len (dk D24 11 rfl) an3_3 (by decide)).trans ?_
  refine (r_ge (dk D24 12 rfl) rfl).trans (ite2 ?_ ?_)
  · refine (r_iln (dk D24 13 rfl) rfl).trans ?_
    refine (r_sp (dk D24 14 rfl) zcs360).trans ?_
    refine (r_irem (dk D24 15 rfl) (by decide)).trans ?_
    refine (r_isn (L' := [.ref 2, .int (nI i), .int ((nI i) - (nI i) / 360 * 360)]) (dk D24 16 rfl) (Nat.le_of_ble_eq_true rfl) rfl).trans ?_
    refine (r_aln (dk D24 17 rfl) rfl).trans ?_
    refine (g_getR (dk D24 18 rfl) zo24 zq5_9 on3_2 hr).trans ?_
    refine (r_iln (dk D24 19 rfl) rfl).trans ?_
    refine (r_iln (dk D24 20 rfl) rfl).trans ?_
    refine (r_sp (dk D24 21 rfl) zcs180).trans ?_
    refine (r_gt (dk D24 22 rfl) rfl).trans (ite2 ?_ ?_)
    · refine (r_iln (dk D24 23 rfl) rfl).trans ?_
      exact r_cs (dk D24 24 rfl) zo24 zp5_15 zc5_15 zm25 (Nat.le_of_ble_eq_true rfl) rfl rfl (Nat.le_of_ble_eq_true rfl) (Nat.le_of_ble_eq_true rfl)
    · refine (r_iln (dk D24 26 rfl) rfl).trans ?_
      refine (r_sp (dk D24 27 rfl) zcs180).trans ?_
      refine (r_isub (dk D24 28 rfl)).trans ?_
      exact r_cs (dk D24 29 rfl) zo24 zp5_15 zc5_15 zm25 (Nat.le_of_ble_eq_true rfl) rfl rfl (Nat.le_of_ble_eq_true rfl) (Nat.le_of_ble_eq_true rfl)
  · exact r_rev (dk D24 34 rfl) zr24
theorem K24_46 {d sl : Nat} {R : Nat → Nat → Option Nat} {I : Nat → Nat → Int32} {J : Nat → Nat → Int64} {i : Nat} (x v : Int32) (hi : i < 630) : ev (d + 4) 24 46 [.ref 2, .int (nI i), .int x] [.int v, .int (nI i), .ref 3] (G sl R 3 I J) = ev (d + 4) 24 15 [.ref 2, .int ((nI i) + 1), .int x] [] (G sl R 3 (up2 I 3 i v) J) := by
  refine (r_goto (L' := [.ref 2, .int (nI i), .int x]) (dk D24 25 rfl) rfl znd24_58 rfl).trans ?_
  refine (g_ist (dk D24 31 rfl) an3_3 hi (by decide)).trans ?_
  refine (r_inc (L' := [.ref 2, .int ((nI i) + 1), .int x]) (dk D24 32 rfl) rfl rfl zci1 (Nat.le_of_ble_eq_true rfl) rfl).trans ?_
  refine (r_goto (L' := [.ref 2, .int ((nI i) + 1), .int x]) (dk D24 33 rfl) rfl znd24_15 rfl).trans ?_
  exact rfl
theorem K24_57 {d sl : Nat} {R : Nat → Nat → Option Nat} {I : Nat → Nat → Int32} {J : Nat → Nat → Int64} {i : Nat} (x v : Int32) (hi : i < 630) : ev (d + 4) 24 57 [.ref 2, .int (nI i), .int x] [.int v, .int (nI i), .ref 3] (G sl R 3 I J) = ev (d + 4) 24 15 [.ref 2, .int ((nI i) + 1), .int x] [] (G sl R 3 (up2 I 3 i (-v)) J) := by
  refine (r_ineg (dk D24 30 rfl)).trans ?_
  refine (g_ist (dk D24 31 rfl) an3_3 hi (by decide)).trans ?_
  refine (r_inc (L' := [.ref 2, .int ((nI i) + 1), .int x]) (dk D24 32 rfl) rfl rfl zci1 (Nat.le_of_ble_eq_true rfl) rfl).trans ?_
  refine (r_goto (L' := [.ref 2, .int ((nI i) + 1), .int x]) (dk D24 33 rfl) rfl znd24_15 rfl).trans ?_
  exact rfl
theorem K25_0 {d : Nat} {σ : Mm} (a0 : Int32)  : den (d + 1) 25 [.int a0] σ = evK (d + 1) 25 22 [.int a0, .int (a0 * (180 - a0))] [] (den d 170 [.long (4000 * (Int32.toInt64 (a0 * (180 - a0)))), .long (Int32.toInt64 (40500 - (a0 * (180 - a0))))] σ) := by
  refine (show den (d + 1) 25 [.int a0] σ = ev (d + 1) 25 0 [.int a0, .retAddr 0] [] σ from rfl).trans ?_
  refine (r_iln (dk D25 0 rfl) rfl).trans ?_
  refine (r_sp (dk D25 1 rfl) cs180).trans ?_
  refine (r_iln (dk D25 2 rfl) rfl).trans ?_
  refine (r_isub (dk D25 3 rfl)).trans ?_
  refine (r_imul (dk D25 4 rfl)).trans ?_
  refine (r_isn (L' := [.int a0, .int (a0 * (180 - a0))]) (dk D25 5 rfl) (Nat.le_of_ble_eq_true rfl) rfl).trans ?_
  refine (r_ld2 (dk D25 6 rfl) ow25 kk5_19).trans ?_
  refine (r_iln (dk D25 7 rfl) rfl).trans ?_
  refine (r_i2l (dk D25 8 rfl)).trans ?_
  refine (r_lmul (dk D25 9 rfl)).trans ?_
  refine (r_ldc (dk D25 10 rfl) ow25 k5_21).trans ?_
  refine (r_iln (dk D25 11 rfl) rfl).trans ?_
  refine (r_isub (dk D25 12 rfl)).trans ?_
  refine (r_i2l (dk D25 13 rfl)).trans ?_
  exact r_cs (dk D25 14 rfl) ow25 pn5_22 c5_22 mf170 (Nat.le_of_ble_eq_true rfl) rfl rfl (Nat.le_of_ble_eq_true rfl) (Nat.le_of_ble_eq_true rfl)
theorem K25_22 {d : Nat} {σ : Mm} (l0 : Int32) (l1 : Int32) (s0 : Int64)  : ev d 25 22 [.int l0, .int l1] [.long s0] σ = some (some (.int (Int64.toInt32 s0)), σ) := by
  refine (r_l2i (dk D25 15 rfl)).trans ?_
  exact r_ret (dk D25 16 rfl) rt25
theorem K170_0 {d : Nat} {σ : Mm} (a0 : Int64) (a1 : Int64)  : den d 170 [.long a0, .long a1] σ = (if a1 = 0 then some (some (.long 0), σ) else ck (!decide (a1 = 0)) (some (some (.long (a0 / a1)), σ))) := by
  refine (show den d 170 [.long a0, .long a1] σ = ev d 170 0 [.long a0, .retAddr 0, .long a1, .retAddr 0] [] σ from rfl).trans ?_
  refine (r_lln (dk D170 0 rfl) rfl).trans ?_
  refine (r_lc (dk D170 1 rfl) cl0).trans ?_
  refine (r_jne (dk D170 2 rfl) (dk D170 3 rfl) rfl).trans (ite2 ?_ ?_)
  · refine (r_lc (dk D170 4 rfl) cl0).trans ?_
    refine (r_goto (L' := [.long a0, .retAddr 0, .long a1, .retAddr 0]) (dk D170 5 rfl) rfl nd170_13 rfl).trans ?_
    exact r_rel (dk D170 9 rfl) rt170
  · refine (r_lln (dk D170 6 rfl) rfl).trans ?_
    refine (r_lln (dk D170 7 rfl) rfl).trans ?_
    refine (r_ldivc (dk D170 8 rfl)).trans (ck3 fun g1 => ?_)
    exact r_rel (dk D170 9 rfl) rt170
set_option maxRecDepth 40000 in
theorem D38 : dOK 38 [(0, .aload_n 0, 1), (1, .invokespecial 3, 3), (4, .aload_n 0, 1), (5, .aload_n 1, 1), (6, .putfield 9, 3), (9, .aload_n 0, 1), (10, .aload_n 2, 1), (11, .putfield 15, 3), (14, .aload_n 0, 1), (15, .aload_n 3, 1), (16, .putfield 19, 3), (19, .aload_n 0, 1), (20, .bipush 60, 2), (22, .newarray .int, 2), (24, .putfield 23, 3), (27, .aload_n 0, 1), (28, .bipush 30, 2), (30, .anewarray 27, 3), (33, .putfield 29, 3), (36, .iconst 0, 1), (37, .istore 4, 2), (39, .iload 4, 2), (41, .bipush 30, 2), (43, .if_icmp .ge 23, 3), (46, .aload_n 0, 1), (47, .getfield 29, 3), (50, .iload 4, 2), (52, .new 27, 3), (55, .dup, 1), (56, .invokespecial 33, 3), (59, .aastore, 1), (60, .iinc 4 1, 3), (63, .goto (-24), 3), (66, .aload_n 0, 1), (67, .new 34, 3), (70, .dup, 1), (71, .invokespecial 36, 3), (74, .putfield 37, 3), (77, .aload_n 0, 1), (78, .iconst (-1), 1), (79, .putfield 41, 3), (82, .return_, 1)] = true := by decide +kernel
theorem K38_0 {d sl : Nat} {R : Nat → Nat → Option Nat} {I : Nat → Nat → Int32} {J : Nat → Nat → Int64}  : den (d + 4) 38 [.ref 22, .ref 4, .ref 11, .ref 2] (G sl R 298 I J) = ev (d + 4) 38 39 [.ref 22, .ref 4, .ref 11, .ref 2, .int 0] [] (G sl (up2 (zr2 (up2 (zr2 (up2 (up2 (up2 R 22 0 (some 4)) 22 1 (some 11)) 22 2 (some 2)) 23 none) 22 3 (some 23)) 24 none) 22 4 (some 24)) 300 (zr2 (zr2 I 23 0) 24 0) (zr2 (zr2 J 23 0) 24 0)) := by
  refine (show den (d + 4) 38 [.ref 22, .ref 4, .ref 11, .ref 2] (G sl R 298 I J) = ev (d + 4) 38 0 [.ref 22, .ref 4, .ref 11, .ref 2, .retAddr 0] [] (G sl R 298 I J) from rfl).trans ?_
  refine (r_aln (dk D38 0 rfl) rfl).trans ?_
  refine (r_obj (dk D38 1 rfl) zo38 zj6_3 (Nat.le_of_ble_eq_true rfl)).trans ?_
  refine (r_aln (dk D38 2 rfl) rfl).trans ?_
  refine (r_aln (dk D38 3 rfl) rfl).trans ?_
  refine (g_putR (dk D38 4 rfl) zo38 zq6_9 zf38_6_0 on298_22).trans ?_
  refine (r_aln (dk D38 5 rfl) rfl).trans ?_
  refine (r_aln (dk D38 6 rfl) rfl).trans ?_
  refine (g_putR (dk D38 7 rfl) zo38 zq6_15 zf38_6_1 on298_22).trans ?_
  refine (r_aln (dk D38 8 rfl) rfl).trans ?_
  refine (r_aln (dk D38 9 rfl) rfl).trans ?_
  refine (g_putR (dk D38 10 rfl) zo38 zq6_19 zf38_6_2 on298_22).trans ?_
  refine (r_aln (dk D38 11 rfl) rfl).trans ?_
  refine (r_bp (dk D38 12 rfl) zcb60).trans ?_
  refine (g_nai (dk D38 13 rfl) nw298 zn60).trans ?_
  refine (g_putR (dk D38 14 rfl) zo38 zq6_23 zf38_6_3 on299_22).trans ?_
  refine (r_aln (dk D38 15 rfl) rfl).trans ?_
  refine (r_bp (dk D38 16 rfl) zcb30).trans ?_
  refine (g_ana (dk D38 17 rfl) zo38 zl6_27 (by decide) nw299 zn30).trans ?_
  refine (g_putR (dk D38 18 rfl) zo38 zq6_29 zf38_6_4 on300_22).trans ?_
  refine (r_ic (dk D38 19 rfl) zci0).trans ?_
  refine (r_is (L' := [.ref 22, .ref 4, .ref 11, .ref 2, .int 0]) (dk D38 20 rfl) (Nat.le_of_ble_eq_true rfl) rfl).trans ?_
  exact rfl
theorem K38_39 {d sl : Nat} {R : Nat → Nat → Option Nat} {I : Nat → Nat → Int32} {J : Nat → Nat → Int64} {n : Nat} (x : Int32) : ev (d + 4) 38 39 [.ref 22, .ref 4, .ref 11, .ref 2, .int x] [] (G sl R n I J) = (if x < 30 then ev (d + 4) 38 46 [.ref 22, .ref 4, .ref 11, .ref 2, .int x] [] (G sl R n I J) else ev (d + 4) 38 66 [.ref 22, .ref 4, .ref 11, .ref 2, .int x] [] (G sl R n I J)) := by
  refine (r_il (dk D38 21 rfl) rfl).trans ?_
  refine (r_bp (dk D38 22 rfl) zcb30).trans ?_
  refine (r_ge (dk D38 23 rfl) rfl).trans (ite2 ?_ ?_)
  · exact rfl
  · exact rfl
theorem K38_46 {d sl : Nat} {R : Nat → Nat → Option Nat} {I : Nat → Nat → Int32} {J : Nat → Nat → Int64} {n i b : Nat} (h0 : obn n 22 6) (ha : arn (n + 1) 24 4 30) (hi : i < 30) (hr : R 22 4 = some 24) (hb : nwo n b 0) : ev (d + 4) 38 46 [.ref 22, .ref 4, .ref 11, .ref 2, .int (nI i)] [] (G sl R n I J) = ev (d + 4) 38 39 [.ref 22, .ref 4, .ref 11, .ref 2, .int ((nI i) + 1)] [] (G sl (up2 (zr2 R b none) 24 i (some b)) (n + 1) (zr2 I b 0) (zr2 J b 0)) := by
  refine (r_aln (dk D38 24 rfl) rfl).trans ?_
  refine (g_getR (dk D38 25 rfl) zo38 zq6_29 h0 hr).trans ?_
  refine (r_il (dk D38 26 rfl) rfl).trans ?_
  refine (g_new (dk D38 27 rfl) zo38 zl6_27 hb).trans ?_
  refine (r_dup (dk D38 28 rfl) rfl).trans ?_
  refine (g_vec (dk D38 29 rfl) zo38 zb6_33 zc6_33 (Nat.le_of_ble_eq_true rfl)).trans ?_
  refine (g_ast (dk D38 30 rfl) ha (by decide) hi (by decide) (nwo_ob hb)).trans ?_
  refine (r_inc (L' := [.ref 22, .ref 4, .ref 11, .ref 2, .int ((nI i) + 1)]) (dk D38 31 rfl) rfl rfl zci1 (Nat.le_of_ble_eq_true rfl) rfl).trans ?_
  refine (r_goto (L' := [.ref 22, .ref 4, .ref 11, .ref 2, .int ((nI i) + 1)]) (dk D38 32 rfl) rfl znd38_39 rfl).trans ?_
  exact rfl
theorem K38_66 {d sl : Nat} {R : Nat → Nat → Option Nat} {I : Nat → Nat → Int32} {J : Nat → Nat → Int64} (x : Int32) : ev (d + 4) 38 66 [.ref 22, .ref 4, .ref 11, .ref 2, .int x] [] (G sl R 330 I J) = evK (d + 4) 38 74 [.ref 22, .ref 4, .ref 11, .ref 2, .int x] [.ref 25, .ref 22] (den (d + 3) 15 [.ref 25] (G sl (zr2 R 25 none) 331 (zr2 I 25 0) (zr2 J 25 0))) := by
  refine (r_aln (dk D38 33 rfl) rfl).trans ?_
  refine (g_new (dk D38 34 rfl) zo38 zl6_34 nw330).trans ?_
  refine (r_dup (dk D38 35 rfl) rfl).trans ?_
  exact g_ci (dk D38 36 rfl) zo38 zb6_36 zc6_36 zm15 (Nat.le_of_ble_eq_true rfl) rfl rfl (Nat.le_of_ble_eq_true rfl) (Nat.le_of_ble_eq_true rfl)
theorem K38_74 {d sl : Nat} {R : Nat → Nat → Option Nat} {I : Nat → Nat → Int32} {J : Nat → Nat → Int64} (x : Int32) : ev (d + 4) 38 74 [.ref 22, .ref 4, .ref 11, .ref 2, .int x] [.ref 25, .ref 22] (G sl R 332 I J) = some (none, (G sl (up2 R 22 5 (some 25)) 332 (up2 I 22 8 (-1)) J)) := by
  refine (g_putR (dk D38 37 rfl) zo38 zq6_37 zf38_6_5 on332_22).trans ?_
  refine (r_aln (dk D38 38 rfl) rfl).trans ?_
  refine (r_ic (dk D38 39 rfl) zcim1).trans ?_
  refine (g_putI (dk D38 40 rfl) zo38 zq6_41 zf38_6_8 on332_22).trans ?_
  exact r_rev (dk D38 41 rfl) zr38
set_option maxRecDepth 40000 in
theorem D46 : dOK 46 [(0, .aload_n 0, 1), (1, .invokespecial 3, 3), (4, .aload_n 0, 1), (5, .aload_n 1, 1), (6, .putfield 9, 3), (9, .aload_n 0, 1), (10, .aload_n 2, 1), (11, .putfield 15, 3), (14, .aload_n 0, 1), (15, .new 19, 3), (18, .dup, 1), (19, .invokespecial 21, 3), (22, .putfield 22, 3), (25, .aload_n 0, 1), (26, .sipush 900, 3), (29, .newarray .int, 2), (31, .putfield 26, 3), (34, .aload_n 0, 1), (35, .sipush 900, 3), (38, .newarray .int, 2), (40, .putfield 30, 3), (43, .aload_n 0, 1), (44, .iconst 0, 1), (45, .putfield 33, 3), (48, .aload_n 0, 1), (49, .bipush 60, 2), (51, .putfield 37, 3), (54, .aload_n 0, 1), (55, .bipush 30, 2), (57, .putfield 40, 3), (60, .aload_n 0, 1), (61, .bipush 20, 2), (63, .putfield 43, 3), (66, .aload_n 0, 1), (67, .iconst (-1), 1), (68, .putfield 46, 3), (71, .return_, 1)] = true := by decide +kernel
theorem K46_0 {d sl : Nat} {R : Nat → Nat → Option Nat} {I : Nat → Nat → Int32} {J : Nat → Nat → Int64}  : den (d + 4) 46 [.ref 34, .ref 11, .ref 2] (G sl R 340 I J) = some (none, (G sl (up2 (zr2 (up2 (zr2 (up2 (zr2 (up2 (up2 R 34 0 (some 11)) 34 1 (some 2)) 35 none) 34 2 (some 35)) 36 none) 34 3 (some 36)) 37 none) 34 4 (some 37)) 343 (up2 (up2 (up2 (up2 (up2 (zr2 (zr2 (zr2 I 35 0) 36 0) 37 0) 34 5 0) 34 6 60) 34 7 30) 34 8 20) 34 9 (-1)) (zr2 (zr2 (zr2 J 35 0) 36 0) 37 0))) := by
  refine (show den (d + 4) 46 [.ref 34, .ref 11, .ref 2] (G sl R 340 I J) = ev (d + 4) 46 0 [.ref 34, .ref 11, .ref 2] [] (G sl R 340 I J) from rfl).trans ?_
  refine (r_aln (dk D46 0 rfl) rfl).trans ?_
  refine (r_obj (dk D46 1 rfl) zo46 zj7_3 (Nat.le_of_ble_eq_true rfl)).trans ?_
  refine (r_aln (dk D46 2 rfl) rfl).trans ?_
  refine (r_aln (dk D46 3 rfl) rfl).trans ?_
  refine (g_putR (dk D46 4 rfl) zo46 zq7_9 zf46_7_0 on340_34).trans ?_
  refine (r_aln (dk D46 5 rfl) rfl).trans ?_
  refine (r_aln (dk D46 6 rfl) rfl).trans ?_
  refine (g_putR (dk D46 7 rfl) zo46 zq7_15 zf46_7_1 on340_34).trans ?_
  refine (r_aln (dk D46 8 rfl) rfl).trans ?_
  refine (g_new (dk D46 9 rfl) zo46 zl7_19 nw340).trans ?_
  refine (r_dup (dk D46 10 rfl) rfl).trans ?_
  refine (g_vec (dk D46 11 rfl) zo46 zb7_21 zc7_21 (Nat.le_of_ble_eq_true rfl)).trans ?_
  refine (g_putR (dk D46 12 rfl) zo46 zq7_22 zf46_7_2 on341_34).trans ?_
  refine (r_aln (dk D46 13 rfl) rfl).trans ?_
  refine (r_sp (dk D46 14 rfl) zcs900).trans ?_
  refine (g_nai (dk D46 15 rfl) nw341 zn900).trans ?_
  refine (g_putR (dk D46 16 rfl) zo46 zq7_26 zf46_7_3 on342_34).trans ?_
  refine (r_aln (dk D46 17 rfl) rfl).trans ?_
  refine (r_sp (dk D46 18 rfl) zcs900).trans ?_
  refine (g_nai (dk D46 19 rfl) nw342 zn900).trans ?_
  refine (g_putR (dk D46 20 rfl) zo46 zq7_30 zf46_7_4 on343_34).trans ?_
  refine (r_aln (dk D46 21 rfl) rfl).trans ?_
  refine (r_ic (dk D46 22 rfl) zci0).trans ?_
  refine (g_putI (dk D46 23 rfl) zo46 zq7_33 zf46_7_5 on343_34).trans ?_
  refine (r_aln (dk D46 24 rfl) rfl).trans ?_
  refine (r_bp (dk D46 25 rfl) zcb60).trans ?_
  refine (g_putI (dk D46 26 rfl) zo46 zq7_37 zf46_7_6 on343_34).trans ?_
  refine (r_aln (dk D46 27 rfl) rfl).trans ?_
  refine (r_bp (dk D46 28 rfl) zcb30).trans ?_
  refine (g_putI (dk D46 29 rfl) zo46 zq7_40 zf46_7_7 on343_34).trans ?_
  refine (r_aln (dk D46 30 rfl) rfl).trans ?_
  refine (r_bp (dk D46 31 rfl) zcb20).trans ?_
  refine (g_putI (dk D46 32 rfl) zo46 zq7_43 zf46_7_8 on343_34).trans ?_
  refine (r_aln (dk D46 33 rfl) rfl).trans ?_
  refine (r_ic (dk D46 34 rfl) zcim1).trans ?_
  refine (g_putI (dk D46 35 rfl) zo46 zq7_46 zf46_7_9 on343_34).trans ?_
  exact r_rev (dk D46 36 rfl) zr46
set_option maxRecDepth 40000 in
theorem D58 : dOK 58 [(0, .aload_n 0, 1), (1, .invokespecial 3, 3), (4, .aload_n 0, 1), (5, .aload_n 1, 1), (6, .putfield 9, 3), (9, .aload_n 0, 1), (10, .bipush 6, 2), (12, .newarray .int, 2), (14, .putfield 15, 3), (17, .aload_n 0, 1), (18, .bipush 6, 2), (20, .newarray .int, 2), (22, .putfield 19, 3), (25, .aload_n 0, 1), (26, .bipush 6, 2), (28, .newarray .int, 2), (30, .putfield 22, 3), (33, .aload_n 0, 1), (34, .bipush 6, 2), (36, .anewarray 25, 3), (39, .putfield 27, 3), (42, .iconst 0, 1), (43, .istore_n 2, 1), (44, .iload_n 2, 1), (45, .bipush 6, 2), (47, .if_icmp .ge 22, 3), (50, .aload_n 0, 1), (51, .getfield 27, 3), (54, .iload_n 2, 1), (55, .new 25, 3), (58, .dup, 1), (59, .invokespecial 31, 3), (62, .aastore, 1), (63, .iinc 2 1, 3), (66, .goto (-22), 3), (69, .aload_n 0, 1), (70, .bipush 60, 2), (72, .anewarray 32, 3), (75, .putfield 34, 3), (78, .iconst 0, 1), (79, .istore_n 2, 1), (80, .iload_n 2, 1), (81, .bipush 60, 2), (83, .if_icmp .ge 23, 3), (86, .aload_n 0, 1), (87, .getfield 34, 3), (90, .iload_n 2, 1), (91, .new 32, 3), (94, .dup, 1), (95, .iload_n 2, 1), (96, .invokespecial 38, 3), (99, .aastore, 1), (100, .iinc 2 1, 3), (103, .goto (-23), 3), (106, .aload_n 0, 1), (107, .sipush 3600, 3), (110, .newarray .int, 2), (112, .putfield 41, 3), (115, .aload_n 0, 1), (116, .iconst 1, 1), (117, .putfield 44, 3), (120, .return_, 1)] = true := by decide +kernel
theorem K58_0 {d sl : Nat} {R : Nat → Nat → Option Nat} {I : Nat → Nat → Int32} {J : Nat → Nat → Int64}  : den (d + 4) 58 [.ref 4, .ref 2] (G sl R 4 I J) = ev (d + 4) 58 44 [.ref 4, .ref 2, .int 0] [] (G sl (up2 (zr2 (up2 (zr2 (up2 (zr2 (up2 (zr2 (up2 R 4 0 (some 2)) 5 none) 4 1 (some 5)) 6 none) 4 2 (some 6)) 7 none) 4 3 (some 7)) 8 none) 4 4 (some 8)) 8 (zr2 (zr2 (zr2 (zr2 I 5 0) 6 0) 7 0) 8 0) (zr2 (zr2 (zr2 (zr2 J 5 0) 6 0) 7 0) 8 0)) := by
  refine (show den (d + 4) 58 [.ref 4, .ref 2] (G sl R 4 I J) = ev (d + 4) 58 0 [.ref 4, .ref 2, .retAddr 0] [] (G sl R 4 I J) from rfl).trans ?_
  refine (r_aln (dk D58 0 rfl) rfl).trans ?_
  refine (r_obj (dk D58 1 rfl) zo58 zj8_3 (Nat.le_of_ble_eq_true rfl)).trans ?_
  refine (r_aln (dk D58 2 rfl) rfl).trans ?_
  refine (r_aln (dk D58 3 rfl) rfl).trans ?_
  refine (g_putR (dk D58 4 rfl) zo58 zq8_9 zf58_8_0 on4_4).trans ?_
  refine (r_aln (dk D58 5 rfl) rfl).trans ?_
  refine (r_bp (dk D58 6 rfl) zcb6).trans ?_
  refine (g_nai (dk D58 7 rfl) nw4 zn6).trans ?_
  refine (g_putR (dk D58 8 rfl) zo58 zq8_15 zf58_8_1 on5_4).trans ?_
  refine (r_aln (dk D58 9 rfl) rfl).trans ?_
  refine (r_bp (dk D58 10 rfl) zcb6).trans ?_
  refine (g_nai (dk D58 11 rfl) nw5 zn6).trans ?_
  refine (g_putR (dk D58 12 rfl) zo58 zq8_19 zf58_8_2 on6_4).trans ?_
  refine (r_aln (dk D58 13 rfl) rfl).trans ?_
  refine (r_bp (dk D58 14 rfl) zcb6).trans ?_
  refine (g_nai (dk D58 15 rfl) nw6 zn6).trans ?_
  refine (g_putR (dk D58 16 rfl) zo58 zq8_22 zf58_8_3 on7_4).trans ?_
  refine (r_aln (dk D58 17 rfl) rfl).trans ?_
  refine (r_bp (dk D58 18 rfl) zcb6).trans ?_
  refine (g_ana (dk D58 19 rfl) zo58 zl8_25 (by decide) nw7 zn6).trans ?_
  refine (g_putR (dk D58 20 rfl) zo58 zq8_27 zf58_8_4 on8_4).trans ?_
  refine (r_ic (dk D58 21 rfl) zci0).trans ?_
  refine (r_isn (L' := [.ref 4, .ref 2, .int 0]) (dk D58 22 rfl) (Nat.le_of_ble_eq_true rfl) rfl).trans ?_
  exact rfl
theorem K58_44 {d sl : Nat} {R : Nat → Nat → Option Nat} {I : Nat → Nat → Int32} {J : Nat → Nat → Int64} {n : Nat} (x : Int32) : ev (d + 4) 58 44 [.ref 4, .ref 2, .int x] [] (G sl R n I J) = (if x < 6 then ev (d + 4) 58 50 [.ref 4, .ref 2, .int x] [] (G sl R n I J) else ev (d + 4) 58 69 [.ref 4, .ref 2, .int x] [] (G sl R n I J)) := by
  refine (r_iln (dk D58 23 rfl) rfl).trans ?_
  refine (r_bp (dk D58 24 rfl) zcb6).trans ?_
  refine (r_ge (dk D58 25 rfl) rfl).trans (ite2 ?_ ?_)
  · exact rfl
  · exact rfl
theorem K58_50 {d sl : Nat} {R : Nat → Nat → Option Nat} {I : Nat → Nat → Int32} {J : Nat → Nat → Int64} {n i b : Nat} (h0 : obn n 4 8) (ha : arn (n + 1) 8 4 6) (hi : i < 6) (hr : R 4 4 = some 8) (hb : nwo n b 0) : ev (d + 4) 58 50 [.ref 4, .ref 2, .int (nI i)] [] (G sl R n I J) = ev (d + 4) 58 44 [.ref 4, .ref 2, .int ((nI i) + 1)] [] (G sl (up2 (zr2 R b none) 8 i (some b)) (n + 1) (zr2 I b 0) (zr2 J b 0)) := by
  refine (r_aln (dk D58 26 rfl) rfl).trans ?_
  refine (g_getR (dk D58 27 rfl) zo58 zq8_27 h0 hr).trans ?_
  refine (r_iln (dk D58 28 rfl) rfl).trans ?_
  refine (g_new (dk D58 29 rfl) zo58 zl8_25 hb).trans ?_
  refine (r_dup (dk D58 30 rfl) rfl).trans ?_
  refine (g_vec (dk D58 31 rfl) zo58 zb8_31 zc8_31 (Nat.le_of_ble_eq_true rfl)).trans ?_
  refine (g_ast (dk D58 32 rfl) ha (by decide) hi (by decide) (nwo_ob hb)).trans ?_
  refine (r_inc (L' := [.ref 4, .ref 2, .int ((nI i) + 1)]) (dk D58 33 rfl) rfl rfl zci1 (Nat.le_of_ble_eq_true rfl) rfl).trans ?_
  refine (r_goto (L' := [.ref 4, .ref 2, .int ((nI i) + 1)]) (dk D58 34 rfl) rfl znd58_44 rfl).trans ?_
  exact rfl
theorem K58_69 {d sl : Nat} {R : Nat → Nat → Option Nat} {I : Nat → Nat → Int32} {J : Nat → Nat → Int64} (x : Int32) : ev (d + 4) 58 69 [.ref 4, .ref 2, .int x] [] (G sl R 14 I J) = ev (d + 4) 58 80 [.ref 4, .ref 2, .int 0] [] (G sl (up2 (zr2 R 9 none) 4 5 (some 9)) 15 (zr2 I 9 0) (zr2 J 9 0)) := by
  refine (r_aln (dk D58 35 rfl) rfl).trans ?_
  refine (r_bp (dk D58 36 rfl) zcb60).trans ?_
  refine (g_ana (dk D58 37 rfl) zo58 zl8_32 (by decide) nw14 zn60).trans ?_
  refine (g_putR (dk D58 38 rfl) zo58 zq8_34 zf58_8_5 on15_4).trans ?_
  refine (r_ic (dk D58 39 rfl) zci0).trans ?_
  refine (r_isn (L' := [.ref 4, .ref 2, .int 0]) (dk D58 40 rfl) (Nat.le_of_ble_eq_true rfl) rfl).trans ?_
  exact rfl
theorem pr_crack {i : Nat} (h : i < 60) : nwo (15 + 2 * i) (200 + i) 1 ∧ nwo (15 + 2 * i + 1) (300 + i) 0 ∧ obn (15 + 2 * i) 4 8 ∧ arn (15 + 2 * i + 2) 9 5 60 := by
  have : ((List.range 60).all fun i => decide ((15 + 2 * i < NT ∧ ADR (15 + 2 * i) = 200 + i ∧ SH (200 + i) = (1, 1)) ∧ (15 + 2 * i + 1 < NT ∧ ADR (15 + 2 * i + 1) = 300 + i ∧ SH (300 + i) = (1, 0)) ∧ (SH 4 = (1, 8) ∧ pos 4 < 15 + 2 * i) ∧ SH 9 = (5, 60) ∧ pos 9 < 15 + 2 * i + 2 ∧ 9 ≠ 0)) = true := by decide +kernel
  have h2 := of_decide_eq_true (List.all_eq_true.mp this i (List.mem_range.mpr h))
  exact h2
theorem K58_86 {d sl : Nat} {R : Nat → Nat → Option Nat} {I : Nat → Nat → Int32} {J : Nat → Nat → Int64} {n i : Nat} (h4 : obn n 4 8) (hr : R 4 5 = some 9) (hn : nwo n (200 + i) 1) : ev (d + 4) 58 86 [.ref 4, .ref 2, .int (nI i)] [] (G sl R n I J) = evK (d + 4) 58 99 [.ref 4, .ref 2, .int (nI i)] [.ref (200 + i), .int (nI i), .ref 9] (den (d + 3) 9 [.ref (200 + i), .int (nI i)] (G sl (zr2 R (200 + i) none) (n + 1) (zr2 I (200 + i) 0) (zr2 J (200 + i) 0))) := by
  refine (r_aln (dk D58 44 rfl) rfl).trans ?_
  refine (g_getR (dk D58 45 rfl) zo58 zq8_34 h4 hr).trans ?_
  refine (r_iln (dk D58 46 rfl) rfl).trans ?_
  refine (g_new (dk D58 47 rfl) zo58 zl8_32 hn).trans ?_
  refine (r_dup (dk D58 48 rfl) rfl).trans ?_
  refine (r_iln (dk D58 49 rfl) rfl).trans ?_
  exact g_ci (dk D58 50 rfl) zo58 zb8_38 zc8_38 zm9 (Nat.le_of_ble_eq_true rfl) rfl rfl (Nat.le_of_ble_eq_true rfl) (Nat.le_of_ble_eq_true rfl)
theorem K58_80 {d sl : Nat} {R : Nat → Nat → Option Nat} {I : Nat → Nat → Int32} {J : Nat → Nat → Int64} {n : Nat} (x : Int32) : ev (d + 4) 58 80 [.ref 4, .ref 2, .int x] [] (G sl R n I J) = (if x < 60 then ev (d + 4) 58 86 [.ref 4, .ref 2, .int x] [] (G sl R n I J) else ev (d + 4) 58 106 [.ref 4, .ref 2, .int x] [] (G sl R n I J)) := by
  refine (r_iln (dk D58 41 rfl) rfl).trans ?_
  refine (r_bp (dk D58 42 rfl) zcb60).trans ?_
  refine (r_ge (dk D58 43 rfl) rfl).trans (ite2 ?_ ?_)
  · exact rfl
  · exact rfl
theorem K58_99 {d sl : Nat} {R : Nat → Nat → Option Nat} {I : Nat → Nat → Int32} {J : Nat → Nat → Int64} {n i : Nat} (hv : obn n (200 + i) 1) (ha : arn n 9 5 60) (hi : i < 60) : ev (d + 4) 58 99 [.ref 4, .ref 2, .int (nI i)] [.ref (200 + i), .int (nI i), .ref 9] (G sl R n I J) = ev (d + 4) 58 80 [.ref 4, .ref 2, .int ((nI i) + 1)] [] (G sl (up2 R 9 i (some (200 + i))) n I J) := by
  refine (g_ast (dk D58 51 rfl) ha (by decide) hi (by decide) hv).trans ?_
  refine (r_inc (L' := [.ref 4, .ref 2, .int ((nI i) + 1)]) (dk D58 52 rfl) rfl rfl zci1 (Nat.le_of_ble_eq_true rfl) rfl).trans ?_
  refine (r_goto (L' := [.ref 4, .ref 2, .int ((nI i) + 1)]) (dk D58 53 rfl) rfl znd58_80 rfl).trans ?_
  exact rfl
theorem K58_106 {d sl : Nat} {R : Nat → Nat → Option Nat} {I : Nat → Nat → Int32} {J : Nat → Nat → Int64} (x : Int32) : ev (d + 4) 58 106 [.ref 4, .ref 2, .int x] [] (G sl R 135 I J) = some (none, (G sl (up2 (zr2 R 10 none) 4 6 (some 10)) 136 (up2 (zr2 I 10 0) 4 9 1) (zr2 J 10 0))) := by
  refine (r_aln (dk D58 54 rfl) rfl).trans ?_
  refine (r_sp (dk D58 55 rfl) zcs3600).trans ?_
  refine (g_nai (dk D58 56 rfl) nw135 zn3600).trans ?_
  refine (g_putR (dk D58 57 rfl) zo58 zq8_41 zf58_8_6 on136_4).trans ?_
  refine (r_aln (dk D58 58 rfl) rfl).trans ?_
  refine (r_ic (dk D58 59 rfl) zci1).trans ?_
  refine (g_putI (dk D58 60 rfl) zo58 zq8_44 zf58_8_9 on136_4).trans ?_
  exact r_rev (dk D58 61 rfl) zr58
set_option maxRecDepth 40000 in
theorem D77 : dOK 77 [(0, .aload_n 0, 1), (1, .invokespecial 3, 3), (4, .aload_n 0, 1), (5, .aload_n 1, 1), (6, .putfield 9, 3), (9, .aload_n 0, 1), (10, .aload_n 2, 1), (11, .putfield 15, 3), (14, .aload_n 0, 1), (15, .new 19, 3), (18, .dup, 1), (19, .invokespecial 21, 3), (22, .putfield 22, 3), (25, .aload_n 0, 1), (26, .bipush 6, 2), (28, .newarray .long, 2), (30, .putfield 26, 3), (33, .aload_n 0, 1), (34, .iconst 2, 1), (35, .newarray .int, 2), (37, .putfield 30, 3), (40, .aload_n 0, 1), (41, .iconst 2, 1), (42, .newarray .int, 2), (44, .putfield 34, 3), (47, .aload_n 0, 1), (48, .iconst 3, 1), (49, .newarray .int, 2), (51, .putfield 37, 3), (54, .aload_n 0, 1), (55, .iconst 3, 1), (56, .newarray .int, 2), (58, .putfield 40, 3), (61, .aload_n 0, 1), (62, .iconst (-1), 1), (63, .putfield 43, 3), (66, .aload_n 0, 1), (67, .iconst (-1), 1), (68, .putfield 47, 3), (71, .aload_n 0, 1), (72, .iconst (-1), 1), (73, .putfield 50, 3), (76, .aload_n 0, 1), (77, .iconst (-1), 1), (78, .putfield 53, 3), (81, .return_, 1)] = true := by decide +kernel
theorem K77_0 {d sl : Nat} {R : Nat → Nat → Option Nat} {I : Nat → Nat → Int32} {J : Nat → Nat → Int64}  : den (d + 4) 77 [.ref 27, .ref 4, .ref 2] (G sl R 333 I J) = some (none, (G sl (up2 (zr2 (up2 (zr2 (up2 (zr2 (up2 (zr2 (up2 (zr2 (up2 (zr2 (up2 (up2 R 27 0 (some 4)) 27 1 (some 2)) 28 none) 27 2 (some 28)) 29 none) 27 3 (some 29)) 30 none) 27 4 (some 30)) 31 none) 27 5 (some 31)) 32 none) 27 6 (some 32)) 33 none) 27 7 (some 33)) 339 (up2 (up2 (up2 (up2 (zr2 (zr2 (zr2 (zr2 (zr2 (zr2 I 28 0) 29 0) 30 0) 31 0) 32 0) 33 0) 27 8 (-1)) 27 9 (-1)) 27 10 (-1)) 27 11 (-1)) (zr2 (zr2 (zr2 (zr2 (zr2 (zr2 J 28 0) 29 0) 30 0) 31 0) 32 0) 33 0))) := by
  refine (show den (d + 4) 77 [.ref 27, .ref 4, .ref 2] (G sl R 333 I J) = ev (d + 4) 77 0 [.ref 27, .ref 4, .ref 2] [] (G sl R 333 I J) from rfl).trans ?_
  refine (r_aln (dk D77 0 rfl) rfl).trans ?_
  refine (r_obj (dk D77 1 rfl) zo77 zj9_3 (Nat.le_of_ble_eq_true rfl)).trans ?_
  refine (r_aln (dk D77 2 rfl) rfl).trans ?_
  refine (r_aln (dk D77 3 rfl) rfl).trans ?_
  refine (g_putR (dk D77 4 rfl) zo77 zq9_9 zf77_9_0 on333_27).trans ?_
  refine (r_aln (dk D77 5 rfl) rfl).trans ?_
  refine (r_aln (dk D77 6 rfl) rfl).trans ?_
  refine (g_putR (dk D77 7 rfl) zo77 zq9_15 zf77_9_1 on333_27).trans ?_
  refine (r_aln (dk D77 8 rfl) rfl).trans ?_
  refine (g_new (dk D77 9 rfl) zo77 zl9_19 nw333).trans ?_
  refine (r_dup (dk D77 10 rfl) rfl).trans ?_
  refine (g_vec (dk D77 11 rfl) zo77 zb9_21 zc9_21 (Nat.le_of_ble_eq_true rfl)).trans ?_
  refine (g_putR (dk D77 12 rfl) zo77 zq9_22 zf77_9_2 on334_27).trans ?_
  refine (r_aln (dk D77 13 rfl) rfl).trans ?_
  refine (r_bp (dk D77 14 rfl) zcb6).trans ?_
  refine (g_naj (dk D77 15 rfl) nw334 zn6).trans ?_
  refine (g_putR (dk D77 16 rfl) zo77 zq9_26 zf77_9_3 on335_27).trans ?_
  refine (r_aln (dk D77 17 rfl) rfl).trans ?_
  refine (r_ic (dk D77 18 rfl) zci2).trans ?_
  refine (g_nai (dk D77 19 rfl) nw335 zn2).trans ?_
  refine (g_putR (dk D77 20 rfl) zo77 zq9_30 zf77_9_4 on336_27).trans ?_
  refine (r_aln (dk D77 21 rfl) rfl).trans ?_
  refine (r_ic (dk D77 22 rfl) zci2).trans ?_
  refine (g_nai (dk D77 23 rfl) nw336 zn2).trans ?_
  refine (g_putR (dk D77 24 rfl) zo77 zq9_34 zf77_9_5 on337_27).trans ?_
  refine (r_aln (dk D77 25 rfl) rfl).trans ?_
  refine (r_ic (dk D77 26 rfl) zci3).trans ?_
  refine (g_nai (dk D77 27 rfl) nw337 zn3).trans ?_
  refine (g_putR (dk D77 28 rfl) zo77 zq9_37 zf77_9_6 on338_27).trans ?_
  refine (r_aln (dk D77 29 rfl) rfl).trans ?_
  refine (r_ic (dk D77 30 rfl) zci3).trans ?_
  refine (g_nai (dk D77 31 rfl) nw338 zn3).trans ?_
  refine (g_putR (dk D77 32 rfl) zo77 zq9_40 zf77_9_7 on339_27).trans ?_
  refine (r_aln (dk D77 33 rfl) rfl).trans ?_
  refine (r_ic (dk D77 34 rfl) zcim1).trans ?_
  refine (g_putI (dk D77 35 rfl) zo77 zq9_43 zf77_9_8 on339_27).trans ?_
  refine (r_aln (dk D77 36 rfl) rfl).trans ?_
  refine (r_ic (dk D77 37 rfl) zcim1).trans ?_
  refine (g_putI (dk D77 38 rfl) zo77 zq9_47 zf77_9_9 on339_27).trans ?_
  refine (r_aln (dk D77 39 rfl) rfl).trans ?_
  refine (r_ic (dk D77 40 rfl) zcim1).trans ?_
  refine (g_putI (dk D77 41 rfl) zo77 zq9_50 zf77_9_10 on339_27).trans ?_
  refine (r_aln (dk D77 42 rfl) rfl).trans ?_
  refine (r_ic (dk D77 43 rfl) zcim1).trans ?_
  refine (g_putI (dk D77 44 rfl) zo77 zq9_53 zf77_9_11 on339_27).trans ?_
  exact r_rev (dk D77 45 rfl) zr77
set_option maxRecDepth 40000 in
theorem D86 : dOK 86 [(0, .aload_n 0, 1), (1, .invokespecial 3, 3), (4, .aload_n 0, 1), (5, .aload_n 1, 1), (6, .putfield 9, 3), (9, .aload_n 0, 1), (10, .aload_n 2, 1), (11, .putfield 15, 3), (14, .aload_n 0, 1), (15, .bipush 60, 2), (17, .newarray .int, 2), (19, .putfield 19, 3), (22, .aload_n 0, 1), (23, .bipush 30, 2), (25, .anewarray 23, 3), (28, .putfield 25, 3), (31, .aload_n 0, 1), (32, .bipush 30, 2), (34, .anewarray 29, 3), (37, .putfield 31, 3), (40, .iconst 0, 1), (41, .istore_n 3, 1), (42, .iload_n 3, 1), (43, .bipush 30, 2), (45, .if_icmp .ge 37, 3), (48, .aload_n 0, 1), (49, .getfield 25, 3), (52, .iload_n 3, 1), (53, .new 23, 3), (56, .dup, 1), (57, .invokespecial 35, 3), (60, .aastore, 1), (61, .aload_n 0, 1), (62, .getfield 31, 3), (65, .iload_n 3, 1), (66, .aload_n 0, 1), (67, .getfield 25, 3), (70, .iload_n 3, 1), (71, .aaload, 1), (72, .getfield 36, 3), (75, .aastore, 1), (76, .iinc 3 1, 3), (79, .goto (-37), 3), (82, .aload_n 0, 1), (83, .bipush 60, 2), (85, .newarray .int, 2), (87, .putfield 40, 3), (90, .aload_n 0, 1), (91, .bipush 60, 2), (93, .newarray .int, 2), (95, .putfield 43, 3), (98, .aload_n 0, 1), (99, .bipush 60, 2), (101, .newarray .int, 2), (103, .putfield 46, 3), (106, .aload_n 0, 1), (107, .bipush 60, 2), (109, .newarray .int, 2), (111, .putfield 49, 3), (114, .aload_n 0, 1), (115, .bipush 60, 2), (117, .newarray .int, 2), (119, .putfield 52, 3), (122, .aload_n 0, 1), (123, .bipush 46, 2), (125, .newarray .int, 2), (127, .putfield 55, 3), (130, .aload_n 0, 1), (131, .bipush 91, 2), (133, .newarray .int, 2), (135, .putfield 58, 3), (138, .aload_n 0, 1), (139, .bipush 10, 2), (141, .putfield 61, 3), (144, .aload_n 0, 1), (145, .iconst 3, 1), (146, .putfield 65, 3), (149, .aload_n 0, 1), (150, .iconst (-1), 1), (151, .putfield 68, 3), (154, .aload_n 0, 1), (155, .iconst (-1), 1), (156, .putfield 71, 3), (159, .return_, 1)] = true := by decide +kernel
theorem K86_0 {d sl : Nat} {R : Nat → Nat → Option Nat} {I : Nat → Nat → Int32} {J : Nat → Nat → Int64}  : den (d + 4) 86 [.ref 11, .ref 4, .ref 2] (G sl R 137 I J) = ev (d + 4) 86 42 [.ref 11, .ref 4, .ref 2, .int 0] [] (G sl (up2 (zr2 (up2 (zr2 (up2 (zr2 (up2 (up2 R 11 0 (some 4)) 11 1 (some 2)) 12 none) 11 2 (some 12)) 13 none) 11 3 (some 13)) 14 none) 11 4 (some 14)) 140 (zr2 (zr2 (zr2 I 12 0) 13 0) 14 0) (zr2 (zr2 (zr2 J 12 0) 13 0) 14 0)) := by
  refine (show den (d + 4) 86 [.ref 11, .ref 4, .ref 2] (G sl R 137 I J) = ev (d + 4) 86 0 [.ref 11, .ref 4, .ref 2, .retAddr 0] [] (G sl R 137 I J) from rfl).trans ?_
  refine (r_aln (dk D86 0 rfl) rfl).trans ?_
  refine (r_obj (dk D86 1 rfl) zo86 zj10_3 (Nat.le_of_ble_eq_true rfl)).trans ?_
  refine (r_aln (dk D86 2 rfl) rfl).trans ?_
  refine (r_aln (dk D86 3 rfl) rfl).trans ?_
  refine (g_putR (dk D86 4 rfl) zo86 zq10_9 zf86_10_0 on137_11).trans ?_
  refine (r_aln (dk D86 5 rfl) rfl).trans ?_
  refine (r_aln (dk D86 6 rfl) rfl).trans ?_
  refine (g_putR (dk D86 7 rfl) zo86 zq10_15 zf86_10_1 on137_11).trans ?_
  refine (r_aln (dk D86 8 rfl) rfl).trans ?_
  refine (r_bp (dk D86 9 rfl) zcb60).trans ?_
  refine (g_nai (dk D86 10 rfl) nw137 zn60).trans ?_
  refine (g_putR (dk D86 11 rfl) zo86 zq10_19 zf86_10_2 on138_11).trans ?_
  refine (r_aln (dk D86 12 rfl) rfl).trans ?_
  refine (r_bp (dk D86 13 rfl) zcb30).trans ?_
  refine (g_ana (dk D86 14 rfl) zo86 zl10_23 (by decide) nw138 zn30).trans ?_
  refine (g_putR (dk D86 15 rfl) zo86 zq10_25 zf86_10_3 on139_11).trans ?_
  refine (r_aln (dk D86 16 rfl) rfl).trans ?_
  refine (r_bp (dk D86 17 rfl) zcb30).trans ?_
  refine (g_ana (dk D86 18 rfl) zo86 zl10_29 (by decide) nw139 zn30).trans ?_
  refine (g_putR (dk D86 19 rfl) zo86 zq10_31 zf86_10_4 on140_11).trans ?_
  refine (r_ic (dk D86 20 rfl) zci0).trans ?_
  refine (r_isn (L' := [.ref 11, .ref 4, .ref 2, .int 0]) (dk D86 21 rfl) (Nat.le_of_ble_eq_true rfl) rfl).trans ?_
  exact rfl
theorem K86_42 {d sl : Nat} {R : Nat → Nat → Option Nat} {I : Nat → Nat → Int32} {J : Nat → Nat → Int64} {n : Nat} (x : Int32) : ev (d + 4) 86 42 [.ref 11, .ref 4, .ref 2, .int x] [] (G sl R n I J) = (if x < 30 then ev (d + 4) 86 48 [.ref 11, .ref 4, .ref 2, .int x] [] (G sl R n I J) else ev (d + 4) 86 82 [.ref 11, .ref 4, .ref 2, .int x] [] (G sl R n I J)) := by
  refine (r_iln (dk D86 22 rfl) rfl).trans ?_
  refine (r_bp (dk D86 23 rfl) zcb30).trans ?_
  refine (r_ge (dk D86 24 rfl) rfl).trans (ite2 ?_ ?_)
  · exact rfl
  · exact rfl
theorem K86_48 {d sl : Nat} {R : Nat → Nat → Option Nat} {I : Nat → Nat → Int32} {J : Nat → Nat → Int64} {n i : Nat} (h0 : obn n 11 10) (hr : R 11 3 = some 13) (hn : nwo n (400 + i) 2) : ev (d + 4) 86 48 [.ref 11, .ref 4, .ref 2, .int (nI i)] [] (G sl R n I J) = evK (d + 4) 86 60 [.ref 11, .ref 4, .ref 2, .int (nI i)] [.ref (400 + i), .int (nI i), .ref 13] (den (d + 3) 12 [.ref (400 + i)] (G sl (zr2 R (400 + i) none) (n + 1) (zr2 I (400 + i) 0) (zr2 J (400 + i) 0))) := by
  refine (r_aln (dk D86 25 rfl) rfl).trans ?_
  refine (g_getR (dk D86 26 rfl) zo86 zq10_25 h0 hr).trans ?_
  refine (r_iln (dk D86 27 rfl) rfl).trans ?_
  refine (g_new (dk D86 28 rfl) zo86 zl10_23 hn).trans ?_
  refine (r_dup (dk D86 29 rfl) rfl).trans ?_
  exact g_ci (dk D86 30 rfl) zo86 zb10_35 zc10_35 zm12 (Nat.le_of_ble_eq_true rfl) rfl rfl (Nat.le_of_ble_eq_true rfl) (Nat.le_of_ble_eq_true rfl)
theorem K86_60 {d sl : Nat} {R : Nat → Nat → Option Nat} {I : Nat → Nat → Int32} {J : Nat → Nat → Int64} {n i : Nat} (h0 : obn n 11 10) (hv : obn n (400 + i) 2) (hv8 : obn n (800 + i) 0) (h3 : arn n 13 6 30) (h4 : arn n 14 4 30) (hi : i < 30) (hr3 : up2 R 13 i (some (400 + i)) 11 3 = some 13) (hr4 : up2 R 13 i (some (400 + i)) 11 4 = some 14) (hr2 : up2 R 13 i (some (400 + i)) (400 + i) 2 = some (800 + i)) : ev (d + 4) 86 60 [.ref 11, .ref 4, .ref 2, .int (nI i)] [.ref (400 + i), .int (nI i), .ref 13] (G sl R n I J) = ev (d + 4) 86 42 [.ref 11, .ref 4, .ref 2, .int ((nI i) + 1)] [] (G sl (up2 (up2 R 13 i (some (400 + i))) 14 i (some (800 + i))) n I J) := by
  refine (g_ast (dk D86 31 rfl) h3 (by decide) hi (by decide) hv).trans ?_
  refine (r_aln (dk D86 32 rfl) rfl).trans ?_
  refine (g_getR (dk D86 33 rfl) zo86 zq10_31 h0 hr4).trans ?_
  refine (r_iln (dk D86 34 rfl) rfl).trans ?_
  refine (r_aln (dk D86 35 rfl) rfl).trans ?_
  refine (g_getR (dk D86 36 rfl) zo86 zq10_25 h0 hr3).trans ?_
  refine (r_iln (dk D86 37 rfl) rfl).trans ?_
  refine (g_ald (dk D86 38 rfl) h3 (by decide) hi (by decide) up_s).trans ?_
  refine (g_getR (dk D86 39 rfl) zo86 zq10_36 hv hr2).trans ?_
  refine (g_ast (dk D86 40 rfl) h4 (by decide) hi (by decide) hv8).trans ?_
  refine (r_inc (L' := [.ref 11, .ref 4, .ref 2, .int ((nI i) + 1)]) (dk D86 41 rfl) rfl rfl zci1 (Nat.le_of_ble_eq_true rfl) rfl).trans ?_
  refine (r_goto (L' := [.ref 11, .ref 4, .ref 2, .int ((nI i) + 1)]) (dk D86 42 rfl) rfl znd86_42 rfl).trans ?_
  exact rfl
theorem K86_82 {d sl : Nat} {R : Nat → Nat → Option Nat} {I : Nat → Nat → Int32} {J : Nat → Nat → Int64} (x : Int32) : ev (d + 4) 86 82 [.ref 11, .ref 4, .ref 2, .int x] [] (G sl R 290 I J) = some (none, (G sl (up2 (zr2 (up2 (zr2 (up2 (zr2 (up2 (zr2 (up2 (zr2 (up2 (zr2 (up2 (zr2 R 15 none) 11 5 (some 15)) 16 none) 11 6 (some 16)) 17 none) 11 7 (some 17)) 18 none) 11 8 (some 18)) 19 none) 11 9 (some 19)) 20 none) 11 10 (some 20)) 21 none) 11 11 (some 21)) 297 (up2 (up2 (up2 (up2 (zr2 (zr2 (zr2 (zr2 (zr2 (zr2 (zr2 I 15 0) 16 0) 17 0) 18 0) 19 0) 20 0) 21 0) 11 12 10) 11 13 3) 11 15 (-1)) 11 16 (-1)) (zr2 (zr2 (zr2 (zr2 (zr2 (zr2 (zr2 J 15 0) 16 0) 17 0) 18 0) 19 0) 20 0) 21 0))) := by
  refine (r_aln (dk D86 43 rfl) rfl).trans ?_
  refine (r_bp (dk D86 44 rfl) zcb60).trans ?_
  refine (g_nai (dk D86 45 rfl) nw290 zn60).trans ?_
  refine (g_putR (dk D86 46 rfl) zo86 zq10_40 zf86_10_5 on291_11).trans ?_
  refine (r_aln (dk D86 47 rfl) rfl).trans ?_
  refine (r_bp (dk D86 48 rfl) zcb60).trans ?_
  refine (g_nai (dk D86 49 rfl) nw291 zn60).trans ?_
  refine (g_putR (dk D86 50 rfl) zo86 zq10_43 zf86_10_6 on292_11).trans ?_
  refine (r_aln (dk D86 51 rfl) rfl).trans ?_
  refine (r_bp (dk D86 52 rfl) zcb60).trans ?_
  refine (g_nai (dk D86 53 rfl) nw292 zn60).trans ?_
  refine (g_putR (dk D86 54 rfl) zo86 zq10_46 zf86_10_7 on293_11).trans ?_
  refine (r_aln (dk D86 55 rfl) rfl).trans ?_
  refine (r_bp (dk D86 56 rfl) zcb60).trans ?_
  refine (g_nai (dk D86 57 rfl) nw293 zn60).trans ?_
  refine (g_putR (dk D86 58 rfl) zo86 zq10_49 zf86_10_8 on294_11).trans ?_
  refine (r_aln (dk D86 59 rfl) rfl).trans ?_
  refine (r_bp (dk D86 60 rfl) zcb60).trans ?_
  refine (g_nai (dk D86 61 rfl) nw294 zn60).trans ?_
  refine (g_putR (dk D86 62 rfl) zo86 zq10_52 zf86_10_9 on295_11).trans ?_
  refine (r_aln (dk D86 63 rfl) rfl).trans ?_
  refine (r_bp (dk D86 64 rfl) zcb46).trans ?_
  refine (g_nai (dk D86 65 rfl) nw295 zn46).trans ?_
  refine (g_putR (dk D86 66 rfl) zo86 zq10_55 zf86_10_10 on296_11).trans ?_
  refine (r_aln (dk D86 67 rfl) rfl).trans ?_
  refine (r_bp (dk D86 68 rfl) zcb91).trans ?_
  refine (g_nai (dk D86 69 rfl) nw296 zn91).trans ?_
  refine (g_putR (dk D86 70 rfl) zo86 zq10_58 zf86_10_11 on297_11).trans ?_
  refine (r_aln (dk D86 71 rfl) rfl).trans ?_
  refine (r_bp (dk D86 72 rfl) zcb10).trans ?_
  refine (g_putI (dk D86 73 rfl) zo86 zq10_61 zf86_10_12 on297_11).trans ?_
  refine (r_aln (dk D86 74 rfl) rfl).trans ?_
  refine (r_ic (dk D86 75 rfl) zci3).trans ?_
  refine (g_putI (dk D86 76 rfl) zo86 zq10_65 zf86_10_13 on297_11).trans ?_
  refine (r_aln (dk D86 77 rfl) rfl).trans ?_
  refine (r_ic (dk D86 78 rfl) zcim1).trans ?_
  refine (g_putI (dk D86 79 rfl) zo86 zq10_68 zf86_10_15 on297_11).trans ?_
  refine (r_aln (dk D86 80 rfl) rfl).trans ?_
  refine (r_ic (dk D86 81 rfl) zcim1).trans ?_
  refine (g_putI (dk D86 82 rfl) zo86 zq10_71 zf86_10_16 on297_11).trans ?_
  exact r_rev (dk D86 83 rfl) zr86
set_option maxRecDepth 40000 in
theorem D117 : dOK 117 [(0, .aload_n 0, 1), (1, .invokespecial 1, 3), (4, .aload_n 0, 1), (5, .new 7, 3), (8, .dup, 1), (9, .invokespecial 9, 3), (12, .putfield 10, 3), (15, .aload_n 0, 1), (16, .new 16, 3), (19, .dup, 1), (20, .aload_n 0, 1), (21, .getfield 10, 3), (24, .invokespecial 18, 3), (27, .putfield 21, 3), (30, .aload_n 0, 1), (31, .new 25, 3), (34, .dup, 1), (35, .aload_n 0, 1), (36, .getfield 21, 3), (39, .aload_n 0, 1), (40, .getfield 10, 3), (43, .invokespecial 27, 3), (46, .putfield 30, 3), (49, .aload_n 0, 1), (50, .new 34, 3), (53, .dup, 1), (54, .aload_n 0, 1), (55, .getfield 21, 3), (58, .aload_n 0, 1), (59, .getfield 30, 3), (62, .aload_n 0, 1), (63, .getfield 10, 3), (66, .invokespecial 36, 3), (69, .putfield 39, 3), (72, .aload_n 0, 1), (73, .new 43, 3), (76, .dup, 1), (77, .aload_n 0, 1), (78, .getfield 21, 3), (81, .aload_n 0, 1), (82, .getfield 10, 3), (85, .invokespecial 45, 3), (88, .putfield 46, 3), (91, .aload_n 0, 1), (92, .new 50, 3), (95, .dup, 1), (96, .aload_n 0, 1), (97, .getfield 30, 3), (100, .aload_n 0, 1), (101, .getfield 10, 3), (104, .invokespecial 52, 3), (107, .putfield 55, 3), (110, .aload_n 0, 1), (111, .new 59, 3), (114, .dup, 1), (115, .aload_n 0, 1), (116, .getfield 21, 3), (119, .aload_n 0, 1), (120, .getfield 30, 3), (123, .aload_n 0, 1), (124, .getfield 10, 3), (127, .invokespecial 61, 3), (130, .putfield 62, 3), (133, .aload_n 0, 1), (134, .new 66, 3), (137, .dup, 1), (138, .invokespecial 68, 3), (141, .putfield 69, 3), (144, .aload_n 0, 1), (145, .iconst 0, 1), (146, .putfield 73, 3), (149, .return_, 1)] = true := by decide +kernel
theorem K117_0 {d sl : Nat} {R : Nat → Nat → Option Nat} {I : Nat → Nat → Int32} {J : Nat → Nat → Int64}  : den (d + 5) 117 [.ref 1] (G sl R 1 I J) = evK (d + 5) 117 12 [.ref 1] [.ref 2, .ref 1] (den (d + 4) 24 [.ref 2] (G sl (zr2 R 2 none) 2 (zr2 I 2 0) (zr2 J 2 0))) := by
  refine (show den (d + 5) 117 [.ref 1] (G sl R 1 I J) = ev (d + 5) 117 0 [.ref 1] [] (G sl R 1 I J) from rfl).trans ?_
  refine (r_aln (dk D117 0 rfl) rfl).trans ?_
  refine (r_obj (dk D117 1 rfl) zo117 zj11_1 (Nat.le_of_ble_eq_true rfl)).trans ?_
  refine (r_aln (dk D117 2 rfl) rfl).trans ?_
  refine (g_new (dk D117 3 rfl) zo117 zl11_7 nw1).trans ?_
  refine (r_dup (dk D117 4 rfl) rfl).trans ?_
  exact g_ci (dk D117 5 rfl) zo117 zb11_9 zc11_9 zm24 (Nat.le_of_ble_eq_true rfl) rfl rfl (Nat.le_of_ble_eq_true rfl) (Nat.le_of_ble_eq_true rfl)
theorem K117_12 {d sl : Nat} {R : Nat → Nat → Option Nat} {I : Nat → Nat → Int32} {J : Nat → Nat → Int64}  : ev (d + 5) 117 12 [.ref 1] [.ref 2, .ref 1] (G sl R 3 I J) = evK (d + 5) 117 27 [.ref 1] [.ref 4, .ref 1] (den (d + 4) 58 [.ref 4, .ref 2] (G sl (zr2 (up2 R 1 0 (some 2)) 4 none) 4 (zr2 I 4 0) (zr2 J 4 0))) := by
  refine (g_putR (dk D117 6 rfl) zo117 zq11_10 zf117_11_0 on3_1).trans ?_
  refine (r_aln (dk D117 7 rfl) rfl).trans ?_
  refine (g_new (dk D117 8 rfl) zo117 zl11_16 nw3).trans ?_
  refine (r_dup (dk D117 9 rfl) rfl).trans ?_
  refine (r_aln (dk D117 10 rfl) rfl).trans ?_
  refine (g_getR (dk D117 11 rfl) zo117 zq11_10 on4_1 rfl).trans ?_
  exact g_ci (dk D117 12 rfl) zo117 zb11_18 zc11_18 zm58 (Nat.le_of_ble_eq_true rfl) rfl rfl (Nat.le_of_ble_eq_true rfl) (Nat.le_of_ble_eq_true rfl)
theorem K117_27 {d sl : Nat} {R : Nat → Nat → Option Nat} {I : Nat → Nat → Int32} {J : Nat → Nat → Int64} (h0 : R 1 0 = some 2) : ev (d + 5) 117 27 [.ref 1] [.ref 4, .ref 1] (G sl R 136 I J) = evK (d + 5) 117 46 [.ref 1] [.ref 11, .ref 1] (den (d + 4) 86 [.ref 11, .ref 4, .ref 2] (G sl (zr2 (up2 R 1 1 (some 4)) 11 none) 137 (zr2 I 11 0) (zr2 J 11 0))) := by
  refine (g_putR (dk D117 13 rfl) zo117 zq11_21 zf117_11_1 on136_1).trans ?_
  refine (r_aln (dk D117 14 rfl) rfl).trans ?_
  refine (g_new (dk D117 15 rfl) zo117 zl11_25 nw136).trans ?_
  refine (r_dup (dk D117 16 rfl) rfl).trans ?_
  refine (r_aln (dk D117 17 rfl) rfl).trans ?_
  refine (g_getR (dk D117 18 rfl) zo117 zq11_21 on137_1 rfl).trans ?_
  refine (r_aln (dk D117 19 rfl) rfl).trans ?_
  refine (g_getR (dk D117 20 rfl) zo117 zq11_10 on137_1 (by exact h0)).trans ?_
  exact g_ci (dk D117 21 rfl) zo117 zb11_27 zc11_27 zm86 (Nat.le_of_ble_eq_true rfl) rfl rfl (Nat.le_of_ble_eq_true rfl) (Nat.le_of_ble_eq_true rfl)
theorem K117_46 {d sl : Nat} {R : Nat → Nat → Option Nat} {I : Nat → Nat → Int32} {J : Nat → Nat → Int64} (h0 : R 1 0 = some 2) (h1 : R 1 1 = some 4) : ev (d + 5) 117 46 [.ref 1] [.ref 11, .ref 1] (G sl R 297 I J) = evK (d + 5) 117 69 [.ref 1] [.ref 22, .ref 1] (den (d + 4) 38 [.ref 22, .ref 4, .ref 11, .ref 2] (G sl (zr2 (up2 R 1 2 (some 11)) 22 none) 298 (zr2 I 22 0) (zr2 J 22 0))) := by
  refine (g_putR (dk D117 22 rfl) zo117 zq11_30 zf117_11_2 on297_1).trans ?_
  refine (r_aln (dk D117 23 rfl) rfl).trans ?_
  refine (g_new (dk D117 24 rfl) zo117 zl11_34 nw297).trans ?_
  refine (r_dup (dk D117 25 rfl) rfl).trans ?_
  refine (r_aln (dk D117 26 rfl) rfl).trans ?_
  refine (g_getR (dk D117 27 rfl) zo117 zq11_21 on298_1 (by exact h1)).trans ?_
  refine (r_aln (dk D117 28 rfl) rfl).trans ?_
  refine (g_getR (dk D117 29 rfl) zo117 zq11_30 on298_1 rfl).trans ?_
  refine (r_aln (dk D117 30 rfl) rfl).trans ?_
  refine (g_getR (dk D117 31 rfl) zo117 zq11_10 on298_1 (by exact h0)).trans ?_
  exact g_ci (dk D117 32 rfl) zo117 zb11_36 zc11_36 zm38 (Nat.le_of_ble_eq_true rfl) rfl rfl (Nat.le_of_ble_eq_true rfl) (Nat.le_of_ble_eq_true rfl)
theorem K117_69 {d sl : Nat} {R : Nat → Nat → Option Nat} {I : Nat → Nat → Int32} {J : Nat → Nat → Int64} (h0 : R 1 0 = some 2) (h1 : R 1 1 = some 4) : ev (d + 5) 117 69 [.ref 1] [.ref 22, .ref 1] (G sl R 332 I J) = evK (d + 5) 117 88 [.ref 1] [.ref 27, .ref 1] (den (d + 4) 77 [.ref 27, .ref 4, .ref 2] (G sl (zr2 (up2 R 1 3 (some 22)) 27 none) 333 (zr2 I 27 0) (zr2 J 27 0))) := by
  refine (g_putR (dk D117 33 rfl) zo117 zq11_39 zf117_11_3 on332_1).trans ?_
  refine (r_aln (dk D117 34 rfl) rfl).trans ?_
  refine (g_new (dk D117 35 rfl) zo117 zl11_43 nw332).trans ?_
  refine (r_dup (dk D117 36 rfl) rfl).trans ?_
  refine (r_aln (dk D117 37 rfl) rfl).trans ?_
  refine (g_getR (dk D117 38 rfl) zo117 zq11_21 on333_1 (by exact h1)).trans ?_
  refine (r_aln (dk D117 39 rfl) rfl).trans ?_
  refine (g_getR (dk D117 40 rfl) zo117 zq11_10 on333_1 (by exact h0)).trans ?_
  exact g_ci (dk D117 41 rfl) zo117 zb11_45 zc11_45 zm77 (Nat.le_of_ble_eq_true rfl) rfl rfl (Nat.le_of_ble_eq_true rfl) (Nat.le_of_ble_eq_true rfl)
theorem K117_88 {d sl : Nat} {R : Nat → Nat → Option Nat} {I : Nat → Nat → Int32} {J : Nat → Nat → Int64} (h0 : R 1 0 = some 2) (h2 : R 1 2 = some 11) : ev (d + 5) 117 88 [.ref 1] [.ref 27, .ref 1] (G sl R 339 I J) = evK (d + 5) 117 107 [.ref 1] [.ref 34, .ref 1] (den (d + 4) 46 [.ref 34, .ref 11, .ref 2] (G sl (zr2 (up2 R 1 4 (some 27)) 34 none) 340 (zr2 I 34 0) (zr2 J 34 0))) := by
  refine (g_putR (dk D117 42 rfl) zo117 zq11_46 zf117_11_4 on339_1).trans ?_
  refine (r_aln (dk D117 43 rfl) rfl).trans ?_
  refine (g_new (dk D117 44 rfl) zo117 zl11_50 nw339).trans ?_
  refine (r_dup (dk D117 45 rfl) rfl).trans ?_
  refine (r_aln (dk D117 46 rfl) rfl).trans ?_
  refine (g_getR (dk D117 47 rfl) zo117 zq11_30 on340_1 (by exact h2)).trans ?_
  refine (r_aln (dk D117 48 rfl) rfl).trans ?_
  refine (g_getR (dk D117 49 rfl) zo117 zq11_10 on340_1 (by exact h0)).trans ?_
  exact g_ci (dk D117 50 rfl) zo117 zb11_52 zc11_52 zm46 (Nat.le_of_ble_eq_true rfl) rfl rfl (Nat.le_of_ble_eq_true rfl) (Nat.le_of_ble_eq_true rfl)
theorem K117_107 {d sl : Nat} {R : Nat → Nat → Option Nat} {I : Nat → Nat → Int32} {J : Nat → Nat → Int64} (h0 : R 1 0 = some 2) (h1 : R 1 1 = some 4) (h2 : R 1 2 = some 11) : ev (d + 5) 117 107 [.ref 1] [.ref 34, .ref 1] (G sl R 343 I J) = evK (d + 5) 117 130 [.ref 1] [.ref 38, .ref 1] (den (d + 4) 21 [.ref 38, .ref 4, .ref 11, .ref 2] (G sl (zr2 (up2 R 1 5 (some 34)) 38 none) 344 (zr2 I 38 0) (zr2 J 38 0))) := by
  refine (g_putR (dk D117 51 rfl) zo117 zq11_55 zf117_11_5 on343_1).trans ?_
  refine (r_aln (dk D117 52 rfl) rfl).trans ?_
  refine (g_new (dk D117 53 rfl) zo117 zl11_59 nw343).trans ?_
  refine (r_dup (dk D117 54 rfl) rfl).trans ?_
  refine (r_aln (dk D117 55 rfl) rfl).trans ?_
  refine (g_getR (dk D117 56 rfl) zo117 zq11_21 on344_1 (by exact h1)).trans ?_
  refine (r_aln (dk D117 57 rfl) rfl).trans ?_
  refine (g_getR (dk D117 58 rfl) zo117 zq11_30 on344_1 (by exact h2)).trans ?_
  refine (r_aln (dk D117 59 rfl) rfl).trans ?_
  refine (g_getR (dk D117 60 rfl) zo117 zq11_10 on344_1 (by exact h0)).trans ?_
  exact g_ci (dk D117 61 rfl) zo117 zb11_61 zc11_61 zm21 (Nat.le_of_ble_eq_true rfl) rfl rfl (Nat.le_of_ble_eq_true rfl) (Nat.le_of_ble_eq_true rfl)
theorem K117_130 {d sl : Nat} {R : Nat → Nat → Option Nat} {I : Nat → Nat → Int32} {J : Nat → Nat → Int64}  : ev (d + 5) 117 130 [.ref 1] [.ref 38, .ref 1] (G sl R 350 I J) = some (none, (G sl (up2 (zr2 (up2 R 1 6 (some 38)) 45 none) 1 7 (some 45)) 351 (up2 (zr2 I 45 0) 1 8 0) (zr2 J 45 0))) := by
  refine (g_putR (dk D117 62 rfl) zo117 zq11_62 zf117_11_6 on350_1).trans ?_
  refine (r_aln (dk D117 63 rfl) rfl).trans ?_
  refine (g_new (dk D117 64 rfl) zo117 zl11_66 nw350).trans ?_
  refine (r_dup (dk D117 65 rfl) rfl).trans ?_
  refine (g_vec (dk D117 66 rfl) zo117 zb11_68 zc11_68 (Nat.le_of_ble_eq_true rfl)).trans ?_
  refine (g_putR (dk D117 67 rfl) zo117 zq11_69 zf117_11_7 on351_1).trans ?_
  refine (r_aln (dk D117 68 rfl) rfl).trans ?_
  refine (r_ic (dk D117 69 rfl) zci0).trans ?_
  refine (g_putI (dk D117 70 rfl) zo117 zq11_73 zf117_11_8 on351_1).trans ?_
  exact r_rev (dk D117 71 rfl) zr117
set_option maxRecDepth 40000 in
theorem D176 : dOK 176 [(0, .aload_n 0, 1), (1, .invokespecial 1, 3), (4, .aload_n 0, 1), (5, .bipush 10, 2), (7, .putfield 7, 3), (10, .aload_n 0, 1), (11, .iconst 3, 1), (12, .putfield 13, 3), (15, .aload_n 0, 1), (16, .iconst 1, 1), (17, .putfield 16, 3), (20, .aload_n 0, 1), (21, .bipush 60, 2), (23, .putfield 19, 3), (26, .aload_n 0, 1), (27, .bipush 30, 2), (29, .putfield 22, 3), (32, .aload_n 0, 1), (33, .bipush 20, 2), (35, .putfield 25, 3), (38, .aload_n 0, 1), (39, .bipush 6, 2), (41, .newarray .int, 2), (43, .putfield 28, 3), (46, .aload_n 0, 1), (47, .bipush 6, 2), (49, .newarray .int, 2), (51, .putfield 32, 3), (54, .aload_n 0, 1), (55, .bipush 6, 2), (57, .newarray .int, 2), (59, .putfield 35, 3), (62, .aload_n 0, 1), (63, .bipush 60, 2), (65, .newarray .int, 2), (67, .putfield 38, 3), (70, .aload_n 0, 1), (71, .bipush 60, 2), (73, .newarray .int, 2), (75, .putfield 41, 3), (78, .aload_n 0, 1), (79, .bipush 60, 2), (81, .newarray .int, 2), (83, .putfield 44, 3), (86, .aload_n 0, 1), (87, .bipush 60, 2), (89, .newarray .int, 2), (91, .putfield 47, 3), (94, .aload_n 0, 1), (95, .bipush 60, 2), (97, .newarray .int, 2), (99, .putfield 50, 3), (102, .aload_n 0, 1), (103, .bipush 60, 2), (105, .newarray .int, 2), (107, .putfield 53, 3), (110, .aload_n 0, 1), (111, .bipush 60, 2), (113, .newarray .int, 2), (115, .putfield 56, 3), (118, .aload_n 0, 1), (119, .bipush 6, 2), (121, .newarray .int, 2), (123, .putfield 59, 3), (126, .aload_n 0, 1), (127, .bipush 6, 2), (129, .newarray .int, 2), (131, .putfield 62, 3), (134, .aload_n 0, 1), (135, .bipush 6, 2), (137, .newarray .int, 2), (139, .putfield 65, 3), (142, .aload_n 0, 1), (143, .bipush 60, 2), (145, .newarray .int, 2), (147, .putfield 68, 3), (150, .aload_n 0, 1), (151, .bipush 60, 2), (153, .newarray .int, 2), (155, .putfield 71, 3), (158, .aload_n 0, 1), (159, .bipush 60, 2), (161, .newarray .int, 2), (163, .putfield 74, 3), (166, .aload_n 0, 1), (167, .bipush 60, 2), (169, .newarray .int, 2), (171, .putfield 77, 3), (174, .aload_n 0, 1), (175, .bipush 30, 2), (177, .newarray .int, 2), (179, .putfield 80, 3), (182, .aload_n 0, 1), (183, .bipush 30, 2), (185, .newarray .int, 2), (187, .putfield 83, 3), (190, .aload_n 0, 1), (191, .bipush 30, 2), (193, .newarray .int, 2), (195, .putfield 86, 3), (198, .aload_n 0, 1), (199, .bipush 60, 2), (201, .newarray .int, 2), (203, .putfield 89, 3), (206, .aload_n 0, 1), (207, .bipush 6, 2), (209, .newarray .long, 2), (211, .putfield 92, 3), (214, .aload_n 0, 1), (215, .bipush 30, 2), (217, .newarray .int, 2), (219, .putfield 96, 3), (222, .aload_n 0, 1), (223, .bipush 30, 2), (225, .newarray .int, 2), (227, .putfield 99, 3), (230, .aload_n 0, 1), (231, .sipush 900, 3), (234, .newarray .int, 2), (236, .putfield 102, 3), (239, .aload_n 0, 1), (240, .sipush 900, 3), (243, .newarray .int, 2), (245, .putfield 105, 3), (248, .return_, 1)] = true := by decide +kernel
theorem K176_0 {d sl : Nat} {R : Nat → Nat → Option Nat} {I : Nat → Nat → Int32} {J : Nat → Nat → Int64}  : den (d + 2) 176 [.ref 46] (G sl R 352 I J) = some (none, (G sl (up2 (zr2 (up2 (zr2 (up2 (zr2 (up2 (zr2 (up2 (zr2 (up2 (zr2 (up2 (zr2 (up2 (zr2 (up2 (zr2 (up2 (zr2 (up2 (zr2 (up2 (zr2 (up2 (zr2 (up2 (zr2 (up2 (zr2 (up2 (zr2 (up2 (zr2 (up2 (zr2 (up2 (zr2 (up2 (zr2 (up2 (zr2 (up2 (zr2 (up2 (zr2 (up2 (zr2 (up2 (zr2 (up2 (zr2 R 47 none) 46 10 (some 47)) 48 none) 46 11 (some 48)) 49 none) 46 12 (some 49)) 50 none) 46 13 (some 50)) 51 none) 46 14 (some 51)) 52 none) 46 15 (some 52)) 53 none) 46 16 (some 53)) 54 none) 46 17 (some 54)) 55 none) 46 18 (some 55)) 56 none) 46 19 (some 56)) 57 none) 46 20 (some 57)) 58 none) 46 21 (some 58)) 59 none) 46 22 (some 59)) 60 none) 46 26 (some 60)) 61 none) 46 27 (some 61)) 62 none) 46 28 (some 62)) 63 none) 46 29 (some 63)) 64 none) 46 36 (some 64)) 65 none) 46 37 (some 65)) 66 none) 46 38 (some 66)) 67 none) 46 39 (some 67)) 68 none) 46 41 (some 68)) 69 none) 46 45 (some 69)) 70 none) 46 46 (some 70)) 71 none) 46 47 (some 71)) 72 none) 46 48 (some 72)) 378 (zr2 (zr2 (zr2 (zr2 (zr2 (zr2 (zr2 (zr2 (zr2 (zr2 (zr2 (zr2 (zr2 (zr2 (zr2 (zr2 (zr2 (zr2 (zr2 (zr2 (zr2 (zr2 (zr2 (zr2 (zr2 (zr2 (up2 (up2 (up2 (up2 (up2 (up2 I 46 3 10) 46 4 3) 46 5 1) 46 7 60) 46 8 30) 46 9 20) 47 0) 48 0) 49 0) 50 0) 51 0) 52 0) 53 0) 54 0) 55 0) 56 0) 57 0) 58 0) 59 0) 60 0) 61 0) 62 0) 63 0) 64 0) 65 0) 66 0) 67 0) 68 0) 69 0) 70 0) 71 0) 72 0) (zr2 (zr2 (zr2 (zr2 (zr2 (zr2 (zr2 (zr2 (zr2 (zr2 (zr2 (zr2 (zr2 (zr2 (zr2 (zr2 (zr2 (zr2 (zr2 (zr2 (zr2 (zr2 (zr2 (zr2 (zr2 (zr2 J 47 0) 48 0) 49 0) 50 0) 51 0) 52 0) 53 0) 54 0) 55 0) 56 0) 57 0) 58 0) 59 0) 60 0) 61 0) 62 0) 63 0) 64 0) 65 0) 66 0) 67 0) 68 0) 69 0) 70 0) 71 0) 72 0))) := by
  refine (show den (d + 2) 176 [.ref 46] (G sl R 352 I J) = ev (d + 2) 176 0 [.ref 46] [] (G sl R 352 I J) from rfl).trans ?_
  refine (r_aln (dk D176 0 rfl) rfl).trans ?_
  refine (r_obj (dk D176 1 rfl) zo176 zj12_1 (Nat.le_of_ble_eq_true rfl)).trans ?_
  refine (r_aln (dk D176 2 rfl) rfl).trans ?_
  refine (r_bp (dk D176 3 rfl) zcb10).trans ?_
  refine (g_putI (dk D176 4 rfl) zo176 zq12_7 zf176_12_3 on352_46).trans ?_
  refine (r_aln (dk D176 5 rfl) rfl).trans ?_
  refine (r_ic (dk D176 6 rfl) zci3).trans ?_
  refine (g_putI (dk D176 7 rfl) zo176 zq12_13 zf176_12_4 on352_46).trans ?_
  refine (r_aln (dk D176 8 rfl) rfl).trans ?_
  refine (r_ic (dk D176 9 rfl) zci1).trans ?_
  refine (g_putI (dk D176 10 rfl) zo176 zq12_16 zf176_12_5 on352_46).trans ?_
  refine (r_aln (dk D176 11 rfl) rfl).trans ?_
  refine (r_bp (dk D176 12 rfl) zcb60).trans ?_
  refine (g_putI (dk D176 13 rfl) zo176 zq12_19 zf176_12_7 on352_46).trans ?_
  refine (r_aln (dk D176 14 rfl) rfl).trans ?_
  refine (r_bp (dk D176 15 rfl) zcb30).trans ?_
  refine (g_putI (dk D176 16 rfl) zo176 zq12_22 zf176_12_8 on352_46).trans ?_
  refine (r_aln (dk D176 17 rfl) rfl).trans ?_
  refine (r_bp (dk D176 18 rfl) zcb20).trans ?_
  refine (g_putI (dk D176 19 rfl) zo176 zq12_25 zf176_12_9 on352_46).trans ?_
  refine (r_aln (dk D176 20 rfl) rfl).trans ?_
  refine (r_bp (dk D176 21 rfl) zcb6).trans ?_
  refine (g_nai (dk D176 22 rfl) nw352 zn6).trans ?_
  refine (g_putR (dk D176 23 rfl) zo176 zq12_28 zf176_12_10 on353_46).trans ?_
  refine (r_aln (dk D176 24 rfl) rfl).trans ?_
  refine (r_bp (dk D176 25 rfl) zcb6).trans ?_
  refine (g_nai (dk D176 26 rfl) nw353 zn6).trans ?_
  refine (g_putR (dk D176 27 rfl) zo176 zq12_32 zf176_12_11 on354_46).trans ?_
  refine (r_aln (dk D176 28 rfl) rfl).trans ?_
  refine (r_bp (dk D176 29 rfl) zcb6).trans ?_
  refine (g_nai (dk D176 30 rfl) nw354 zn6).trans ?_
  refine (g_putR (dk D176 31 rfl) zo176 zq12_35 zf176_12_12 on355_46).trans ?_
  refine (r_aln (dk D176 32 rfl) rfl).trans ?_
  refine (r_bp (dk D176 33 rfl) zcb60).trans ?_
  refine (g_nai (dk D176 34 rfl) nw355 zn60).trans ?_
  refine (g_putR (dk D176 35 rfl) zo176 zq12_38 zf176_12_13 on356_46).trans ?_
  refine (r_aln (dk D176 36 rfl) rfl).trans ?_
  refine (r_bp (dk D176 37 rfl) zcb60).trans ?_
  refine (g_nai (dk D176 38 rfl) nw356 zn60).trans ?_
  refine (g_putR (dk D176 39 rfl) zo176 zq12_41 zf176_12_14 on357_46).trans ?_
  refine (r_aln (dk D176 40 rfl) rfl).trans ?_
  refine (r_bp (dk D176 41 rfl) zcb60).trans ?_
  refine (g_nai (dk D176 42 rfl) nw357 zn60).trans ?_
  refine (g_putR (dk D176 43 rfl) zo176 zq12_44 zf176_12_15 on358_46).trans ?_
  refine (r_aln (dk D176 44 rfl) rfl).trans ?_
  refine (r_bp (dk D176 45 rfl) zcb60).trans ?_
  refine (g_nai (dk D176 46 rfl) nw358 zn60).trans ?_
  refine (g_putR (dk D176 47 rfl) zo176 zq12_47 zf176_12_16 on359_46).trans ?_
  refine (r_aln (dk D176 48 rfl) rfl).trans ?_
  refine (r_bp (dk D176 49 rfl) zcb60).trans ?_
  refine (g_nai (dk D176 50 rfl) nw359 zn60).trans ?_
  refine (g_putR (dk D176 51 rfl) zo176 zq12_50 zf176_12_17 on360_46).trans ?_
  refine (r_aln (dk D176 52 rfl) rfl).trans ?_
  refine (r_bp (dk D176 53 rfl) zcb60).trans ?_
  refine (g_nai (dk D176 54 rfl) nw360 zn60).trans ?_
  refine (g_putR (dk D176 55 rfl) zo176 zq12_53 zf176_12_18 on361_46).trans ?_
  refine (r_aln (dk D176 56 rfl) rfl).trans ?_
  refine (r_bp (dk D176 57 rfl) zcb60).trans ?_
  refine (g_nai (dk D176 58 rfl) nw361 zn60).trans ?_
  refine (g_putR (dk D176 59 rfl) zo176 zq12_56 zf176_12_19 on362_46).trans ?_
  refine (r_aln (dk D176 60 rfl) rfl).trans ?_
  refine (r_bp (dk D176 61 rfl) zcb6).trans ?_
  refine (g_nai (dk D176 62 rfl) nw362 zn6).trans ?_
  refine (g_putR (dk D176 63 rfl) zo176 zq12_59 zf176_12_20 on363_46).trans ?_
  refine (r_aln (dk D176 64 rfl) rfl).trans ?_
  refine (r_bp (dk D176 65 rfl) zcb6).trans ?_
  refine (g_nai (dk D176 66 rfl) nw363 zn6).trans ?_
  refine (g_putR (dk D176 67 rfl) zo176 zq12_62 zf176_12_21 on364_46).trans ?_
  refine (r_aln (dk D176 68 rfl) rfl).trans ?_
  refine (r_bp (dk D176 69 rfl) zcb6).trans ?_
  refine (g_nai (dk D176 70 rfl) nw364 zn6).trans ?_
  refine (g_putR (dk D176 71 rfl) zo176 zq12_65 zf176_12_22 on365_46).trans ?_
  refine (r_aln (dk D176 72 rfl) rfl).trans ?_
  refine (r_bp (dk D176 73 rfl) zcb60).trans ?_
  refine (g_nai (dk D176 74 rfl) nw365 zn60).trans ?_
  refine (g_putR (dk D176 75 rfl) zo176 zq12_68 zf176_12_26 on366_46).trans ?_
  refine (r_aln (dk D176 76 rfl) rfl).trans ?_
  refine (r_bp (dk D176 77 rfl) zcb60).trans ?_
  refine (g_nai (dk D176 78 rfl) nw366 zn60).trans ?_
  refine (g_putR (dk D176 79 rfl) zo176 zq12_71 zf176_12_27 on367_46).trans ?_
  refine (r_aln (dk D176 80 rfl) rfl).trans ?_
  refine (r_bp (dk D176 81 rfl) zcb60).trans ?_
  refine (g_nai (dk D176 82 rfl) nw367 zn60).trans ?_
  refine (g_putR (dk D176 83 rfl) zo176 zq12_74 zf176_12_28 on368_46).trans ?_
  refine (r_aln (dk D176 84 rfl) rfl).trans ?_
  refine (r_bp (dk D176 85 rfl) zcb60).trans ?_
  refine (g_nai (dk D176 86 rfl) nw368 zn60).trans ?_
  refine (g_putR (dk D176 87 rfl) zo176 zq12_77 zf176_12_29 on369_46).trans ?_
  refine (r_aln (dk D176 88 rfl) rfl).trans ?_
  refine (r_bp (dk D176 89 rfl) zcb30).trans ?_
  refine (g_nai (dk D176 90 rfl) nw369 zn30).trans ?_
  refine (g_putR (dk D176 91 rfl) zo176 zq12_80 zf176_12_36 on370_46).trans ?_
  refine (r_aln (dk D176 92 rfl) rfl).trans ?_
  refine (r_bp (dk D176 93 rfl) zcb30).trans ?_
  refine (g_nai (dk D176 94 rfl) nw370 zn30).trans ?_
  refine (g_putR (dk D176 95 rfl) zo176 zq12_83 zf176_12_37 on371_46).trans ?_
  refine (r_aln (dk D176 96 rfl) rfl).trans ?_
  refine (r_bp (dk D176 97 rfl) zcb30).trans ?_
  refine (g_nai (dk D176 98 rfl) nw371 zn30).trans ?_
  refine (g_putR (dk D176 99 rfl) zo176 zq12_86 zf176_12_38 on372_46).trans ?_
  refine (r_aln (dk D176 100 rfl) rfl).trans ?_
  refine (r_bp (dk D176 101 rfl) zcb60).trans ?_
  refine (g_nai (dk D176 102 rfl) nw372 zn60).trans ?_
  refine (g_putR (dk D176 103 rfl) zo176 zq12_89 zf176_12_39 on373_46).trans ?_
  refine (r_aln (dk D176 104 rfl) rfl).trans ?_
  refine (r_bp (dk D176 105 rfl) zcb6).trans ?_
  refine (g_naj (dk D176 106 rfl) nw373 zn6).trans ?_
  refine (g_putR (dk D176 107 rfl) zo176 zq12_92 zf176_12_41 on374_46).trans ?_
  refine (r_aln (dk D176 108 rfl) rfl).trans ?_
  refine (r_bp (dk D176 109 rfl) zcb30).trans ?_
  refine (g_nai (dk D176 110 rfl) nw374 zn30).trans ?_
  refine (g_putR (dk D176 111 rfl) zo176 zq12_96 zf176_12_45 on375_46).trans ?_
  refine (r_aln (dk D176 112 rfl) rfl).trans ?_
  refine (r_bp (dk D176 113 rfl) zcb30).trans ?_
  refine (g_nai (dk D176 114 rfl) nw375 zn30).trans ?_
  refine (g_putR (dk D176 115 rfl) zo176 zq12_99 zf176_12_46 on376_46).trans ?_
  refine (r_aln (dk D176 116 rfl) rfl).trans ?_
  refine (r_sp (dk D176 117 rfl) zcs900).trans ?_
  refine (g_nai (dk D176 118 rfl) nw376 zn900).trans ?_
  refine (g_putR (dk D176 119 rfl) zo176 zq12_102 zf176_12_47 on377_46).trans ?_
  refine (r_aln (dk D176 120 rfl) rfl).trans ?_
  refine (r_sp (dk D176 121 rfl) zcs900).trans ?_
  refine (g_nai (dk D176 122 rfl) nw377 zn900).trans ?_
  refine (g_putR (dk D176 123 rfl) zo176 zq12_105 zf176_12_48 on378_46).trans ?_
  exact r_rev (dk D176 124 rfl) zr176
set_option maxRecDepth 40000 in
theorem D309c0 : dOK 309 [(0, .new 7, 3), (3, .dup, 1), (4, .invokespecial 9, 3), (7, .astore_n 1, 1), (8, .new 10, 3), (11, .dup, 1), (12, .invokespecial 12, 3), (15, .astore_n 2, 1), (16, .iconst 0, 1), (17, .istore_n 3, 1), (18, .iload_n 3, 1), (19, .aload_n 0, 1), (20, .arraylength, 1), (21, .bipush 7, 2), (23, .isub, 1), (24, .if_icmp .gt 1745, 3), (27, .aload_n 0, 1), (28, .iload_n 3, 1), (29, .iaload, 1), (30, .bipush 63, 2), (32, .iand, 1), (33, .tableswitch 1730 0 44 #[195, 208, 251, 304, 327, 360, 383, 436, 459, 492, 525, 558, 591, 625, 658, 681, 714, 747, 790, 803, 826, 849, 882, 905, 928, 961, 994, 1027, 1070, 1113, 1146, 1169, 1218, 1241, 1284, 1317, 1360, 1423, 1499, 1542, 1565, 1588, 1611, 1624, 1677], 195), (228, .aload_n 1, 1), (229, .invokevirtual 13, 3), (232, .aload_n 2, 1), (233, .invokevirtual 17, 3), (236, .if_icmp .eq 1527, 3), (239, .iconst 0, 1), (240, .ireturn, 1), (241, .aload_n 1, 1)] = true := by decide +kernel
theorem K309_0 {d sl : Nat} {R : Nat → Nat → Option Nat} {I : Nat → Nat → Int32} {J : Nat → Nat → Int64}  : ev (d + 6) 309 0 [.ref 0, .retAddr 0, .retAddr 0, .retAddr 0] [] (G sl R 0 I J) = evK (d + 6) 309 7 [.ref 0, .retAddr 0, .retAddr 0, .retAddr 0] [.ref 1] (den (d + 5) 117 [.ref 1] (G sl (zr2 R 1 none) 1 (zr2 I 1 0) (zr2 J 1 0))) := by
  refine (g_new (dk D309c0 0 rfl) zo309 zl13_7 nw0).trans ?_
  refine (r_dup (dk D309c0 1 rfl) rfl).trans ?_
  exact g_ci (dk D309c0 2 rfl) zo309 zb13_9 zc13_9 zm117 (Nat.le_of_ble_eq_true rfl) rfl rfl (Nat.le_of_ble_eq_true rfl) (Nat.le_of_ble_eq_true rfl)
theorem K309_7 {d sl : Nat} {R : Nat → Nat → Option Nat} {I : Nat → Nat → Int32} {J : Nat → Nat → Int64}  : ev (d + 6) 309 7 [.ref 0, .retAddr 0, .retAddr 0, .retAddr 0] [.ref 1] (G sl R 351 I J) = evK (d + 6) 309 15 [.ref 0, .ref 1, .retAddr 0, .retAddr 0] [.ref 46] (den (d + 5) 176 [.ref 46] (G sl (zr2 R 46 none) 352 (zr2 I 46 0) (zr2 J 46 0))) := by
  refine (r_asn (L' := [.ref 0, .ref 1, .retAddr 0, .retAddr 0]) (dk D309c0 3 rfl) (Nat.le_of_ble_eq_true rfl) rfl).trans ?_
  refine (g_new (dk D309c0 4 rfl) zo309 zl13_10 nw351).trans ?_
  refine (r_dup (dk D309c0 5 rfl) rfl).trans ?_
  exact g_ci (dk D309c0 6 rfl) zo309 zb13_12 zc13_12 zm176 (Nat.le_of_ble_eq_true rfl) rfl rfl (Nat.le_of_ble_eq_true rfl) (Nat.le_of_ble_eq_true rfl)
theorem K309_15 {d sl : Nat} {R : Nat → Nat → Option Nat} {I : Nat → Nat → Int32} {J : Nat → Nat → Int64}  : ev (d + 6) 309 15 [.ref 0, .ref 1, .retAddr 0, .retAddr 0] [.ref 46] (G sl R 378 I J) = ev (d + 6) 309 18 [.ref 0, .ref 1, .ref 46, .int 0] [] (G sl R 378 I J) := by
  refine (r_asn (L' := [.ref 0, .ref 1, .ref 46, .retAddr 0]) (dk D309c0 7 rfl) (Nat.le_of_ble_eq_true rfl) rfl).trans ?_
  refine (r_ic (dk D309c0 8 rfl) zci0).trans ?_
  refine (r_isn (L' := [.ref 0, .ref 1, .ref 46, .int 0]) (dk D309c0 9 rfl) (Nat.le_of_ble_eq_true rfl) rfl).trans ?_
  exact rfl
