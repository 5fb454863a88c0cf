/-! rows of the tables, each by its place (printed by wip/whole/links.py) -/
theorem kl_L_7 : Cond.classLink RL 7 RX11 ∈ pj_T := pj_tw1 (List.mem_of_getElem? (i := 20) rfl) rfl
theorem ml_L_9 : Cond.methodLink RL 9 yX11_init ∈ pj_T := pj_tw1 (List.mem_of_getElem? (i := 22) rfl) rfl
theorem ml_X11_1 : Cond.methodLink RX11 1 objectInit ∈ pj_T := pj_tw1 (List.mem_of_getElem? (i := 25) rfl) rfl
theorem kl_X11_9 : Cond.classLink RX11 9 RX9 ∈ pj_T := pj_tw1 (List.mem_of_getElem? (i := 28) rfl) rfl
theorem kl_X11_15 : Cond.classLink RX11 15 RX7 ∈ pj_T := pj_tw1 (List.mem_of_getElem? (i := 30) rfl) rfl
theorem ml_X11_17 : Cond.methodLink RX11 17 yX7_init ∈ pj_T := pj_tw1 (List.mem_of_getElem? (i := 32) rfl) rfl
theorem ml_X7_3 : Cond.methodLink RX7 3 objectInit ∈ pj_T := pj_tw1 (List.mem_of_getElem? (i := 35) rfl) rfl
theorem ml_X7_40 : Cond.methodLink RX7 40 yJ0_length_8abf5 ∈ pj_T := pj_tw1 (List.mem_of_getElem? (i := 37) rfl) rfl
theorem ml_J0_335 : Cond.methodLink RJ0 335 yJ0_coder_7d493 ∈ pj_T := pj_tw1 (List.mem_of_getElem? (i := 41) rfl) rfl
theorem ml_X7_46 : Cond.methodLink RX7 46 yJ0_charAt_5068e ∈ pj_T := pj_tw1 (List.mem_of_getElem? (i := 47) rfl) rfl
theorem ml_J0_492 : Cond.methodLink RJ0 492 yJ0_isLatin1_aae02 ∈ pj_T := pj_tw1 (List.mem_of_getElem? (i := 51) rfl) rfl
theorem ml_J0_495 : Cond.methodLink RJ0 495 yJ1_charAt_3b067 ∈ pj_T := pj_tw1 (List.mem_of_getElem? (i := 55) rfl) rfl
theorem ml_J1_9 : Cond.methodLink RJ1 9 yJ0_checkIndex_df160 ∈ pj_T := pj_tw1 (List.mem_of_getElem? (i := 58) rfl) rfl
theorem ml_J0_1059 : Cond.methodLink RJ0 1059 yJ3_checkIndex_8e157 ∈ pj_T := pj_tw1 (List.mem_of_getElem? (i := 63) rfl) rfl
theorem ml_J0_498 : Cond.methodLink RJ0 498 yJ2_charAt_3b067 ∈ pj_T := pj_tw1 (List.mem_of_getElem? (i := 66) rfl) rfl
theorem ml_J2_67 : Cond.methodLink RJ2 67 yJ2_checkIndex_2214a ∈ pj_T := pj_tw1 (List.mem_of_getElem? (i := 69) rfl) rfl
theorem ml_J2_48 : Cond.methodLink RJ2 48 yJ2_length_9d52b ∈ pj_T := pj_tw1 (List.mem_of_getElem? (i := 72) rfl) rfl
theorem ml_J2_414 : Cond.methodLink RJ2 414 yJ0_checkIndex_df160 ∈ pj_T := pj_tw1 (List.mem_of_getElem? (i := 75) rfl) rfl
theorem ml_J2_71 : Cond.methodLink RJ2 71 yJ2_getChar_3b067 ∈ pj_T := pj_tw1 (List.mem_of_getElem? (i := 76) rfl) rfl
theorem ml_X7_50 : Cond.methodLink RX7 50 yX7_pack ∈ pj_T := pj_tw1 (List.mem_of_getElem? (i := 85) rfl) rfl
theorem kn_X7_54 : Cond.constantLong RX7 54 (32 : Int64) ∈ pj_T := pj_tw1 (List.mem_of_getElem? (i := 88) rfl) rfl
theorem fl_X7_11 : pj_FL RX7 11 12 0 true := ⟨rfl, by decide, by decide, RX7, TX7, rfl, rfl, rfl, pj_tw1 (List.mem_of_getElem? (i := 89) rfl) rfl, _, tyX7_ok 0 (by decide), pj_tyb_ok rfl⟩
theorem fl_X7_15 : pj_FL RX7 15 12 1 true := ⟨rfl, by decide, by decide, RX7, TX7, rfl, rfl, rfl, pj_tw1 (List.mem_of_getElem? (i := 90) rfl) rfl, _, tyX7_ok 1 (by decide), pj_tyb_ok rfl⟩
theorem fl_X7_19 : pj_FL RX7 19 12 2 true := ⟨rfl, by decide, by decide, RX7, TX7, rfl, rfl, rfl, pj_tw1 (List.mem_of_getElem? (i := 91) rfl) rfl, _, tyX7_ok 2 (by decide), pj_tyb_ok rfl⟩
theorem fl_X7_22 : pj_FL RX7 22 12 3 true := ⟨rfl, by decide, by decide, RX7, TX7, rfl, rfl, rfl, pj_tw1 (List.mem_of_getElem? (i := 92) rfl) rfl, _, tyX7_ok 3 (by decide), pj_tyb_ok rfl⟩
theorem fl_X7_28 : pj_FL RX7 28 12 4 true := ⟨rfl, by decide, by decide, RX7, TX7, rfl, rfl, rfl, pj_tw1 (List.mem_of_getElem? (i := 93) rfl) rfl, _, tyX7_ok 4 (by decide), pj_tyb_ok rfl⟩
theorem fl_X7_56 : pj_FL RX7 56 12 5 false := ⟨rfl, by decide, by decide, RX7, TX7, rfl, rfl, rfl, pj_tw1 (List.mem_of_getElem? (i := 94) rfl) rfl, _, tyX7_ok 5 (by decide), pj_tyb_ok rfl⟩
theorem fl_X11_162 : pj_FL RX11 162 12 5 false := ⟨rfl, by decide, by decide, RX7, TX7, rfl, rfl, rfl, pj_tw1 (List.mem_of_getElem? (i := 95) rfl) rfl, _, tyX7_ok 5 (by decide), pj_tyb_ok rfl⟩
theorem fl_X7_31 : pj_FL RX7 31 12 6 false := ⟨rfl, by decide, by decide, RX7, TX7, rfl, rfl, rfl, pj_tw1 (List.mem_of_getElem? (i := 96) rfl) rfl, _, tyX7_ok 6 (by decide), pj_tyb_ok rfl⟩
theorem fl_X11_185 : pj_FL RX11 185 12 6 false := ⟨rfl, by decide, by decide, RX7, TX7, rfl, rfl, rfl, pj_tw1 (List.mem_of_getElem? (i := 97) rfl) rfl, _, tyX7_ok 6 (by decide), pj_tyb_ok rfl⟩
theorem fl_X7_35 : pj_FL RX7 35 12 7 false := ⟨rfl, by decide, by decide, RX7, TX7, rfl, rfl, rfl, pj_tw1 (List.mem_of_getElem? (i := 98) rfl) rfl, _, tyX7_ok 7 (by decide), pj_tyb_ok rfl⟩
theorem fl_X11_188 : pj_FL RX11 188 12 7 false := ⟨rfl, by decide, by decide, RX7, TX7, rfl, rfl, rfl, pj_tw1 (List.mem_of_getElem? (i := 99) rfl) rfl, _, tyX7_ok 7 (by decide), pj_tyb_ok rfl⟩
theorem fl_X7_65 : pj_FL RX7 65 12 8 false := ⟨rfl, by decide, by decide, RX7, TX7, rfl, rfl, rfl, pj_tw1 (List.mem_of_getElem? (i := 100) rfl) rfl, _, tyX7_ok 8 (by decide), pj_tyb_ok rfl⟩
theorem fl_X7_70 : pj_FL RX7 70 12 9 false := ⟨rfl, by decide, by decide, RX7, TX7, rfl, rfl, rfl, pj_tw1 (List.mem_of_getElem? (i := 101) rfl) rfl, _, tyX7_ok 9 (by decide), pj_tyb_ok rfl⟩
theorem fl_X7_67 : pj_FL RX7 67 12 10 false := ⟨rfl, by decide, by decide, RX7, TX7, rfl, rfl, rfl, pj_tw1 (List.mem_of_getElem? (i := 102) rfl) rfl, _, tyX7_ok 10 (by decide), pj_tyb_ok rfl⟩
theorem fl_X7_73 : pj_FL RX7 73 12 11 false := ⟨rfl, by decide, by decide, RX7, TX7, rfl, rfl, rfl, pj_tw1 (List.mem_of_getElem? (i := 103) rfl) rfl, _, tyX7_ok 11 (by decide), pj_tyb_ok rfl⟩
theorem kl_X11_22 : Cond.classLink RX11 22 RX1 ∈ pj_T := pj_tw1 (List.mem_of_getElem? (i := 132) rfl) rfl
theorem ml_X11_24 : Cond.methodLink RX11 24 yX1_init ∈ pj_T := pj_tw1 (List.mem_of_getElem? (i := 134) rfl) rfl
theorem ml_X1_3 : Cond.methodLink RX1 3 objectInit ∈ pj_T := pj_tw1 (List.mem_of_getElem? (i := 137) rfl) rfl
theorem fl_X1_9 : pj_FL RX1 9 13 0 true := ⟨rfl, by decide, by decide, RX1, TX1, rfl, rfl, rfl, pj_tw1 (List.mem_of_getElem? (i := 138) rfl) rfl, _, tyX1_ok 0 (by decide), pj_tyb_ok rfl⟩
theorem fl_X1_15 : pj_FL RX1 15 13 1 false := ⟨rfl, by decide, by decide, RX1, TX1, rfl, rfl, rfl, pj_tw1 (List.mem_of_getElem? (i := 139) rfl) rfl, _, tyX1_ok 1 (by decide), pj_tyb_ok rfl⟩
theorem fl_X1_24 : pj_FL RX1 24 13 2 false := ⟨rfl, by decide, by decide, RX1, TX1, rfl, rfl, rfl, pj_tw1 (List.mem_of_getElem? (i := 140) rfl) rfl, _, tyX1_ok 2 (by decide), pj_tyb_ok rfl⟩
theorem kl_X11_31 : Cond.classLink RX11 31 RX3 ∈ pj_T := pj_tw1 (List.mem_of_getElem? (i := 148) rfl) rfl
theorem ml_X11_33 : Cond.methodLink RX11 33 yX3_init ∈ pj_T := pj_tw1 (List.mem_of_getElem? (i := 150) rfl) rfl
theorem ml_X3_3 : Cond.methodLink RX3 3 objectInit ∈ pj_T := pj_tw1 (List.mem_of_getElem? (i := 153) rfl) rfl
theorem fl_X3_15 : pj_FL RX3 15 14 0 true := ⟨rfl, by decide, by decide, RX3, TX3, rfl, rfl, rfl, pj_tw1 (List.mem_of_getElem? (i := 154) rfl) rfl, _, tyX3_ok 0 (by decide), pj_tyb_ok rfl⟩
theorem fl_X3_11 : pj_FL RX3 11 14 1 true := ⟨rfl, by decide, by decide, RX3, TX3, rfl, rfl, rfl, pj_tw1 (List.mem_of_getElem? (i := 155) rfl) rfl, _, tyX3_ok 1 (by decide), pj_tyb_ok rfl⟩
theorem fl_X3_32 : pj_FL RX3 32 14 2 false := ⟨rfl, by decide, by decide, RX3, TX3, rfl, rfl, rfl, pj_tw1 (List.mem_of_getElem? (i := 156) rfl) rfl, _, tyX3_ok 2 (by decide), pj_tyb_ok rfl⟩
theorem fl_X3_19 : pj_FL RX3 19 14 3 false := ⟨rfl, by decide, by decide, RX3, TX3, rfl, rfl, rfl, pj_tw1 (List.mem_of_getElem? (i := 157) rfl) rfl, _, tyX3_ok 3 (by decide), pj_tyb_ok rfl⟩
theorem fl_X3_23 : pj_FL RX3 23 14 4 false := ⟨rfl, by decide, by decide, RX3, TX3, rfl, rfl, rfl, pj_tw1 (List.mem_of_getElem? (i := 158) rfl) rfl, _, tyX3_ok 4 (by decide), pj_tyb_ok rfl⟩
theorem kl_X11_38 : Cond.classLink RX11 38 RX2 ∈ pj_T := pj_tw1 (List.mem_of_getElem? (i := 170) rfl) rfl
theorem kl_X11_44 : Cond.classLink RX11 44 RX0 ∈ pj_T := pj_tw1 (List.mem_of_getElem? (i := 172) rfl) rfl
theorem kl_X11_50 : Cond.classLink RX11 50 RX8 ∈ pj_T := pj_tw1 (List.mem_of_getElem? (i := 174) rfl) rfl
theorem ml_X8_3 : Cond.methodLink RX8 3 objectInit ∈ pj_T := pj_tw1 (List.mem_of_getElem? (i := 179) rfl) rfl
theorem fl_X8_11 : pj_FL RX8 11 17 0 true := ⟨rfl, by decide, by decide, RX8, TX8, rfl, rfl, rfl, pj_tw1 (List.mem_of_getElem? (i := 180) rfl) rfl, _, tyX8_ok 0 (by decide), pj_tyb_ok rfl⟩
theorem fl_X8_15 : pj_FL RX8 15 17 1 true := ⟨rfl, by decide, by decide, RX8, TX8, rfl, rfl, rfl, pj_tw1 (List.mem_of_getElem? (i := 181) rfl) rfl, _, tyX8_ok 1 (by decide), pj_tyb_ok rfl⟩
theorem fl_X8_18 : pj_FL RX8 18 17 2 true := ⟨rfl, by decide, by decide, RX8, TX8, rfl, rfl, rfl, pj_tw1 (List.mem_of_getElem? (i := 182) rfl) rfl, _, tyX8_ok 2 (by decide), pj_tyb_ok rfl⟩
theorem fl_X8_21 : pj_FL RX8 21 17 3 true := ⟨rfl, by decide, by decide, RX8, TX8, rfl, rfl, rfl, pj_tw1 (List.mem_of_getElem? (i := 183) rfl) rfl, _, tyX8_ok 3 (by decide), pj_tyb_ok rfl⟩
theorem fl_X8_24 : pj_FL RX8 24 17 4 true := ⟨rfl, by decide, by decide, RX8, TX8, rfl, rfl, rfl, pj_tw1 (List.mem_of_getElem? (i := 184) rfl) rfl, _, tyX8_ok 4 (by decide), pj_tyb_ok rfl⟩
theorem fl_X8_27 : pj_FL RX8 27 17 5 true := ⟨rfl, by decide, by decide, RX8, TX8, rfl, rfl, rfl, pj_tw1 (List.mem_of_getElem? (i := 185) rfl) rfl, _, tyX8_ok 5 (by decide), pj_tyb_ok rfl⟩
theorem fl_X11_335 : pj_FL RX11 335 17 5 true := ⟨rfl, by decide, by decide, RX8, TX8, rfl, rfl, rfl, pj_tw1 (List.mem_of_getElem? (i := 186) rfl) rfl, _, tyX8_ok 5 (by decide), pj_tyb_ok rfl⟩
theorem fl_X8_132 : pj_FL RX8 132 17 6 false := ⟨rfl, by decide, by decide, RX8, TX8, rfl, rfl, rfl, pj_tw1 (List.mem_of_getElem? (i := 187) rfl) rfl, _, tyX8_ok 6 (by decide), pj_tyb_ok rfl⟩
theorem fl_X11_332 : pj_FL RX11 332 17 6 false := ⟨rfl, by decide, by decide, RX8, TX8, rfl, rfl, rfl, pj_tw1 (List.mem_of_getElem? (i := 188) rfl) rfl, _, tyX8_ok 6 (by decide), pj_tyb_ok rfl⟩
theorem fl_X8_38 : pj_FL RX8 38 17 7 false := ⟨rfl, by decide, by decide, RX8, TX8, rfl, rfl, rfl, pj_tw1 (List.mem_of_getElem? (i := 189) rfl) rfl, _, tyX8_ok 7 (by decide), pj_tyb_ok rfl⟩
theorem fl_X8_46 : pj_FL RX8 46 17 8 false := ⟨rfl, by decide, by decide, RX8, TX8, rfl, rfl, rfl, pj_tw1 (List.mem_of_getElem? (i := 190) rfl) rfl, _, tyX8_ok 8 (by decide), pj_tyb_ok rfl⟩
theorem fl_X8_50 : pj_FL RX8 50 17 9 false := ⟨rfl, by decide, by decide, RX8, TX8, rfl, rfl, rfl, pj_tw1 (List.mem_of_getElem? (i := 191) rfl) rfl, _, tyX8_ok 9 (by decide), pj_tyb_ok rfl⟩
theorem fl_X8_54 : pj_FL RX8 54 17 10 false := ⟨rfl, by decide, by decide, RX8, TX8, rfl, rfl, rfl, pj_tw1 (List.mem_of_getElem? (i := 192) rfl) rfl, _, tyX8_ok 10 (by decide), pj_tyb_ok rfl⟩
theorem kl_X11_57 : Cond.classLink RX11 57 RX6 ∈ pj_T := pj_tw1 (List.mem_of_getElem? (i := 216) rfl) rfl
theorem ml_X6_3 : Cond.methodLink RX6 3 objectInit ∈ pj_T := pj_tw1 (List.mem_of_getElem? (i := 221) rfl) rfl
theorem fl_X6_11 : pj_FL RX6 11 18 0 true := ⟨rfl, by decide, by decide, RX6, TX6, rfl, rfl, rfl, pj_tw1 (List.mem_of_getElem? (i := 222) rfl) rfl, _, tyX6_ok 0 (by decide), pj_tyb_ok rfl⟩
theorem fl_X11_390 : pj_FL RX11 390 18 0 true := ⟨rfl, by decide, by decide, RX6, TX6, rfl, rfl, rfl, pj_tw1 (List.mem_of_getElem? (i := 223) rfl) rfl, _, tyX6_ok 0 (by decide), pj_tyb_ok rfl⟩
theorem fl_X6_17 : pj_FL RX6 17 18 1 true := ⟨rfl, by decide, by decide, RX6, TX6, rfl, rfl, rfl, pj_tw1 (List.mem_of_getElem? (i := 224) rfl) rfl, _, tyX6_ok 1 (by decide), pj_tyb_ok rfl⟩
theorem fl_X6_20 : pj_FL RX6 20 18 2 false := ⟨rfl, by decide, by decide, RX6, TX6, rfl, rfl, rfl, pj_tw1 (List.mem_of_getElem? (i := 225) rfl) rfl, _, tyX6_ok 2 (by decide), pj_tyb_ok rfl⟩
theorem fl_X6_24 : pj_FL RX6 24 18 3 false := ⟨rfl, by decide, by decide, RX6, TX6, rfl, rfl, rfl, pj_tw1 (List.mem_of_getElem? (i := 226) rfl) rfl, _, tyX6_ok 3 (by decide), pj_tyb_ok rfl⟩
theorem fl_X6_28 : pj_FL RX6 28 18 4 false := ⟨rfl, by decide, by decide, RX6, TX6, rfl, rfl, rfl, pj_tw1 (List.mem_of_getElem? (i := 227) rfl) rfl, _, tyX6_ok 4 (by decide), pj_tyb_ok rfl⟩
theorem ml_X11_68 : Cond.methodLink RX11 68 yX0_init ∈ pj_T := pj_tw2 (List.mem_of_getElem? (i := 0) rfl) rfl
theorem ml_X0_3 : Cond.methodLink RX0 3 objectInit ∈ pj_T := pj_tw2 (List.mem_of_getElem? (i := 3) rfl) rfl
theorem kl_X0_11 : Cond.classLink RX0 11 RX5 ∈ pj_T := pj_tw2 (List.mem_of_getElem? (i := 4) rfl) rfl
theorem kl_X0_17 : Cond.classLink RX0 17 RX4 ∈ pj_T := pj_tw2 (List.mem_of_getElem? (i := 6) rfl) rfl
theorem ml_X5_1 : Cond.methodLink RX5 1 objectInit ∈ pj_T := pj_tw2 (List.mem_of_getElem? (i := 12) rfl) rfl
theorem fl_X5_7 : pj_FL RX5 7 22 0 false := ⟨rfl, by decide, by decide, RX5, TX5, rfl, rfl, rfl, pj_tw2 (List.mem_of_getElem? (i := 13) rfl) rfl, _, tyX5_ok 0 (by decide), pj_tyb_ok rfl⟩
theorem fl_X0_60 : pj_FL RX0 60 22 0 false := ⟨rfl, by decide, by decide, RX5, TX5, rfl, rfl, rfl, pj_tw2 (List.mem_of_getElem? (i := 14) rfl) rfl, _, tyX5_ok 0 (by decide), pj_tyb_ok rfl⟩
theorem fl_X5_13 : pj_FL RX5 13 22 1 false := ⟨rfl, by decide, by decide, RX5, TX5, rfl, rfl, rfl, pj_tw2 (List.mem_of_getElem? (i := 15) rfl) rfl, _, tyX5_ok 1 (by decide), pj_tyb_ok rfl⟩
theorem fl_X8_55 : pj_FL RX8 55 22 1 false := ⟨rfl, by decide, by decide, RX5, TX5, rfl, rfl, rfl, pj_tw2 (List.mem_of_getElem? (i := 16) rfl) rfl, _, tyX5_ok 1 (by decide), pj_tyb_ok rfl⟩
theorem fl_X0_64 : pj_FL RX0 64 22 1 false := ⟨rfl, by decide, by decide, RX5, TX5, rfl, rfl, rfl, pj_tw2 (List.mem_of_getElem? (i := 17) rfl) rfl, _, tyX5_ok 1 (by decide), pj_tyb_ok rfl⟩
theorem fl_X11_220 : pj_FL RX11 220 22 1 false := ⟨rfl, by decide, by decide, RX5, TX5, rfl, rfl, rfl, pj_tw2 (List.mem_of_getElem? (i := 18) rfl) rfl, _, tyX5_ok 1 (by decide), pj_tyb_ok rfl⟩
theorem fl_X5_17 : pj_FL RX5 17 22 2 false := ⟨rfl, by decide, by decide, RX5, TX5, rfl, rfl, rfl, pj_tw2 (List.mem_of_getElem? (i := 19) rfl) rfl, _, tyX5_ok 2 (by decide), pj_tyb_ok rfl⟩
theorem fl_X8_41 : pj_FL RX8 41 22 2 false := ⟨rfl, by decide, by decide, RX5, TX5, rfl, rfl, rfl, pj_tw2 (List.mem_of_getElem? (i := 20) rfl) rfl, _, tyX5_ok 2 (by decide), pj_tyb_ok rfl⟩
theorem fl_X0_67 : pj_FL RX0 67 22 2 false := ⟨rfl, by decide, by decide, RX5, TX5, rfl, rfl, rfl, pj_tw2 (List.mem_of_getElem? (i := 21) rfl) rfl, _, tyX5_ok 2 (by decide), pj_tyb_ok rfl⟩
theorem fl_X11_225 : pj_FL RX11 225 22 2 false := ⟨rfl, by decide, by decide, RX5, TX5, rfl, rfl, rfl, pj_tw2 (List.mem_of_getElem? (i := 22) rfl) rfl, _, tyX5_ok 2 (by decide), pj_tyb_ok rfl⟩
theorem fl_X5_20 : pj_FL RX5 20 22 3 false := ⟨rfl, by decide, by decide, RX5, TX5, rfl, rfl, rfl, pj_tw2 (List.mem_of_getElem? (i := 23) rfl) rfl, _, tyX5_ok 3 (by decide), pj_tyb_ok rfl⟩
theorem fl_X8_51 : pj_FL RX8 51 22 3 false := ⟨rfl, by decide, by decide, RX5, TX5, rfl, rfl, rfl, pj_tw2 (List.mem_of_getElem? (i := 24) rfl) rfl, _, tyX5_ok 3 (by decide), pj_tyb_ok rfl⟩
theorem fl_X0_70 : pj_FL RX0 70 22 3 false := ⟨rfl, by decide, by decide, RX5, TX5, rfl, rfl, rfl, pj_tw2 (List.mem_of_getElem? (i := 25) rfl) rfl, _, tyX5_ok 3 (by decide), pj_tyb_ok rfl⟩
theorem fl_X11_228 : pj_FL RX11 228 22 3 false := ⟨rfl, by decide, by decide, RX5, TX5, rfl, rfl, rfl, pj_tw2 (List.mem_of_getElem? (i := 26) rfl) rfl, _, tyX5_ok 3 (by decide), pj_tyb_ok rfl⟩
theorem fl_X8_47 : pj_FL RX8 47 22 4 false := ⟨rfl, by decide, by decide, RX5, TX5, rfl, rfl, rfl, pj_tw2 (List.mem_of_getElem? (i := 27) rfl) rfl, _, tyX5_ok 4 (by decide), pj_tyb_ok rfl⟩
theorem fl_X5_23 : pj_FL RX5 23 22 4 false := ⟨rfl, by decide, by decide, RX5, TX5, rfl, rfl, rfl, pj_tw2 (List.mem_of_getElem? (i := 28) rfl) rfl, _, tyX5_ok 4 (by decide), pj_tyb_ok rfl⟩
theorem fl_X0_73 : pj_FL RX0 73 22 4 false := ⟨rfl, by decide, by decide, RX5, TX5, rfl, rfl, rfl, pj_tw2 (List.mem_of_getElem? (i := 29) rfl) rfl, _, tyX5_ok 4 (by decide), pj_tyb_ok rfl⟩
theorem fl_X11_231 : pj_FL RX11 231 22 4 false := ⟨rfl, by decide, by decide, RX5, TX5, rfl, rfl, rfl, pj_tw2 (List.mem_of_getElem? (i := 30) rfl) rfl, _, tyX5_ok 4 (by decide), pj_tyb_ok rfl⟩
theorem fl_X5_26 : pj_FL RX5 26 22 5 false := ⟨rfl, by decide, by decide, RX5, TX5, rfl, rfl, rfl, pj_tw2 (List.mem_of_getElem? (i := 31) rfl) rfl, _, tyX5_ok 5 (by decide), pj_tyb_ok rfl⟩
theorem fl_X0_76 : pj_FL RX0 76 22 5 false := ⟨rfl, by decide, by decide, RX5, TX5, rfl, rfl, rfl, pj_tw2 (List.mem_of_getElem? (i := 32) rfl) rfl, _, tyX5_ok 5 (by decide), pj_tyb_ok rfl⟩
theorem fl_X11_234 : pj_FL RX11 234 22 5 false := ⟨rfl, by decide, by decide, RX5, TX5, rfl, rfl, rfl, pj_tw2 (List.mem_of_getElem? (i := 33) rfl) rfl, _, tyX5_ok 5 (by decide), pj_tyb_ok rfl⟩
theorem ml_X4_3 : Cond.methodLink RX4 3 objectInit ∈ pj_T := pj_tw2 (List.mem_of_getElem? (i := 51) rfl) rfl
theorem fl_X4_11 : pj_FL RX4 11 23 0 true := ⟨rfl, by decide, by decide, RX4, TX4, rfl, rfl, rfl, pj_tw2 (List.mem_of_getElem? (i := 52) rfl) rfl, _, tyX4_ok 0 (by decide), pj_tyb_ok rfl⟩
theorem fl_X0_133 : pj_FL RX0 133 23 0 true := ⟨rfl, by decide, by decide, RX4, TX4, rfl, rfl, rfl, pj_tw2 (List.mem_of_getElem? (i := 53) rfl) rfl, _, tyX4_ok 0 (by decide), pj_tyb_ok rfl⟩
theorem fl_X11_253 : pj_FL RX11 253 23 0 true := ⟨rfl, by decide, by decide, RX4, TX4, rfl, rfl, rfl, pj_tw2 (List.mem_of_getElem? (i := 54) rfl) rfl, _, tyX4_ok 0 (by decide), pj_tyb_ok rfl⟩
theorem fl_X4_17 : pj_FL RX4 17 23 1 true := ⟨rfl, by decide, by decide, RX4, TX4, rfl, rfl, rfl, pj_tw2 (List.mem_of_getElem? (i := 55) rfl) rfl, _, tyX4_ok 1 (by decide), pj_tyb_ok rfl⟩
theorem fl_X0_125 : pj_FL RX0 125 23 1 true := ⟨rfl, by decide, by decide, RX4, TX4, rfl, rfl, rfl, pj_tw2 (List.mem_of_getElem? (i := 56) rfl) rfl, _, tyX4_ok 1 (by decide), pj_tyb_ok rfl⟩
theorem fl_X11_256 : pj_FL RX11 256 23 1 true := ⟨rfl, by decide, by decide, RX4, TX4, rfl, rfl, rfl, pj_tw2 (List.mem_of_getElem? (i := 57) rfl) rfl, _, tyX4_ok 1 (by decide), pj_tyb_ok rfl⟩
theorem fl_X4_20 : pj_FL RX4 20 23 2 false := ⟨rfl, by decide, by decide, RX4, TX4, rfl, rfl, rfl, pj_tw2 (List.mem_of_getElem? (i := 58) rfl) rfl, _, tyX4_ok 2 (by decide), pj_tyb_ok rfl⟩
theorem fl_X0_79 : pj_FL RX0 79 23 2 false := ⟨rfl, by decide, by decide, RX4, TX4, rfl, rfl, rfl, pj_tw2 (List.mem_of_getElem? (i := 59) rfl) rfl, _, tyX4_ok 2 (by decide), pj_tyb_ok rfl⟩
theorem fl_X4_24 : pj_FL RX4 24 23 3 false := ⟨rfl, by decide, by decide, RX4, TX4, rfl, rfl, rfl, pj_tw2 (List.mem_of_getElem? (i := 60) rfl) rfl, _, tyX4_ok 3 (by decide), pj_tyb_ok rfl⟩
theorem fl_X8_62 : pj_FL RX8 62 23 3 false := ⟨rfl, by decide, by decide, RX4, TX4, rfl, rfl, rfl, pj_tw2 (List.mem_of_getElem? (i := 61) rfl) rfl, _, tyX4_ok 3 (by decide), pj_tyb_ok rfl⟩
theorem fl_X0_80 : pj_FL RX0 80 23 3 false := ⟨rfl, by decide, by decide, RX4, TX4, rfl, rfl, rfl, pj_tw2 (List.mem_of_getElem? (i := 62) rfl) rfl, _, tyX4_ok 3 (by decide), pj_tyb_ok rfl⟩
theorem fl_X11_241 : pj_FL RX11 241 23 3 false := ⟨rfl, by decide, by decide, RX4, TX4, rfl, rfl, rfl, pj_tw2 (List.mem_of_getElem? (i := 63) rfl) rfl, _, tyX4_ok 3 (by decide), pj_tyb_ok rfl⟩
theorem fl_X4_28 : pj_FL RX4 28 23 4 false := ⟨rfl, by decide, by decide, RX4, TX4, rfl, rfl, rfl, pj_tw2 (List.mem_of_getElem? (i := 64) rfl) rfl, _, tyX4_ok 4 (by decide), pj_tyb_ok rfl⟩
theorem fl_X8_65 : pj_FL RX8 65 23 4 false := ⟨rfl, by decide, by decide, RX4, TX4, rfl, rfl, rfl, pj_tw2 (List.mem_of_getElem? (i := 65) rfl) rfl, _, tyX4_ok 4 (by decide), pj_tyb_ok rfl⟩
theorem fl_X0_81 : pj_FL RX0 81 23 4 false := ⟨rfl, by decide, by decide, RX4, TX4, rfl, rfl, rfl, pj_tw2 (List.mem_of_getElem? (i := 66) rfl) rfl, _, tyX4_ok 4 (by decide), pj_tyb_ok rfl⟩
theorem fl_X11_244 : pj_FL RX11 244 23 4 false := ⟨rfl, by decide, by decide, RX4, TX4, rfl, rfl, rfl, pj_tw2 (List.mem_of_getElem? (i := 67) rfl) rfl, _, tyX4_ok 4 (by decide), pj_tyb_ok rfl⟩
theorem fl_X4_31 : pj_FL RX4 31 23 5 false := ⟨rfl, by decide, by decide, RX4, TX4, rfl, rfl, rfl, pj_tw2 (List.mem_of_getElem? (i := 68) rfl) rfl, _, tyX4_ok 5 (by decide), pj_tyb_ok rfl⟩
theorem fl_X8_68 : pj_FL RX8 68 23 5 false := ⟨rfl, by decide, by decide, RX4, TX4, rfl, rfl, rfl, pj_tw2 (List.mem_of_getElem? (i := 69) rfl) rfl, _, tyX4_ok 5 (by decide), pj_tyb_ok rfl⟩
theorem fl_X0_84 : pj_FL RX0 84 23 5 false := ⟨rfl, by decide, by decide, RX4, TX4, rfl, rfl, rfl, pj_tw2 (List.mem_of_getElem? (i := 70) rfl) rfl, _, tyX4_ok 5 (by decide), pj_tyb_ok rfl⟩
theorem fl_X6_141 : pj_FL RX6 141 23 5 false := ⟨rfl, by decide, by decide, RX4, TX4, rfl, rfl, rfl, pj_tw2 (List.mem_of_getElem? (i := 71) rfl) rfl, _, tyX4_ok 5 (by decide), pj_tyb_ok rfl⟩
theorem fl_X11_287 : pj_FL RX11 287 23 5 false := ⟨rfl, by decide, by decide, RX4, TX4, rfl, rfl, rfl, pj_tw2 (List.mem_of_getElem? (i := 72) rfl) rfl, _, tyX4_ok 5 (by decide), pj_tyb_ok rfl⟩
theorem fl_X4_35 : pj_FL RX4 35 23 6 false := ⟨rfl, by decide, by decide, RX4, TX4, rfl, rfl, rfl, pj_tw2 (List.mem_of_getElem? (i := 73) rfl) rfl, _, tyX4_ok 6 (by decide), pj_tyb_ok rfl⟩
theorem fl_X0_88 : pj_FL RX0 88 23 6 false := ⟨rfl, by decide, by decide, RX4, TX4, rfl, rfl, rfl, pj_tw2 (List.mem_of_getElem? (i := 74) rfl) rfl, _, tyX4_ok 6 (by decide), pj_tyb_ok rfl⟩
theorem fl_X6_145 : pj_FL RX6 145 23 6 false := ⟨rfl, by decide, by decide, RX4, TX4, rfl, rfl, rfl, pj_tw2 (List.mem_of_getElem? (i := 75) rfl) rfl, _, tyX4_ok 6 (by decide), pj_tyb_ok rfl⟩
theorem fl_X11_247 : pj_FL RX11 247 23 6 false := ⟨rfl, by decide, by decide, RX4, TX4, rfl, rfl, rfl, pj_tw2 (List.mem_of_getElem? (i := 76) rfl) rfl, _, tyX4_ok 6 (by decide), pj_tyb_ok rfl⟩
theorem ml_X0_25 : Cond.methodLink RX0 25 yX0_clear ∈ pj_T := pj_tw2 (List.mem_of_getElem? (i := 92) rfl) rfl
theorem fl_X0_13 : pj_FL RX0 13 19 0 true := ⟨rfl, by decide, by decide, RX0, TX0, rfl, rfl, rfl, pj_tw2 (List.mem_of_getElem? (i := 96) rfl) rfl, _, tyX0_ok 0 (by decide), pj_tyb_ok rfl⟩
theorem fl_X0_19 : pj_FL RX0 19 19 1 true := ⟨rfl, by decide, by decide, RX0, TX0, rfl, rfl, rfl, pj_tw2 (List.mem_of_getElem? (i := 97) rfl) rfl, _, tyX0_ok 1 (by decide), pj_tyb_ok rfl⟩
theorem fl_X8_58 : pj_FL RX8 58 19 1 true := ⟨rfl, by decide, by decide, RX0, TX0, rfl, rfl, rfl, pj_tw2 (List.mem_of_getElem? (i := 98) rfl) rfl, _, tyX0_ok 1 (by decide), pj_tyb_ok rfl⟩
theorem fl_X11_303 : pj_FL RX11 303 19 1 true := ⟨rfl, by decide, by decide, RX0, TX0, rfl, rfl, rfl, pj_tw2 (List.mem_of_getElem? (i := 99) rfl) rfl, _, tyX0_ok 1 (by decide), pj_tyb_ok rfl⟩
theorem fl_X0_28 : pj_FL RX0 28 19 2 false := ⟨rfl, by decide, by decide, RX0, TX0, rfl, rfl, rfl, pj_tw2 (List.mem_of_getElem? (i := 100) rfl) rfl, _, tyX0_ok 2 (by decide), pj_tyb_ok rfl⟩
theorem fl_X1_46 : pj_FL RX1 46 19 2 false := ⟨rfl, by decide, by decide, RX0, TX0, rfl, rfl, rfl, pj_tw2 (List.mem_of_getElem? (i := 101) rfl) rfl, _, tyX0_ok 2 (by decide), pj_tyb_ok rfl⟩
theorem fl_X3_119 : pj_FL RX3 119 19 2 false := ⟨rfl, by decide, by decide, RX0, TX0, rfl, rfl, rfl, pj_tw2 (List.mem_of_getElem? (i := 102) rfl) rfl, _, tyX0_ok 2 (by decide), pj_tyb_ok rfl⟩
theorem fl_X11_191 : pj_FL RX11 191 19 2 false := ⟨rfl, by decide, by decide, RX0, TX0, rfl, rfl, rfl, pj_tw2 (List.mem_of_getElem? (i := 103) rfl) rfl, _, tyX0_ok 2 (by decide), pj_tyb_ok rfl⟩
theorem fl_X0_32 : pj_FL RX0 32 19 3 false := ⟨rfl, by decide, by decide, RX0, TX0, rfl, rfl, rfl, pj_tw2 (List.mem_of_getElem? (i := 104) rfl) rfl, _, tyX0_ok 3 (by decide), pj_tyb_ok rfl⟩
theorem fl_X8_77 : pj_FL RX8 77 19 3 false := ⟨rfl, by decide, by decide, RX0, TX0, rfl, rfl, rfl, pj_tw2 (List.mem_of_getElem? (i := 105) rfl) rfl, _, tyX0_ok 3 (by decide), pj_tyb_ok rfl⟩
theorem fl_X1_50 : pj_FL RX1 50 19 3 false := ⟨rfl, by decide, by decide, RX0, TX0, rfl, rfl, rfl, pj_tw2 (List.mem_of_getElem? (i := 106) rfl) rfl, _, tyX0_ok 3 (by decide), pj_tyb_ok rfl⟩
theorem fl_X11_197 : pj_FL RX11 197 19 3 false := ⟨rfl, by decide, by decide, RX0, TX0, rfl, rfl, rfl, pj_tw2 (List.mem_of_getElem? (i := 107) rfl) rfl, _, tyX0_ok 3 (by decide), pj_tyb_ok rfl⟩
theorem fl_X0_35 : pj_FL RX0 35 19 4 false := ⟨rfl, by decide, by decide, RX0, TX0, rfl, rfl, rfl, pj_tw2 (List.mem_of_getElem? (i := 108) rfl) rfl, _, tyX0_ok 4 (by decide), pj_tyb_ok rfl⟩
theorem fl_X1_57 : pj_FL RX1 57 19 4 false := ⟨rfl, by decide, by decide, RX0, TX0, rfl, rfl, rfl, pj_tw2 (List.mem_of_getElem? (i := 109) rfl) rfl, _, tyX0_ok 4 (by decide), pj_tyb_ok rfl⟩
theorem fl_X11_200 : pj_FL RX11 200 19 4 false := ⟨rfl, by decide, by decide, RX0, TX0, rfl, rfl, rfl, pj_tw2 (List.mem_of_getElem? (i := 110) rfl) rfl, _, tyX0_ok 4 (by decide), pj_tyb_ok rfl⟩
theorem fl_X0_38 : pj_FL RX0 38 19 5 false := ⟨rfl, by decide, by decide, RX0, TX0, rfl, rfl, rfl, pj_tw2 (List.mem_of_getElem? (i := 111) rfl) rfl, _, tyX0_ok 5 (by decide), pj_tyb_ok rfl⟩
theorem fl_X1_124 : pj_FL RX1 124 19 5 false := ⟨rfl, by decide, by decide, RX0, TX0, rfl, rfl, rfl, pj_tw2 (List.mem_of_getElem? (i := 112) rfl) rfl, _, tyX0_ok 5 (by decide), pj_tyb_ok rfl⟩
theorem fl_X11_203 : pj_FL RX11 203 19 5 false := ⟨rfl, by decide, by decide, RX0, TX0, rfl, rfl, rfl, pj_tw2 (List.mem_of_getElem? (i := 113) rfl) rfl, _, tyX0_ok 5 (by decide), pj_tyb_ok rfl⟩
theorem fl_X0_41 : pj_FL RX0 41 19 6 false := ⟨rfl, by decide, by decide, RX0, TX0, rfl, rfl, rfl, pj_tw2 (List.mem_of_getElem? (i := 114) rfl) rfl, _, tyX0_ok 6 (by decide), pj_tyb_ok rfl⟩
theorem fl_X11_206 : pj_FL RX11 206 19 6 false := ⟨rfl, by decide, by decide, RX0, TX0, rfl, rfl, rfl, pj_tw2 (List.mem_of_getElem? (i := 115) rfl) rfl, _, tyX0_ok 6 (by decide), pj_tyb_ok rfl⟩
theorem fl_X0_44 : pj_FL RX0 44 19 7 false := ⟨rfl, by decide, by decide, RX0, TX0, rfl, rfl, rfl, pj_tw2 (List.mem_of_getElem? (i := 116) rfl) rfl, _, tyX0_ok 7 (by decide), pj_tyb_ok rfl⟩
theorem fl_X1_80 : pj_FL RX1 80 19 7 false := ⟨rfl, by decide, by decide, RX0, TX0, rfl, rfl, rfl, pj_tw2 (List.mem_of_getElem? (i := 117) rfl) rfl, _, tyX0_ok 7 (by decide), pj_tyb_ok rfl⟩
theorem fl_X11_194 : pj_FL RX11 194 19 7 false := ⟨rfl, by decide, by decide, RX0, TX0, rfl, rfl, rfl, pj_tw2 (List.mem_of_getElem? (i := 118) rfl) rfl, _, tyX0_ok 7 (by decide), pj_tyb_ok rfl⟩
theorem fl_X8_34 : pj_FL RX8 34 19 8 false := ⟨rfl, by decide, by decide, RX0, TX0, rfl, rfl, rfl, pj_tw2 (List.mem_of_getElem? (i := 119) rfl) rfl, _, tyX0_ok 8 (by decide), pj_tyb_ok rfl⟩
theorem fl_X0_47 : pj_FL RX0 47 19 8 false := ⟨rfl, by decide, by decide, RX0, TX0, rfl, rfl, rfl, pj_tw2 (List.mem_of_getElem? (i := 120) rfl) rfl, _, tyX0_ok 8 (by decide), pj_tyb_ok rfl⟩
theorem fl_X1_96 : pj_FL RX1 96 19 8 false := ⟨rfl, by decide, by decide, RX0, TX0, rfl, rfl, rfl, pj_tw2 (List.mem_of_getElem? (i := 121) rfl) rfl, _, tyX0_ok 8 (by decide), pj_tyb_ok rfl⟩
theorem fl_X6_116 : pj_FL RX6 116 19 8 false := ⟨rfl, by decide, by decide, RX0, TX0, rfl, rfl, rfl, pj_tw2 (List.mem_of_getElem? (i := 122) rfl) rfl, _, tyX0_ok 8 (by decide), pj_tyb_ok rfl⟩
theorem fl_X11_175 : pj_FL RX11 175 19 8 false := ⟨rfl, by decide, by decide, RX0, TX0, rfl, rfl, rfl, pj_tw2 (List.mem_of_getElem? (i := 123) rfl) rfl, _, tyX0_ok 8 (by decide), pj_tyb_ok rfl⟩
theorem fl_X0_50 : pj_FL RX0 50 19 9 false := ⟨rfl, by decide, by decide, RX0, TX0, rfl, rfl, rfl, pj_tw2 (List.mem_of_getElem? (i := 124) rfl) rfl, _, tyX0_ok 9 (by decide), pj_tyb_ok rfl⟩
theorem fl_X11_93 : pj_FL RX11 93 19 9 false := ⟨rfl, by decide, by decide, RX0, TX0, rfl, rfl, rfl, pj_tw2 (List.mem_of_getElem? (i := 125) rfl) rfl, _, tyX0_ok 9 (by decide), pj_tyb_ok rfl⟩
theorem fl_X6_126 : pj_FL RX6 126 19 9 false := ⟨rfl, by decide, by decide, RX0, TX0, rfl, rfl, rfl, pj_tw2 (List.mem_of_getElem? (i := 126) rfl) rfl, _, tyX0_ok 9 (by decide), pj_tyb_ok rfl⟩
theorem ml_X2_5 : Cond.methodLink RX2 5 objectInit ∈ pj_T := pj_tw2 (List.mem_of_getElem? (i := 152) rfl) rfl
theorem fl_X2_11 : pj_FL RX2 11 24 0 true := ⟨rfl, by decide, by decide, RX2, TX2, rfl, rfl, rfl, pj_tw2 (List.mem_of_getElem? (i := 153) rfl) rfl, _, tyX2_ok 0 (by decide), pj_tyb_ok rfl⟩
theorem fl_X6_36 : pj_FL RX6 36 24 0 true := ⟨rfl, by decide, by decide, RX2, TX2, rfl, rfl, rfl, pj_tw2 (List.mem_of_getElem? (i := 154) rfl) rfl, _, tyX2_ok 0 (by decide), pj_tyb_ok rfl⟩
theorem fl_X2_15 : pj_FL RX2 15 24 1 true := ⟨rfl, by decide, by decide, RX2, TX2, rfl, rfl, rfl, pj_tw2 (List.mem_of_getElem? (i := 155) rfl) rfl, _, tyX2_ok 1 (by decide), pj_tyb_ok rfl⟩
theorem fl_X6_51 : pj_FL RX6 51 24 1 true := ⟨rfl, by decide, by decide, RX2, TX2, rfl, rfl, rfl, pj_tw2 (List.mem_of_getElem? (i := 156) rfl) rfl, _, tyX2_ok 1 (by decide), pj_tyb_ok rfl⟩
theorem fl_X2_18 : pj_FL RX2 18 24 2 true := ⟨rfl, by decide, by decide, RX2, TX2, rfl, rfl, rfl, pj_tw2 (List.mem_of_getElem? (i := 157) rfl) rfl, _, tyX2_ok 2 (by decide), pj_tyb_ok rfl⟩
theorem fl_X6_54 : pj_FL RX6 54 24 2 true := ⟨rfl, by decide, by decide, RX2, TX2, rfl, rfl, rfl, pj_tw2 (List.mem_of_getElem? (i := 158) rfl) rfl, _, tyX2_ok 2 (by decide), pj_tyb_ok rfl⟩
theorem fl_X2_21 : pj_FL RX2 21 24 3 true := ⟨rfl, by decide, by decide, RX2, TX2, rfl, rfl, rfl, pj_tw2 (List.mem_of_getElem? (i := 159) rfl) rfl, _, tyX2_ok 3 (by decide), pj_tyb_ok rfl⟩
theorem fl_X6_90 : pj_FL RX6 90 24 3 true := ⟨rfl, by decide, by decide, RX2, TX2, rfl, rfl, rfl, pj_tw2 (List.mem_of_getElem? (i := 160) rfl) rfl, _, tyX2_ok 3 (by decide), pj_tyb_ok rfl⟩
theorem fl_X2_24 : pj_FL RX2 24 24 4 true := ⟨rfl, by decide, by decide, RX2, TX2, rfl, rfl, rfl, pj_tw2 (List.mem_of_getElem? (i := 161) rfl) rfl, _, tyX2_ok 4 (by decide), pj_tyb_ok rfl⟩
theorem fl_X6_48 : pj_FL RX6 48 24 4 true := ⟨rfl, by decide, by decide, RX2, TX2, rfl, rfl, rfl, pj_tw2 (List.mem_of_getElem? (i := 162) rfl) rfl, _, tyX2_ok 4 (by decide), pj_tyb_ok rfl⟩
theorem fl_X2_27 : pj_FL RX2 27 24 5 false := ⟨rfl, by decide, by decide, RX2, TX2, rfl, rfl, rfl, pj_tw2 (List.mem_of_getElem? (i := 163) rfl) rfl, _, tyX2_ok 5 (by decide), pj_tyb_ok rfl⟩
theorem fl_X3_65 : pj_FL RX3 65 24 5 false := ⟨rfl, by decide, by decide, RX2, TX2, rfl, rfl, rfl, pj_tw2 (List.mem_of_getElem? (i := 164) rfl) rfl, _, tyX2_ok 5 (by decide), pj_tyb_ok rfl⟩
theorem fl_X11_383 : pj_FL RX11 383 24 5 false := ⟨rfl, by decide, by decide, RX2, TX2, rfl, rfl, rfl, pj_tw2 (List.mem_of_getElem? (i := 165) rfl) rfl, _, tyX2_ok 5 (by decide), pj_tyb_ok rfl⟩
theorem fl_X2_31 : pj_FL RX2 31 24 6 false := ⟨rfl, by decide, by decide, RX2, TX2, rfl, rfl, rfl, pj_tw2 (List.mem_of_getElem? (i := 166) rfl) rfl, _, tyX2_ok 6 (by decide), pj_tyb_ok rfl⟩
theorem fl_X3_79 : pj_FL RX3 79 24 6 false := ⟨rfl, by decide, by decide, RX2, TX2, rfl, rfl, rfl, pj_tw2 (List.mem_of_getElem? (i := 167) rfl) rfl, _, tyX2_ok 6 (by decide), pj_tyb_ok rfl⟩
theorem fl_X11_182 : pj_FL RX11 182 24 6 false := ⟨rfl, by decide, by decide, RX2, TX2, rfl, rfl, rfl, pj_tw2 (List.mem_of_getElem? (i := 168) rfl) rfl, _, tyX2_ok 6 (by decide), pj_tyb_ok rfl⟩
theorem fl_X2_35 : pj_FL RX2 35 24 7 false := ⟨rfl, by decide, by decide, RX2, TX2, rfl, rfl, rfl, pj_tw2 (List.mem_of_getElem? (i := 169) rfl) rfl, _, tyX2_ok 7 (by decide), pj_tyb_ok rfl⟩
theorem fl_X6_33 : pj_FL RX6 33 24 7 false := ⟨rfl, by decide, by decide, RX2, TX2, rfl, rfl, rfl, pj_tw2 (List.mem_of_getElem? (i := 170) rfl) rfl, _, tyX2_ok 7 (by decide), pj_tyb_ok rfl⟩
theorem fl_X3_82 : pj_FL RX3 82 24 7 false := ⟨rfl, by decide, by decide, RX2, TX2, rfl, rfl, rfl, pj_tw2 (List.mem_of_getElem? (i := 171) rfl) rfl, _, tyX2_ok 7 (by decide), pj_tyb_ok rfl⟩
theorem ml_X9_1 : Cond.methodLink RX9 1 objectInit ∈ pj_T := pj_tw2 (List.mem_of_getElem? (i := 193) rfl) rfl
theorem fl_X9_9 : pj_FL RX9 9 25 0 true := ⟨rfl, by decide, by decide, RX9, TX9, rfl, rfl, rfl, pj_tw2 (List.mem_of_getElem? (i := 194) rfl) rfl, _, tyX9_ok 0 (by decide), pj_tyb_ok rfl⟩
theorem fl_X11_145 : pj_FL RX11 145 25 0 true := ⟨rfl, by decide, by decide, RX9, TX9, rfl, rfl, rfl, pj_tw2 (List.mem_of_getElem? (i := 195) rfl) rfl, _, tyX9_ok 0 (by decide), pj_tyb_ok rfl⟩
theorem fl_X9_13 : pj_FL RX9 13 25 1 false := ⟨rfl, by decide, by decide, RX9, TX9, rfl, rfl, rfl, pj_tw2 (List.mem_of_getElem? (i := 196) rfl) rfl, _, tyX9_ok 1 (by decide), pj_tyb_ok rfl⟩
theorem fl_X11_126 : pj_FL RX11 126 25 1 false := ⟨rfl, by decide, by decide, RX9, TX9, rfl, rfl, rfl, pj_tw2 (List.mem_of_getElem? (i := 197) rfl) rfl, _, tyX9_ok 1 (by decide), pj_tyb_ok rfl⟩
theorem fl_X9_17 : pj_FL RX9 17 25 2 false := ⟨rfl, by decide, by decide, RX9, TX9, rfl, rfl, rfl, pj_tw2 (List.mem_of_getElem? (i := 198) rfl) rfl, _, tyX9_ok 2 (by decide), pj_tyb_ok rfl⟩
theorem fl_X11_142 : pj_FL RX11 142 25 2 false := ⟨rfl, by decide, by decide, RX9, TX9, rfl, rfl, rfl, pj_tw2 (List.mem_of_getElem? (i := 199) rfl) rfl, _, tyX9_ok 2 (by decide), pj_tyb_ok rfl⟩
theorem fl_X9_21 : pj_FL RX9 21 25 3 false := ⟨rfl, by decide, by decide, RX9, TX9, rfl, rfl, rfl, pj_tw2 (List.mem_of_getElem? (i := 200) rfl) rfl, _, tyX9_ok 3 (by decide), pj_tyb_ok rfl⟩
theorem fl_X11_11 : pj_FL RX11 11 10 0 true := ⟨rfl, by decide, by decide, RX11, TX11, rfl, rfl, rfl, pj_tw2 (List.mem_of_getElem? (i := 210) rfl) rfl, _, tyX11_ok 0 (by decide), pj_tyb_ok rfl⟩
theorem fl_X11_18 : pj_FL RX11 18 10 1 true := ⟨rfl, by decide, by decide, RX11, TX11, rfl, rfl, rfl, pj_tw2 (List.mem_of_getElem? (i := 211) rfl) rfl, _, tyX11_ok 1 (by decide), pj_tyb_ok rfl⟩
theorem fl_X11_27 : pj_FL RX11 27 10 2 true := ⟨rfl, by decide, by decide, RX11, TX11, rfl, rfl, rfl, pj_tw2 (List.mem_of_getElem? (i := 212) rfl) rfl, _, tyX11_ok 2 (by decide), pj_tyb_ok rfl⟩
theorem fl_X11_34 : pj_FL RX11 34 10 3 true := ⟨rfl, by decide, by decide, RX11, TX11, rfl, rfl, rfl, pj_tw2 (List.mem_of_getElem? (i := 213) rfl) rfl, _, tyX11_ok 3 (by decide), pj_tyb_ok rfl⟩
theorem fl_X11_40 : pj_FL RX11 40 10 4 true := ⟨rfl, by decide, by decide, RX11, TX11, rfl, rfl, rfl, pj_tw2 (List.mem_of_getElem? (i := 214) rfl) rfl, _, tyX11_ok 4 (by decide), pj_tyb_ok rfl⟩
theorem fl_X11_46 : pj_FL RX11 46 10 5 true := ⟨rfl, by decide, by decide, RX11, TX11, rfl, rfl, rfl, pj_tw2 (List.mem_of_getElem? (i := 215) rfl) rfl, _, tyX11_ok 5 (by decide), pj_tyb_ok rfl⟩
theorem fl_X11_53 : pj_FL RX11 53 10 6 true := ⟨rfl, by decide, by decide, RX11, TX11, rfl, rfl, rfl, pj_tw2 (List.mem_of_getElem? (i := 216) rfl) rfl, _, tyX11_ok 6 (by decide), pj_tyb_ok rfl⟩
theorem fl_X11_60 : pj_FL RX11 60 10 7 true := ⟨rfl, by decide, by decide, RX11, TX11, rfl, rfl, rfl, pj_tw2 (List.mem_of_getElem? (i := 217) rfl) rfl, _, tyX11_ok 7 (by decide), pj_tyb_ok rfl⟩
theorem fl_X11_64 : pj_FL RX11 64 10 8 true := ⟨rfl, by decide, by decide, RX11, TX11, rfl, rfl, rfl, pj_tw2 (List.mem_of_getElem? (i := 218) rfl) rfl, _, tyX11_ok 8 (by decide), pj_tyb_ok rfl⟩
theorem fl_X11_393 : pj_FL RX11 393 10 9 false := ⟨rfl, by decide, by decide, RX11, TX11, rfl, rfl, rfl, pj_tw2 (List.mem_of_getElem? (i := 219) rfl) rfl, _, tyX11_ok 9 (by decide), pj_tyb_ok rfl⟩
theorem fl_X11_69 : pj_FL RX11 69 10 10 false := ⟨rfl, by decide, by decide, RX11, TX11, rfl, rfl, rfl, pj_tw2 (List.mem_of_getElem? (i := 220) rfl) rfl, _, tyX11_ok 10 (by decide), pj_tyb_ok rfl⟩
theorem fl_X11_73 : pj_FL RX11 73 10 11 false := ⟨rfl, by decide, by decide, RX11, TX11, rfl, rfl, rfl, pj_tw2 (List.mem_of_getElem? (i := 221) rfl) rfl, _, tyX11_ok 11 (by decide), pj_tyb_ok rfl⟩
theorem fl_X11_77 : pj_FL RX11 77 10 12 false := ⟨rfl, by decide, by decide, RX11, TX11, rfl, rfl, rfl, pj_tw2 (List.mem_of_getElem? (i := 222) rfl) rfl, _, tyX11_ok 12 (by decide), pj_tyb_ok rfl⟩
theorem fl_X11_81 : pj_FL RX11 81 10 13 false := ⟨rfl, by decide, by decide, RX11, TX11, rfl, rfl, rfl, pj_tw2 (List.mem_of_getElem? (i := 223) rfl) rfl, _, tyX11_ok 13 (by decide), pj_tyb_ok rfl⟩
theorem fl_X11_403 : pj_FL RX11 403 10 14 false := ⟨rfl, by decide, by decide, RX11, TX11, rfl, rfl, rfl, pj_tw2 (List.mem_of_getElem? (i := 224) rfl) rfl, _, tyX11_ok 14 (by decide), pj_tyb_ok rfl⟩
theorem fl_X11_89 : pj_FL RX11 89 10 15 false := ⟨rfl, by decide, by decide, RX11, TX11, rfl, rfl, rfl, pj_tw2 (List.mem_of_getElem? (i := 225) rfl) rfl, _, tyX11_ok 15 (by decide), pj_tyb_ok rfl⟩
theorem fl_X11_103 : pj_FL RX11 103 10 16 false := ⟨rfl, by decide, by decide, RX11, TX11, rfl, rfl, rfl, pj_tw2 (List.mem_of_getElem? (i := 226) rfl) rfl, _, tyX11_ok 16 (by decide), pj_tyb_ok rfl⟩
theorem fl_X11_84 : pj_FL RX11 84 10 17 false := ⟨rfl, by decide, by decide, RX11, TX11, rfl, rfl, rfl, pj_tw2 (List.mem_of_getElem? (i := 227) rfl) rfl, _, tyX11_ok 17 (by decide), pj_tyb_ok rfl⟩
theorem ml_L_13 : Cond.methodLink RL 13 yX11_status ∈ pj_T := pj_tw3 (List.mem_of_getElem? (i := 25) rfl) rfl
theorem ml_L_18 : Cond.methodLink RL 18 yX11_top ∈ pj_T := pj_tw3 (List.mem_of_getElem? (i := 29) rfl) rfl
theorem ml_L_23 : Cond.methodLink RL 23 yX11_bottom ∈ pj_T := pj_tw3 (List.mem_of_getElem? (i := 33) rfl) rfl
theorem ml_L_27 : Cond.methodLink RL 27 yX11_tray ∈ pj_T := pj_tw3 (List.mem_of_getElem? (i := 37) rfl) rfl
theorem ml_X11_110 : Cond.methodLink RX11 110 yX11_trayAt ∈ pj_T := pj_tw3 (List.mem_of_getElem? (i := 41) rfl) rfl
theorem ml_X11_114 : Cond.methodLink RX11 114 yX11_deny ∈ pj_T := pj_tw3 (List.mem_of_getElem? (i := 45) rfl) rfl
theorem ml_X11_118 : Cond.methodLink RX11 118 yX9_lay ∈ pj_T := pj_tw3 (List.mem_of_getElem? (i := 49) rfl) rfl
theorem ml_X11_122 : Cond.methodLink RX11 122 yX11_grant ∈ pj_T := pj_tw3 (List.mem_of_getElem? (i := 53) rfl) rfl
theorem ml_L_34 : Cond.methodLink RL 34 yX11_write ∈ pj_T := pj_tw3 (List.mem_of_getElem? (i := 57) rfl) rfl
theorem ml_X11_130 : Cond.methodLink RX11 130 yX9_holds ∈ pj_T := pj_tw3 (List.mem_of_getElem? (i := 61) rfl) rfl
theorem ml_X11_134 : Cond.methodLink RX11 134 yX9_put ∈ pj_T := pj_tw3 (List.mem_of_getElem? (i := 65) rfl) rfl
theorem ml_X9_24 : Cond.methodLink RX9 24 yX9_holds ∈ pj_T := pj_tw3 (List.mem_of_getElem? (i := 69) rfl) rfl
theorem ml_X9_28 : Cond.methodLink RX9 28 yX9_cut ∈ pj_T := pj_tw3 (List.mem_of_getElem? (i := 70) rfl) rfl
theorem ml_L_39 : Cond.methodLink RL 39 yX11_read ∈ pj_T := pj_tw3 (List.mem_of_getElem? (i := 74) rfl) rfl
theorem ml_X11_100 : Cond.methodLink RX11 100 yX11_refuse ∈ pj_T := pj_tw3 (List.mem_of_getElem? (i := 78) rfl) rfl
theorem ml_X11_138 : Cond.methodLink RX11 138 yX9_numberAt ∈ pj_T := pj_tw3 (List.mem_of_getElem? (i := 82) rfl) rfl
theorem ml_L_44 : Cond.methodLink RL 44 yX11_pour ∈ pj_T := pj_tw3 (List.mem_of_getElem? (i := 86) rfl) rfl
theorem ml_X11_149 : Cond.methodLink RX11 149 arraycopyName ∈ pj_T := pj_tw3 (List.mem_of_getElem? (i := 90) rfl) rfl
theorem ml_L_49 : Cond.methodLink RL 49 yX11_feed ∈ pj_T := pj_tw3 (List.mem_of_getElem? (i := 93) rfl) rfl
theorem ml_X11_155 : Cond.methodLink RX11 155 yX7_hasRoom ∈ pj_T := pj_tw3 (List.mem_of_getElem? (i := 97) rfl) rfl
theorem ml_X11_158 : Cond.methodLink RX11 158 yX7_feedInt ∈ pj_T := pj_tw3 (List.mem_of_getElem? (i := 101) rfl) rfl
theorem ml_L_54 : Cond.methodLink RL 54 yX11_beach ∈ pj_T := pj_tw3 (List.mem_of_getElem? (i := 105) rfl) rfl
theorem ml_X11_165 : Cond.methodLink RX11 165 yX7_begin ∈ pj_T := pj_tw3 (List.mem_of_getElem? (i := 109) rfl) rfl
theorem ml_X7_59 : Cond.methodLink RX7 59 yJ9_min_7cf53 ∈ pj_T := pj_tw3 (List.mem_of_getElem? (i := 113) rfl) rfl
theorem ml_X7_76 : Cond.methodLink RX7 76 yX7_skipBlanks ∈ pj_T := pj_tw3 (List.mem_of_getElem? (i := 116) rfl) rfl
theorem ml_X7_79 : Cond.methodLink RX7 79 yX7_scanToken ∈ pj_T := pj_tw3 (List.mem_of_getElem? (i := 120) rfl) rfl
theorem ml_X7_86 : Cond.methodLink RX7 86 yX7_isLetter ∈ pj_T := pj_tw3 (List.mem_of_getElem? (i := 124) rfl) rfl
theorem ml_X7_90 : Cond.methodLink RX7 90 yX7_scanWord ∈ pj_T := pj_tw3 (List.mem_of_getElem? (i := 127) rfl) rfl
theorem ml_X7_82 : Cond.methodLink RX7 82 yX7_addToken ∈ pj_T := pj_tw3 (List.mem_of_getElem? (i := 131) rfl) rfl
theorem ml_X7_99 : Cond.methodLink RX7 99 yX7_wordOf ∈ pj_T := pj_tw3 (List.mem_of_getElem? (i := 135) rfl) rfl
theorem ml_X7_93 : Cond.methodLink RX7 93 yX7_isDigit ∈ pj_T := pj_tw3 (List.mem_of_getElem? (i := 139) rfl) rfl
theorem ml_X7_96 : Cond.methodLink RX7 96 yX7_scanNumber ∈ pj_T := pj_tw3 (List.mem_of_getElem? (i := 142) rfl) rfl
theorem ml_X11_168 : Cond.methodLink RX11 168 yX1_takeBeach ∈ pj_T := pj_tw3 (List.mem_of_getElem? (i := 146) rfl) rfl
theorem ml_X1_19 : Cond.methodLink RX1 19 yX0_clear ∈ pj_T := pj_tw3 (List.mem_of_getElem? (i := 150) rfl) rfl
theorem ml_X1_28 : Cond.methodLink RX1 28 yX1_takeHead ∈ pj_T := pj_tw3 (List.mem_of_getElem? (i := 151) rfl) rfl
theorem ml_X1_42 : Cond.methodLink RX1 42 yX7_takeNumberBehind ∈ pj_T := pj_tw3 (List.mem_of_getElem? (i := 155) rfl) rfl
theorem ml_X7_111 : Cond.methodLink RX7 111 yX7_takeWord ∈ pj_T := pj_tw3 (List.mem_of_getElem? (i := 159) rfl) rfl
theorem ml_X7_103 : Cond.methodLink RX7 103 yX7_fail ∈ pj_T := pj_tw3 (List.mem_of_getElem? (i := 163) rfl) rfl
theorem ml_X7_106 : Cond.methodLink RX7 106 yX7_advance ∈ pj_T := pj_tw3 (List.mem_of_getElem? (i := 167) rfl) rfl
theorem ml_X7_114 : Cond.methodLink RX7 114 yX7_takeNumber ∈ pj_T := pj_tw3 (List.mem_of_getElem? (i := 171) rfl) rfl
theorem ml_X1_53 : Cond.methodLink RX1 53 yX7_wordHere ∈ pj_T := pj_tw3 (List.mem_of_getElem? (i := 175) rfl) rfl
theorem ml_X1_60 : Cond.methodLink RX1 60 yX7_takeSign ∈ pj_T := pj_tw3 (List.mem_of_getElem? (i := 179) rfl) rfl
theorem ml_X1_34 : Cond.methodLink RX1 34 yX7_isOver ∈ pj_T := pj_tw3 (List.mem_of_getElem? (i := 183) rfl) rfl
theorem ml_X1_37 : Cond.methodLink RX1 37 yX1_takePart ∈ pj_T := pj_tw3 (List.mem_of_getElem? (i := 187) rfl) rfl
theorem ml_X1_64 : Cond.methodLink RX1 64 yX1_takeFinderPart ∈ pj_T := pj_tw3 (List.mem_of_getElem? (i := 191) rfl) rfl
theorem ml_X1_76 : Cond.methodLink RX1 76 yX7_fail ∈ pj_T := pj_tw3 (List.mem_of_getElem? (i := 195) rfl) rfl
theorem ml_X1_83 : Cond.methodLink RX1 83 yX7_takeWord ∈ pj_T := pj_tw3 (List.mem_of_getElem? (i := 196) rfl) rfl
theorem ml_X1_86 : Cond.methodLink RX1 86 yX7_takeNewName ∈ pj_T := pj_tw3 (List.mem_of_getElem? (i := 197) rfl) rfl
theorem kn_X7_117 : Cond.constantLong RX7 117 (-1 : Int64) ∈ pj_T := pj_tw3 (List.mem_of_getElem? (i := 201) rfl) rfl
theorem ml_X7_119 : Cond.methodLink RX7 119 yX0_finderNamed ∈ pj_T := pj_tw3 (List.mem_of_getElem? (i := 202) rfl) rfl
theorem ml_X7_124 : Cond.methodLink RX7 124 yX0_findNamed ∈ pj_T := pj_tw3 (List.mem_of_getElem? (i := 206) rfl) rfl
theorem kn_X1_90 : Cond.constantLong RX1 90 (-1 : Int64) ∈ pj_T := pj_tw3 (List.mem_of_getElem? (i := 210) rfl) rfl
theorem ml_X1_92 : Cond.methodLink RX1 92 yX0_addFinder ∈ pj_T := pj_tw3 (List.mem_of_getElem? (i := 211) rfl) rfl
theorem ml_X1_67 : Cond.methodLink RX1 67 yX1_takeFindPart ∈ pj_T := pj_tw3 (List.mem_of_getElem? (i := 215) rfl) rfl
theorem ml_X1_99 : Cond.methodLink RX1 99 yX0_addFind ∈ pj_T := pj_tw3 (List.mem_of_getElem? (i := 219) rfl) rfl
theorem ml_X1_70 : Cond.methodLink RX1 70 yX1_takePebblePart ∈ pj_T := pj_tw3 (List.mem_of_getElem? (i := 223) rfl) rfl
theorem ml_X1_103 : Cond.methodLink RX1 103 yX0_lying ∈ pj_T := pj_tw3 (List.mem_of_getElem? (i := 227) rfl) rfl
theorem ml_X1_106 : Cond.methodLink RX1 106 yX7_takeFinder ∈ pj_T := pj_tw3 (List.mem_of_getElem? (i := 231) rfl) rfl
theorem ml_X7_127 : Cond.methodLink RX7 127 yX7_takeKnown ∈ pj_T := pj_tw3 (List.mem_of_getElem? (i := 235) rfl) rfl
theorem ml_X1_110 : Cond.methodLink RX1 110 yX7_takeFindBehind ∈ pj_T := pj_tw3 (List.mem_of_getElem? (i := 239) rfl) rfl
theorem ml_X7_131 : Cond.methodLink RX7 131 yX7_takeFind ∈ pj_T := pj_tw4 (List.mem_of_getElem? (i := 3) rfl) rfl
theorem ml_X1_114 : Cond.methodLink RX1 114 yX0_findAt ∈ pj_T := pj_tw4 (List.mem_of_getElem? (i := 7) rfl) rfl
theorem ml_X1_118 : Cond.methodLink RX1 118 yX4_insert ∈ pj_T := pj_tw4 (List.mem_of_getElem? (i := 11) rfl) rfl
theorem ml_X1_73 : Cond.methodLink RX1 73 yX1_takeDuelPart ∈ pj_T := pj_tw4 (List.mem_of_getElem? (i := 15) rfl) rfl
theorem ml_X11_172 : Cond.methodLink RX11 172 yX2_clear ∈ pj_T := pj_tw4 (List.mem_of_getElem? (i := 19) rfl) rfl
theorem ml_X11_96 : Cond.methodLink RX11 96 yX11_answer ∈ pj_T := pj_tw4 (List.mem_of_getElem? (i := 23) rfl) rfl
theorem ml_L_59 : Cond.methodLink RL 59 yX11_days ∈ pj_T := pj_tw4 (List.mem_of_getElem? (i := 27) rfl) rfl
theorem ml_X11_178 : Cond.methodLink RX11 178 yX3_takeDays ∈ pj_T := pj_tw4 (List.mem_of_getElem? (i := 31) rfl) rfl
theorem ml_X3_27 : Cond.methodLink RX3 27 yX2_clear ∈ pj_T := pj_tw4 (List.mem_of_getElem? (i := 35) rfl) rfl
theorem ml_X3_36 : Cond.methodLink RX3 36 yX7_isOver ∈ pj_T := pj_tw4 (List.mem_of_getElem? (i := 36) rfl) rfl
theorem ml_X3_42 : Cond.methodLink RX3 42 yX7_wordHere ∈ pj_T := pj_tw4 (List.mem_of_getElem? (i := 37) rfl) rfl
theorem ml_X3_48 : Cond.methodLink RX3 48 yX3_takeEnd ∈ pj_T := pj_tw4 (List.mem_of_getElem? (i := 38) rfl) rfl
theorem ml_X3_62 : Cond.methodLink RX3 62 yX7_fail ∈ pj_T := pj_tw4 (List.mem_of_getElem? (i := 42) rfl) rfl
theorem ml_X3_69 : Cond.methodLink RX3 69 yX7_takeWord ∈ pj_T := pj_tw4 (List.mem_of_getElem? (i := 43) rfl) rfl
theorem ml_X3_72 : Cond.methodLink RX3 72 yX2_appendEnd ∈ pj_T := pj_tw4 (List.mem_of_getElem? (i := 44) rfl) rfl
theorem ml_X2_46 : Cond.methodLink RX2 46 yX2_append ∈ pj_T := pj_tw4 (List.mem_of_getElem? (i := 48) rfl) rfl
theorem ml_X3_51 : Cond.methodLink RX3 51 yX3_beginStep ∈ pj_T := pj_tw4 (List.mem_of_getElem? (i := 52) rfl) rfl
theorem ml_X3_76 : Cond.methodLink RX3 76 yX3_isPlain ∈ pj_T := pj_tw4 (List.mem_of_getElem? (i := 56) rfl) rfl
theorem ml_X3_85 : Cond.methodLink RX3 85 yX3_beginTest ∈ pj_T := pj_tw4 (List.mem_of_getElem? (i := 59) rfl) rfl
theorem ml_X3_54 : Cond.methodLink RX3 54 yX3_takeStep ∈ pj_T := pj_tw4 (List.mem_of_getElem? (i := 63) rfl) rfl
theorem ml_X3_88 : Cond.methodLink RX3 88 yX3_takeGo ∈ pj_T := pj_tw4 (List.mem_of_getElem? (i := 67) rfl) rfl
theorem ml_X3_115 : Cond.methodLink RX3 115 yX7_takeFinder ∈ pj_T := pj_tw4 (List.mem_of_getElem? (i := 71) rfl) rfl
theorem ml_X3_124 : Cond.methodLink RX3 124 yX7_takeNumberBehind ∈ pj_T := pj_tw4 (List.mem_of_getElem? (i := 72) rfl) rfl
theorem ml_X3_107 : Cond.methodLink RX3 107 yX3_add ∈ pj_T := pj_tw4 (List.mem_of_getElem? (i := 73) rfl) rfl
theorem ml_X3_111 : Cond.methodLink RX3 111 yX2_append ∈ pj_T := pj_tw4 (List.mem_of_getElem? (i := 77) rfl) rfl
theorem ml_X3_91 : Cond.methodLink RX3 91 yX3_takeOnFind ∈ pj_T := pj_tw4 (List.mem_of_getElem? (i := 78) rfl) rfl
theorem ml_X3_132 : Cond.methodLink RX3 132 yX7_takeFindBehind ∈ pj_T := pj_tw4 (List.mem_of_getElem? (i := 82) rfl) rfl
theorem ml_X3_94 : Cond.methodLink RX3 94 yX3_takeWait ∈ pj_T := pj_tw4 (List.mem_of_getElem? (i := 83) rfl) rfl
theorem ml_X3_128 : Cond.methodLink RX3 128 yX7_takeNumber ∈ pj_T := pj_tw4 (List.mem_of_getElem? (i := 87) rfl) rfl
theorem ml_X3_97 : Cond.methodLink RX3 97 yX3_takeOnlyNumber ∈ pj_T := pj_tw4 (List.mem_of_getElem? (i := 88) rfl) rfl
theorem ml_X3_101 : Cond.methodLink RX3 101 yX3_takeLeads ∈ pj_T := pj_tw4 (List.mem_of_getElem? (i := 92) rfl) rfl
theorem ml_X3_139 : Cond.methodLink RX3 139 yX7_takeCompares ∈ pj_T := pj_tw4 (List.mem_of_getElem? (i := 96) rfl) rfl
theorem kn_X7_109 : Cond.constantLong RX7 109 (59 : Int64) ∈ pj_T := pj_tw4 (List.mem_of_getElem? (i := 100) rfl) rfl
theorem ml_X3_104 : Cond.methodLink RX3 104 yX3_takeFree ∈ pj_T := pj_tw4 (List.mem_of_getElem? (i := 101) rfl) rfl
theorem ml_X3_136 : Cond.methodLink RX3 136 yX7_takeFind ∈ pj_T := pj_tw4 (List.mem_of_getElem? (i := 105) rfl) rfl
theorem ml_X3_58 : Cond.methodLink RX3 58 yX7_takeSign ∈ pj_T := pj_tw4 (List.mem_of_getElem? (i := 106) rfl) rfl
theorem ml_L_63 : Cond.methodLink RL 63 yX11_fault ∈ pj_T := pj_tw4 (List.mem_of_getElem? (i := 107) rfl) rfl
theorem ml_L_67 : Cond.methodLink RL 67 yX11_told ∈ pj_T := pj_tw4 (List.mem_of_getElem? (i := 111) rfl) rfl
theorem ml_X11_209 : Cond.methodLink RX11 209 yX0_thereSet ∈ pj_T := pj_tw4 (List.mem_of_getElem? (i := 115) rfl) rfl
theorem ml_X11_213 : Cond.methodLink RX11 213 yX0_lying ∈ pj_T := pj_tw4 (List.mem_of_getElem? (i := 119) rfl) rfl
theorem ml_L_71 : Cond.methodLink RL 71 yX11_finder ∈ pj_T := pj_tw4 (List.mem_of_getElem? (i := 120) rfl) rfl
theorem ml_X11_216 : Cond.methodLink RX11 216 yX0_finderAt ∈ pj_T := pj_tw4 (List.mem_of_getElem? (i := 124) rfl) rfl
theorem ml_L_76 : Cond.methodLink RL 76 yX11_find ∈ pj_T := pj_tw4 (List.mem_of_getElem? (i := 128) rfl) rfl
theorem ml_X11_237 : Cond.methodLink RX11 237 yX0_findAt ∈ pj_T := pj_tw4 (List.mem_of_getElem? (i := 132) rfl) rfl
theorem ml_L_80 : Cond.methodLink RL 80 yX11_pebble ∈ pj_T := pj_tw4 (List.mem_of_getElem? (i := 133) rfl) rfl
theorem ml_X11_250 : Cond.methodLink RX11 250 yX4_has ∈ pj_T := pj_tw4 (List.mem_of_getElem? (i := 137) rfl) rfl
theorem ml_L_85 : Cond.methodLink RL 85 yX11_go ∈ pj_T := pj_tw4 (List.mem_of_getElem? (i := 141) rfl) rfl
theorem ml_X11_259 : Cond.methodLink RX11 259 yX0_walkTo ∈ pj_T := pj_tw4 (List.mem_of_getElem? (i := 145) rfl) rfl
theorem ml_X0_95 : Cond.methodLink RX0 95 yX0_finderAt ∈ pj_T := pj_tw4 (List.mem_of_getElem? (i := 149) rfl) rfl
theorem ml_X0_99 : Cond.methodLink RX0 99 yX5_minutesTo ∈ pj_T := pj_tw4 (List.mem_of_getElem? (i := 150) rfl) rfl
theorem ml_X5_29 : Cond.methodLink RX5 29 yJ9_abs_0f7a4 ∈ pj_T := pj_tw4 (List.mem_of_getElem? (i := 154) rfl) rfl
theorem ml_X0_102 : Cond.methodLink RX0 102 yX0_spend ∈ pj_T := pj_tw4 (List.mem_of_getElem? (i := 157) rfl) rfl
theorem ml_X0_91 : Cond.methodLink RX0 91 yX0_done ∈ pj_T := pj_tw4 (List.mem_of_getElem? (i := 161) rfl) rfl
theorem ml_X11_263 : Cond.methodLink RX11 263 yX11_settle ∈ pj_T := pj_tw4 (List.mem_of_getElem? (i := 165) rfl) rfl
theorem ml_L_89 : Cond.methodLink RL 89 yX11_pass ∈ pj_T := pj_tw4 (List.mem_of_getElem? (i := 169) rfl) rfl
theorem ml_X11_266 : Cond.methodLink RX11 266 yX0_waitFor ∈ pj_T := pj_tw4 (List.mem_of_getElem? (i := 173) rfl) rfl
theorem ml_L_93 : Cond.methodLink RL 93 yX11_set ∈ pj_T := pj_tw4 (List.mem_of_getElem? (i := 177) rfl) rfl
theorem ml_X11_269 : Cond.methodLink RX11 269 yX0_layOn ∈ pj_T := pj_tw4 (List.mem_of_getElem? (i := 181) rfl) rfl
theorem ml_X0_106 : Cond.methodLink RX0 106 yX0_findAt ∈ pj_T := pj_tw4 (List.mem_of_getElem? (i := 185) rfl) rfl
theorem ml_X0_110 : Cond.methodLink RX0 110 yX0_lying ∈ pj_T := pj_tw4 (List.mem_of_getElem? (i := 186) rfl) rfl
theorem ml_X0_114 : Cond.methodLink RX0 114 yX4_insert ∈ pj_T := pj_tw4 (List.mem_of_getElem? (i := 187) rfl) rfl
theorem ml_L_97 : Cond.methodLink RL 97 yX11_lift ∈ pj_T := pj_tw4 (List.mem_of_getElem? (i := 188) rfl) rfl
theorem ml_X11_272 : Cond.methodLink RX11 272 yX0_takeUp ∈ pj_T := pj_tw4 (List.mem_of_getElem? (i := 192) rfl) rfl
theorem ml_X0_118 : Cond.methodLink RX0 118 yX4_newestOf ∈ pj_T := pj_tw4 (List.mem_of_getElem? (i := 196) rfl) rfl
theorem ml_X0_121 : Cond.methodLink RX0 121 yX4_has ∈ pj_T := pj_tw4 (List.mem_of_getElem? (i := 200) rfl) rfl
theorem ml_X0_129 : Cond.methodLink RX0 129 yX4_removeAt ∈ pj_T := pj_tw4 (List.mem_of_getElem? (i := 201) rfl) rfl
theorem ml_X4_44 : Cond.methodLink RX4 44 yX4_has ∈ pj_T := pj_tw4 (List.mem_of_getElem? (i := 205) rfl) rfl
theorem ml_L_101 : Cond.methodLink RL 101 yX11_gull ∈ pj_T := pj_tw4 (List.mem_of_getElem? (i := 206) rfl) rfl
theorem ml_X11_275 : Cond.methodLink RX11 275 yX0_carry ∈ pj_T := pj_tw4 (List.mem_of_getElem? (i := 210) rfl) rfl
theorem ml_L_105 : Cond.methodLink RL 105 yX11_wave ∈ pj_T := pj_tw4 (List.mem_of_getElem? (i := 214) rfl) rfl
theorem ml_X11_278 : Cond.methodLink RX11 278 yX0_washBelow ∈ pj_T := pj_tw4 (List.mem_of_getElem? (i := 218) rfl) rfl
theorem ml_L_109 : Cond.methodLink RL 109 yX11_tide ∈ pj_T := pj_tw4 (List.mem_of_getElem? (i := 222) rfl) rfl
theorem ml_X11_281 : Cond.methodLink RX11 281 yX0_comeTide ∈ pj_T := pj_tw4 (List.mem_of_getElem? (i := 226) rfl) rfl
theorem ml_X0_136 : Cond.methodLink RX0 136 yX0_thereSet ∈ pj_T := pj_tw4 (List.mem_of_getElem? (i := 230) rfl) rfl
theorem ml_X0_139 : Cond.methodLink RX0 139 yX0_heirs ∈ pj_T := pj_tw4 (List.mem_of_getElem? (i := 231) rfl) rfl
theorem ml_X0_163 : Cond.methodLink RX0 163 yX4_lastSet ∈ pj_T := pj_tw4 (List.mem_of_getElem? (i := 235) rfl) rfl
theorem ml_X0_152 : Cond.methodLink RX0 152 yJ6_bitCount_0f7a4 ∈ pj_T := pj_tw4 (List.mem_of_getElem? (i := 239) rfl) rfl
theorem kn_J6_265 : Cond.constant RJ6 265 (1431655765 : Int32) ∈ pj_T := pj_tw5 (List.mem_of_getElem? (i := 2) rfl) rfl
theorem kn_J6_266 : Cond.constant RJ6 266 (858993459 : Int32) ∈ pj_T := pj_tw5 (List.mem_of_getElem? (i := 3) rfl) rfl
theorem kn_J6_267 : Cond.constant RJ6 267 (252645135 : Int32) ∈ pj_T := pj_tw5 (List.mem_of_getElem? (i := 4) rfl) rfl
theorem ml_X0_166 : Cond.methodLink RX0 166 yX0_firstOf ∈ pj_T := pj_tw5 (List.mem_of_getElem? (i := 5) rfl) rfl
theorem ml_X0_169 : Cond.methodLink RX0 169 yX0_lastOf ∈ pj_T := pj_tw5 (List.mem_of_getElem? (i := 8) rfl) rfl
theorem ml_X0_143 : Cond.methodLink RX0 143 yX0_give ∈ pj_T := pj_tw5 (List.mem_of_getElem? (i := 11) rfl) rfl
theorem ml_X0_146 : Cond.methodLink RX0 146 yX0_strewnBy ∈ pj_T := pj_tw5 (List.mem_of_getElem? (i := 15) rfl) rfl
theorem ml_X0_182 : Cond.methodLink RX0 182 yX4_tallyOf ∈ pj_T := pj_tw5 (List.mem_of_getElem? (i := 19) rfl) rfl
theorem ml_X0_149 : Cond.methodLink RX0 149 yX0_tideAfter ∈ pj_T := pj_tw5 (List.mem_of_getElem? (i := 23) rfl) rfl
theorem ml_X0_157 : Cond.methodLink RX0 157 yJ9_max_7cf53 ∈ pj_T := pj_tw5 (List.mem_of_getElem? (i := 27) rfl) rfl
theorem ml_L_113 : Cond.methodLink RL 113 yX11_dawn ∈ pj_T := pj_tw5 (List.mem_of_getElem? (i := 30) rfl) rfl
theorem ml_X11_284 : Cond.methodLink RX11 284 yX0_comeDawn ∈ pj_T := pj_tw5 (List.mem_of_getElem? (i := 34) rfl) rfl
theorem ml_L_117 : Cond.methodLink RL 117 yX11_last ∈ pj_T := pj_tw5 (List.mem_of_getElem? (i := 38) rfl) rfl
theorem ml_X11_290 : Cond.methodLink RX11 290 yX4_lastSet ∈ pj_T := pj_tw5 (List.mem_of_getElem? (i := 42) rfl) rfl
theorem ml_L_121 : Cond.methodLink RL 121 yX11_whose ∈ pj_T := pj_tw5 (List.mem_of_getElem? (i := 43) rfl) rfl
theorem ml_X11_293 : Cond.methodLink RX11 293 yX0_heirs ∈ pj_T := pj_tw5 (List.mem_of_getElem? (i := 47) rfl) rfl
theorem ml_L_125 : Cond.methodLink RL 125 yX11_leads ∈ pj_T := pj_tw5 (List.mem_of_getElem? (i := 48) rfl) rfl
theorem ml_X11_297 : Cond.methodLink RX11 297 yX0_leadOf ∈ pj_T := pj_tw5 (List.mem_of_getElem? (i := 52) rfl) rfl
theorem ml_X0_172 : Cond.methodLink RX0 172 yX0_shareOf ∈ pj_T := pj_tw5 (List.mem_of_getElem? (i := 56) rfl) rfl
theorem ml_L_129 : Cond.methodLink RL 129 yX11_leader ∈ pj_T := pj_tw5 (List.mem_of_getElem? (i := 60) rfl) rfl
theorem ml_X11_300 : Cond.methodLink RX11 300 yX0_ranking ∈ pj_T := pj_tw5 (List.mem_of_getElem? (i := 64) rfl) rfl
theorem ml_X0_176 : Cond.methodLink RX0 176 yX0_findersAhead ∈ pj_T := pj_tw5 (List.mem_of_getElem? (i := 68) rfl) rfl
theorem ml_X0_179 : Cond.methodLink RX0 179 yX0_leadOf ∈ pj_T := pj_tw5 (List.mem_of_getElem? (i := 72) rfl) rfl
theorem ml_L_133 : Cond.methodLink RL 133 yX11_duels ∈ pj_T := pj_tw5 (List.mem_of_getElem? (i := 73) rfl) rfl
theorem ml_X11_307 : Cond.methodLink RX11 307 yJ6_bitCount_0f7a4 ∈ pj_T := pj_tw5 (List.mem_of_getElem? (i := 77) rfl) rfl
theorem ml_L_137 : Cond.methodLink RL 137 yX11_needs ∈ pj_T := pj_tw5 (List.mem_of_getElem? (i := 78) rfl) rfl
theorem ml_L_141 : Cond.methodLink RL 141 yX11_strewn ∈ pj_T := pj_tw5 (List.mem_of_getElem? (i := 82) rfl) rfl
theorem ml_X11_312 : Cond.methodLink RX11 312 yX0_strewnBy ∈ pj_T := pj_tw5 (List.mem_of_getElem? (i := 86) rfl) rfl
theorem ml_L_145 : Cond.methodLink RL 145 yX11_soonest ∈ pj_T := pj_tw5 (List.mem_of_getElem? (i := 87) rfl) rfl
theorem ml_X11_315 : Cond.methodLink RX11 315 yX0_soonestOf ∈ pj_T := pj_tw5 (List.mem_of_getElem? (i := 91) rfl) rfl
theorem ml_X0_185 : Cond.methodLink RX0 185 yX4_behindOthers ∈ pj_T := pj_tw5 (List.mem_of_getElem? (i := 95) rfl) rfl
theorem ml_L_149 : Cond.methodLink RL 149 yX11_threat ∈ pj_T := pj_tw5 (List.mem_of_getElem? (i := 99) rfl) rfl
theorem ml_X11_319 : Cond.methodLink RX11 319 yX0_threatTo ∈ pj_T := pj_tw5 (List.mem_of_getElem? (i := 103) rfl) rfl
theorem ml_X0_188 : Cond.methodLink RX0 188 yX0_soonestOf ∈ pj_T := pj_tw5 (List.mem_of_getElem? (i := 107) rfl) rfl
theorem ml_L_153 : Cond.methodLink RL 153 yX11_best ∈ pj_T := pj_tw5 (List.mem_of_getElem? (i := 108) rfl) rfl
theorem ml_X11_322 : Cond.methodLink RX11 322 yX8_prepare ∈ pj_T := pj_tw5 (List.mem_of_getElem? (i := 112) rfl) rfl
theorem ml_X8_30 : Cond.methodLink RX8 30 yX0_finderAt ∈ pj_T := pj_tw5 (List.mem_of_getElem? (i := 116) rfl) rfl
theorem ml_X8_72 : Cond.methodLink RX8 72 yX4_behindOthers ∈ pj_T := pj_tw5 (List.mem_of_getElem? (i := 117) rfl) rfl
theorem kn_X8_76 : Cond.constant RX8 76 (1000000 : Int32) ∈ pj_T := pj_tw5 (List.mem_of_getElem? (i := 118) rfl) rfl
theorem ml_X8_80 : Cond.methodLink RX8 80 yX8_latestFor ∈ pj_T := pj_tw5 (List.mem_of_getElem? (i := 119) rfl) rfl
theorem kn_X8_84 : Cond.constant RX8 84 (-1000000 : Int32) ∈ pj_T := pj_tw5 (List.mem_of_getElem? (i := 123) rfl) rfl
theorem ml_X8_85 : Cond.methodLink RX8 85 yX8_dueAt ∈ pj_T := pj_tw5 (List.mem_of_getElem? (i := 124) rfl) rfl
theorem ml_X8_89 : Cond.methodLink RX8 89 yX8_minutesBetween ∈ pj_T := pj_tw5 (List.mem_of_getElem? (i := 128) rfl) rfl
theorem ml_X8_97 : Cond.methodLink RX8 97 yJ9_abs_0f7a4 ∈ pj_T := pj_tw5 (List.mem_of_getElem? (i := 132) rfl) rfl
theorem ml_X8_92 : Cond.methodLink RX8 92 yJ9_max_7cf53 ∈ pj_T := pj_tw5 (List.mem_of_getElem? (i := 133) rfl) rfl
theorem ml_X11_326 : Cond.methodLink RX11 326 yX8_chooseRow ∈ pj_T := pj_tw5 (List.mem_of_getElem? (i := 134) rfl) rfl
theorem ml_X8_112 : Cond.methodLink RX8 112 yX8_bestWorth ∈ pj_T := pj_tw5 (List.mem_of_getElem? (i := 138) rfl) rfl
theorem ml_X8_105 : Cond.methodLink RX8 105 yX8_fits ∈ pj_T := pj_tw5 (List.mem_of_getElem? (i := 142) rfl) rfl
theorem ml_X8_100 : Cond.methodLink RX8 100 yJ6_bitCount_0f7a4 ∈ pj_T := pj_tw5 (List.mem_of_getElem? (i := 146) rfl) rfl
theorem ml_X8_109 : Cond.methodLink RX8 109 yX8_worthOf ∈ pj_T := pj_tw5 (List.mem_of_getElem? (i := 147) rfl) rfl
theorem ml_X8_116 : Cond.methodLink RX8 116 yX8_fewestFor ∈ pj_T := pj_tw5 (List.mem_of_getElem? (i := 151) rfl) rfl
theorem ml_X8_135 : Cond.methodLink RX8 135 yJ9_min_7cf53 ∈ pj_T := pj_tw5 (List.mem_of_getElem? (i := 155) rfl) rfl
theorem ml_X8_119 : Cond.methodLink RX8 119 yX8_layTrial ∈ pj_T := pj_tw5 (List.mem_of_getElem? (i := 156) rfl) rfl
theorem ml_X8_138 : Cond.methodLink RX8 138 yX8_firstNext ∈ pj_T := pj_tw5 (List.mem_of_getElem? (i := 160) rfl) rfl
theorem ml_X8_141 : Cond.methodLink RX8 141 yX8_minuteAt ∈ pj_T := pj_tw5 (List.mem_of_getElem? (i := 164) rfl) rfl
theorem ml_X8_123 : Cond.methodLink RX8 123 yX8_trialIsAhead ∈ pj_T := pj_tw5 (List.mem_of_getElem? (i := 168) rfl) rfl
theorem ml_X8_126 : Cond.methodLink RX8 126 arraycopyName ∈ pj_T := pj_tw5 (List.mem_of_getElem? (i := 172) rfl) rfl
theorem ml_X11_329 : Cond.methodLink RX11 329 yX8_bestWorth ∈ pj_T := pj_tw5 (List.mem_of_getElem? (i := 173) rfl) rfl
theorem ml_L_157 : Cond.methodLink RL 157 yX11_bestAt ∈ pj_T := pj_tw5 (List.mem_of_getElem? (i := 174) rfl) rfl
theorem ml_L_161 : Cond.methodLink RL 161 yX11_lateness ∈ pj_T := pj_tw5 (List.mem_of_getElem? (i := 178) rfl) rfl
theorem ml_L_165 : Cond.methodLink RL 165 yX11_seen ∈ pj_T := pj_tw5 (List.mem_of_getElem? (i := 182) rfl) rfl
theorem ml_X11_338 : Cond.methodLink RX11 338 yX0_sightOf ∈ pj_T := pj_tw5 (List.mem_of_getElem? (i := 186) rfl) rfl
theorem ml_X0_191 : Cond.methodLink RX0 191 yJ9_abs_0f7a4 ∈ pj_T := pj_tw5 (List.mem_of_getElem? (i := 190) rfl) rfl
theorem ml_L_169 : Cond.methodLink RL 169 yX11_boys ∈ pj_T := pj_tw5 (List.mem_of_getElem? (i := 191) rfl) rfl
theorem ml_X11_342 : Cond.methodLink RX11 342 yX0_boyCell ∈ pj_T := pj_tw5 (List.mem_of_getElem? (i := 195) rfl) rfl
theorem ml_X0_194 : Cond.methodLink RX0 194 yX0_leftmostFrom ∈ pj_T := pj_tw5 (List.mem_of_getElem? (i := 199) rfl) rfl
theorem ml_X0_197 : Cond.methodLink RX0 197 yJ9_min_7cf53 ∈ pj_T := pj_tw5 (List.mem_of_getElem? (i := 203) rfl) rfl
theorem ml_L_173 : Cond.methodLink RL 173 yX11_boyAt ∈ pj_T := pj_tw5 (List.mem_of_getElem? (i := 204) rfl) rfl
theorem ml_L_177 : Cond.methodLink RL 177 yX11_odds ∈ pj_T := pj_tw5 (List.mem_of_getElem? (i := 208) rfl) rfl
theorem ml_X11_345 : Cond.methodLink RX11 345 yX4_latestMinute ∈ pj_T := pj_tw5 (List.mem_of_getElem? (i := 212) rfl) rfl
theorem kn_X11_348 : Cond.constantLong RX11 348 (16 : Int64) ∈ pj_T := pj_tw5 (List.mem_of_getElem? (i := 216) rfl) rfl
theorem ml_X11_350 : Cond.methodLink RX11 350 yX11_tellFraction ∈ pj_T := pj_tw5 (List.mem_of_getElem? (i := 217) rfl) rfl
theorem ml_X11_106 : Cond.methodLink RX11 106 yX11_commonDivisor ∈ pj_T := pj_tw5 (List.mem_of_getElem? (i := 221) rfl) rfl
theorem ml_L_181 : Cond.methodLink RL 181 yX11_gulls ∈ pj_T := pj_tw5 (List.mem_of_getElem? (i := 224) rfl) rfl
theorem kn_X11_354 : Cond.constantLong RX11 354 (60 : Int64) ∈ pj_T := pj_tw5 (List.mem_of_getElem? (i := 228) rfl) rfl
theorem ml_X11_356 : Cond.methodLink RX11 356 yX11_fewestGulls ∈ pj_T := pj_tw5 (List.mem_of_getElem? (i := 229) rfl) rfl
theorem ml_X11_360 : Cond.methodLink RX11 360 yJ9_max_7cf53 ∈ pj_T := pj_tw5 (List.mem_of_getElem? (i := 233) rfl) rfl
theorem ml_L_185 : Cond.methodLink RL 185 yX11_walk ∈ pj_T := pj_tw5 (List.mem_of_getElem? (i := 234) rfl) rfl
theorem ml_X11_365 : Cond.methodLink RX11 365 yX5_minutesTo ∈ pj_T := pj_tw5 (List.mem_of_getElem? (i := 238) rfl) rfl
theorem ml_L_189 : Cond.methodLink RL 189 yX11_gain ∈ pj_T := pj_tw5 (List.mem_of_getElem? (i := 239) rfl) rfl
theorem ml_X11_368 : Cond.methodLink RX11 368 yX0_shareOf ∈ pj_T := pj_tw6 (List.mem_of_getElem? (i := 3) rfl) rfl
theorem ml_L_193 : Cond.methodLink RL 193 yX11_safe ∈ pj_T := pj_tw6 (List.mem_of_getElem? (i := 4) rfl) rfl
theorem ml_L_197 : Cond.methodLink RL 197 yX11_ranked ∈ pj_T := pj_tw6 (List.mem_of_getElem? (i := 8) rfl) rfl
theorem ml_L_201 : Cond.methodLink RL 201 yX11_rivals ∈ pj_T := pj_tw6 (List.mem_of_getElem? (i := 12) rfl) rfl
theorem ml_X11_371 : Cond.methodLink RX11 371 yX4_ownerSet ∈ pj_T := pj_tw6 (List.mem_of_getElem? (i := 16) rfl) rfl
theorem ml_L_205 : Cond.methodLink RL 205 yX11_richest ∈ pj_T := pj_tw6 (List.mem_of_getElem? (i := 20) rfl) rfl
theorem ml_L_209 : Cond.methodLink RL 209 yX11_left ∈ pj_T := pj_tw6 (List.mem_of_getElem? (i := 24) rfl) rfl
theorem ml_L_213 : Cond.methodLink RL 213 yX11_tideIn ∈ pj_T := pj_tw6 (List.mem_of_getElem? (i := 28) rfl) rfl
theorem ml_X11_374 : Cond.methodLink RX11 374 yX0_tideAfter ∈ pj_T := pj_tw6 (List.mem_of_getElem? (i := 32) rfl) rfl
theorem ml_L_217 : Cond.methodLink RL 217 yX11_open ∈ pj_T := pj_tw6 (List.mem_of_getElem? (i := 33) rfl) rfl
theorem ml_L_221 : Cond.methodLink RL 221 yX11_farthest ∈ pj_T := pj_tw6 (List.mem_of_getElem? (i := 37) rfl) rfl
theorem ml_L_225 : Cond.methodLink RL 225 yX11_time ∈ pj_T := pj_tw6 (List.mem_of_getElem? (i := 41) rfl) rfl
theorem ml_L_229 : Cond.methodLink RL 229 yX11_tally ∈ pj_T := pj_tw6 (List.mem_of_getElem? (i := 45) rfl) rfl
theorem ml_X11_377 : Cond.methodLink RX11 377 yX4_tallyOf ∈ pj_T := pj_tw6 (List.mem_of_getElem? (i := 49) rfl) rfl
theorem ml_L_233 : Cond.methodLink RL 233 yX11_busiest ∈ pj_T := pj_tw6 (List.mem_of_getElem? (i := 50) rfl) rfl
theorem ml_L_237 : Cond.methodLink RL 237 yX11_both ∈ pj_T := pj_tw6 (List.mem_of_getElem? (i := 54) rfl) rfl
theorem ml_L_241 : Cond.methodLink RL 241 yX11_latest ∈ pj_T := pj_tw6 (List.mem_of_getElem? (i := 58) rfl) rfl
theorem ml_L_245 : Cond.methodLink RL 245 yX11_behind ∈ pj_T := pj_tw6 (List.mem_of_getElem? (i := 62) rfl) rfl
theorem ml_L_249 : Cond.methodLink RL 249 yX11_alone ∈ pj_T := pj_tw6 (List.mem_of_getElem? (i := 66) rfl) rfl
theorem ml_L_253 : Cond.methodLink RL 253 yX11_part ∈ pj_T := pj_tw6 (List.mem_of_getElem? (i := 70) rfl) rfl
theorem ml_L_257 : Cond.methodLink RL 257 yX11_crowd ∈ pj_T := pj_tw6 (List.mem_of_getElem? (i := 74) rfl) rfl
theorem ml_X11_380 : Cond.methodLink RX11 380 yX0_findersIn ∈ pj_T := pj_tw6 (List.mem_of_getElem? (i := 78) rfl) rfl
theorem ml_L_261 : Cond.methodLink RL 261 yX11_lies ∈ pj_T := pj_tw6 (List.mem_of_getElem? (i := 82) rfl) rfl
theorem ml_L_265 : Cond.methodLink RL 265 yX11_live ∈ pj_T := pj_tw6 (List.mem_of_getElem? (i := 86) rfl) rfl
theorem ml_X11_386 : Cond.methodLink RX11 386 yX6_liveThrough ∈ pj_T := pj_tw6 (List.mem_of_getElem? (i := 90) rfl) rfl
theorem kn_X6_32 : Cond.constant RX6 32 (1000000 : Int32) ∈ pj_T := pj_tw6 (List.mem_of_getElem? (i := 94) rfl) rfl
theorem ml_X6_41 : Cond.methodLink RX6 41 yX6_behindEnd ∈ pj_T := pj_tw6 (List.mem_of_getElem? (i := 95) rfl) rfl
theorem ml_X6_45 : Cond.methodLink RX6 45 yX6_behindStep ∈ pj_T := pj_tw6 (List.mem_of_getElem? (i := 99) rfl) rfl
theorem ml_X6_57 : Cond.methodLink RX6 57 yX0_walkTo ∈ pj_T := pj_tw6 (List.mem_of_getElem? (i := 103) rfl) rfl
theorem ml_X6_63 : Cond.methodLink RX6 63 yX6_tried ∈ pj_T := pj_tw6 (List.mem_of_getElem? (i := 104) rfl) rfl
theorem ml_X6_66 : Cond.methodLink RX6 66 yX0_layOn ∈ pj_T := pj_tw6 (List.mem_of_getElem? (i := 108) rfl) rfl
theorem ml_X6_69 : Cond.methodLink RX6 69 yX0_waitFor ∈ pj_T := pj_tw6 (List.mem_of_getElem? (i := 109) rfl) rfl
theorem ml_X6_72 : Cond.methodLink RX6 72 yX0_takeUp ∈ pj_T := pj_tw6 (List.mem_of_getElem? (i := 110) rfl) rfl
theorem ml_X6_75 : Cond.methodLink RX6 75 yX6_gullMayCarry ∈ pj_T := pj_tw6 (List.mem_of_getElem? (i := 111) rfl) rfl
theorem ml_X6_113 : Cond.methodLink RX6 113 yX6_draw ∈ pj_T := pj_tw6 (List.mem_of_getElem? (i := 115) rfl) rfl
theorem kn_X6_122 : Cond.constant RX6 122 (65536 : Int32) ∈ pj_T := pj_tw6 (List.mem_of_getElem? (i := 119) rfl) rfl
theorem ml_X6_119 : Cond.methodLink RX6 119 yX0_carry ∈ pj_T := pj_tw6 (List.mem_of_getElem? (i := 120) rfl) rfl
theorem ml_X6_78 : Cond.methodLink RX6 78 yX6_comeWave ∈ pj_T := pj_tw6 (List.mem_of_getElem? (i := 121) rfl) rfl
theorem ml_X6_123 : Cond.methodLink RX6 123 yX0_washBelow ∈ pj_T := pj_tw6 (List.mem_of_getElem? (i := 125) rfl) rfl
theorem ml_X6_81 : Cond.methodLink RX6 81 yX6_comeTideAndDawn ∈ pj_T := pj_tw6 (List.mem_of_getElem? (i := 126) rfl) rfl
theorem ml_X6_129 : Cond.methodLink RX6 129 yX0_comeTide ∈ pj_T := pj_tw6 (List.mem_of_getElem? (i := 130) rfl) rfl
theorem ml_X6_133 : Cond.methodLink RX6 133 yX0_comeDawn ∈ pj_T := pj_tw6 (List.mem_of_getElem? (i := 131) rfl) rfl
theorem ml_X6_84 : Cond.methodLink RX6 84 yX6_beginLoop ∈ pj_T := pj_tw6 (List.mem_of_getElem? (i := 132) rfl) rfl
theorem ml_X6_87 : Cond.methodLink RX6 87 yX0_leadOf ∈ pj_T := pj_tw6 (List.mem_of_getElem? (i := 136) rfl) rfl
theorem ml_X6_93 : Cond.methodLink RX6 93 yX6_compares ∈ pj_T := pj_tw6 (List.mem_of_getElem? (i := 137) rfl) rfl
theorem ml_X6_97 : Cond.methodLink RX6 97 yX6_behindTest ∈ pj_T := pj_tw6 (List.mem_of_getElem? (i := 140) rfl) rfl
theorem ml_X6_101 : Cond.methodLink RX6 101 yX0_findAt ∈ pj_T := pj_tw6 (List.mem_of_getElem? (i := 144) rfl) rfl
theorem ml_X6_105 : Cond.methodLink RX6 105 yX6_isLast ∈ pj_T := pj_tw6 (List.mem_of_getElem? (i := 145) rfl) rfl
theorem ml_X6_136 : Cond.methodLink RX6 136 yX4_lastSet ∈ pj_T := pj_tw6 (List.mem_of_getElem? (i := 148) rfl) rfl
theorem ml_X6_109 : Cond.methodLink RX6 109 yX6_isFree ∈ pj_T := pj_tw6 (List.mem_of_getElem? (i := 149) rfl) rfl
theorem ml_L_269 : Cond.methodLink RL 269 yX11_lived ∈ pj_T := pj_tw6 (List.mem_of_getElem? (i := 152) rfl) rfl
theorem ml_L_273 : Cond.methodLink RL 273 yX11_mean ∈ pj_T := pj_tw6 (List.mem_of_getElem? (i := 156) rfl) rfl
theorem ml_X11_396 : Cond.methodLink RX11 396 yX0_copyFrom ∈ pj_T := pj_tw6 (List.mem_of_getElem? (i := 160) rfl) rfl
theorem ml_X0_53 : Cond.methodLink RX0 53 yX5_becomeLike ∈ pj_T := pj_tw6 (List.mem_of_getElem? (i := 164) rfl) rfl
theorem ml_X0_57 : Cond.methodLink RX0 57 yX4_becomeLike ∈ pj_T := pj_tw6 (List.mem_of_getElem? (i := 168) rfl) rfl
theorem ml_X4_38 : Cond.methodLink RX4 38 arraycopyName ∈ pj_T := pj_tw6 (List.mem_of_getElem? (i := 172) rfl) rfl
theorem ml_X11_400 : Cond.methodLink RX11 400 yX0_keptBy ∈ pj_T := pj_tw6 (List.mem_of_getElem? (i := 173) rfl) rfl
theorem ml_L_277 : Cond.methodLink RL 277 yX11_mark ∈ pj_T := pj_tw6 (List.mem_of_getElem? (i := 177) rfl) rfl
theorem ml_X11_406 : Cond.methodLink RX11 406 yX2_copyFrom ∈ pj_T := pj_tw6 (List.mem_of_getElem? (i := 181) rfl) rfl
theorem ml_X2_38 : Cond.methodLink RX2 38 arraycopyName ∈ pj_T := pj_tw6 (List.mem_of_getElem? (i := 185) rfl) rfl
theorem ml_L_281 : Cond.methodLink RL 281 yX11_back ∈ pj_T := pj_tw6 (List.mem_of_getElem? (i := 186) rfl) rfl
theorem kl_L_10 : Cond.classLink RL 10 RX12 ∈ pj_T := pj_tw6 (List.mem_of_getElem? (i := 190) rfl) rfl
theorem ml_L_12 : Cond.methodLink RL 12 yX12_init ∈ pj_T := pj_tw6 (List.mem_of_getElem? (i := 192) rfl) rfl
theorem ml_X12_1 : Cond.methodLink RX12 1 objectInit ∈ pj_T := pj_tw6 (List.mem_of_getElem? (i := 195) rfl) rfl
theorem ml_X12_68 : Cond.methodLink RX12 68 yX12_plain ∈ pj_T := pj_tw6 (List.mem_of_getElem? (i := 196) rfl) rfl
theorem fl_X12_7 : pj_FL RX12 7 26 0 true := ⟨rfl, by decide, by decide, RX12, TX12, rfl, rfl, rfl, pj_tw6 (List.mem_of_getElem? (i := 200) rfl) rfl, _, tyX12_ok 0 (by decide), pj_tyb_ok rfl⟩
theorem fl_X12_13 : pj_FL RX12 13 26 1 true := ⟨rfl, by decide, by decide, RX12, TX12, rfl, rfl, rfl, pj_tw6 (List.mem_of_getElem? (i := 201) rfl) rfl, _, tyX12_ok 1 (by decide), pj_tyb_ok rfl⟩
theorem fl_X12_72 : pj_FL RX12 72 26 2 false := ⟨rfl, by decide, by decide, RX12, TX12, rfl, rfl, rfl, pj_tw6 (List.mem_of_getElem? (i := 202) rfl) rfl, _, tyX12_ok 2 (by decide), pj_tyb_ok rfl⟩
theorem fl_X12_75 : pj_FL RX12 75 26 3 false := ⟨rfl, by decide, by decide, RX12, TX12, rfl, rfl, rfl, pj_tw6 (List.mem_of_getElem? (i := 203) rfl) rfl, _, tyX12_ok 3 (by decide), pj_tyb_ok rfl⟩
theorem fl_X12_17 : pj_FL RX12 17 26 4 false := ⟨rfl, by decide, by decide, RX12, TX12, rfl, rfl, rfl, pj_tw6 (List.mem_of_getElem? (i := 204) rfl) rfl, _, tyX12_ok 4 (by decide), pj_tyb_ok rfl⟩
theorem fl_X12_21 : pj_FL RX12 21 26 5 true := ⟨rfl, by decide, by decide, RX12, TX12, rfl, rfl, rfl, pj_tw6 (List.mem_of_getElem? (i := 205) rfl) rfl, _, tyX12_ok 5 (by decide), pj_tyb_ok rfl⟩
theorem fl_X12_24 : pj_FL RX12 24 26 6 true := ⟨rfl, by decide, by decide, RX12, TX12, rfl, rfl, rfl, pj_tw6 (List.mem_of_getElem? (i := 206) rfl) rfl, _, tyX12_ok 6 (by decide), pj_tyb_ok rfl⟩
theorem fl_X12_27 : pj_FL RX12 27 26 7 true := ⟨rfl, by decide, by decide, RX12, TX12, rfl, rfl, rfl, pj_tw6 (List.mem_of_getElem? (i := 207) rfl) rfl, _, tyX12_ok 7 (by decide), pj_tyb_ok rfl⟩
theorem fl_X12_30 : pj_FL RX12 30 26 8 true := ⟨rfl, by decide, by decide, RX12, TX12, rfl, rfl, rfl, pj_tw6 (List.mem_of_getElem? (i := 208) rfl) rfl, _, tyX12_ok 8 (by decide), pj_tyb_ok rfl⟩
theorem fl_X12_34 : pj_FL RX12 34 26 9 true := ⟨rfl, by decide, by decide, RX12, TX12, rfl, rfl, rfl, pj_tw6 (List.mem_of_getElem? (i := 209) rfl) rfl, _, tyX12_ok 9 (by decide), pj_tyb_ok rfl⟩
theorem fl_X12_102 : pj_FL RX12 102 26 10 false := ⟨rfl, by decide, by decide, RX12, TX12, rfl, rfl, rfl, pj_tw6 (List.mem_of_getElem? (i := 210) rfl) rfl, _, tyX12_ok 10 (by decide), pj_tyb_ok rfl⟩
theorem fl_X12_108 : pj_FL RX12 108 26 11 false := ⟨rfl, by decide, by decide, RX12, TX12, rfl, rfl, rfl, pj_tw6 (List.mem_of_getElem? (i := 211) rfl) rfl, _, tyX12_ok 11 (by decide), pj_tyb_ok rfl⟩
theorem fl_X12_123 : pj_FL RX12 123 26 12 false := ⟨rfl, by decide, by decide, RX12, TX12, rfl, rfl, rfl, pj_tw6 (List.mem_of_getElem? (i := 212) rfl) rfl, _, tyX12_ok 12 (by decide), pj_tyb_ok rfl⟩
theorem fl_X12_117 : pj_FL RX12 117 26 13 false := ⟨rfl, by decide, by decide, RX12, TX12, rfl, rfl, rfl, pj_tw6 (List.mem_of_getElem? (i := 213) rfl) rfl, _, tyX12_ok 13 (by decide), pj_tyb_ok rfl⟩
theorem fl_X12_111 : pj_FL RX12 111 26 14 false := ⟨rfl, by decide, by decide, RX12, TX12, rfl, rfl, rfl, pj_tw6 (List.mem_of_getElem? (i := 214) rfl) rfl, _, tyX12_ok 14 (by decide), pj_tyb_ok rfl⟩
theorem fl_X12_120 : pj_FL RX12 120 26 15 false := ⟨rfl, by decide, by decide, RX12, TX12, rfl, rfl, rfl, pj_tw6 (List.mem_of_getElem? (i := 215) rfl) rfl, _, tyX12_ok 15 (by decide), pj_tyb_ok rfl⟩
theorem fl_X12_37 : pj_FL RX12 37 26 16 false := ⟨rfl, by decide, by decide, RX12, TX12, rfl, rfl, rfl, pj_tw6 (List.mem_of_getElem? (i := 216) rfl) rfl, _, tyX12_ok 16 (by decide), pj_tyb_ok rfl⟩
theorem fl_X12_41 : pj_FL RX12 41 26 17 false := ⟨rfl, by decide, by decide, RX12, TX12, rfl, rfl, rfl, pj_tw6 (List.mem_of_getElem? (i := 217) rfl) rfl, _, tyX12_ok 17 (by decide), pj_tyb_ok rfl⟩
theorem fl_X12_148 : pj_FL RX12 148 26 18 false := ⟨rfl, by decide, by decide, RX12, TX12, rfl, rfl, rfl, pj_tw6 (List.mem_of_getElem? (i := 218) rfl) rfl, _, tyX12_ok 18 (by decide), pj_tyb_ok rfl⟩
theorem fl_X12_151 : pj_FL RX12 151 26 19 false := ⟨rfl, by decide, by decide, RX12, TX12, rfl, rfl, rfl, pj_tw6 (List.mem_of_getElem? (i := 219) rfl) rfl, _, tyX12_ok 19 (by decide), pj_tyb_ok rfl⟩
theorem fl_X12_214 : pj_FL RX12 214 26 20 false := ⟨rfl, by decide, by decide, RX12, TX12, rfl, rfl, rfl, pj_tw6 (List.mem_of_getElem? (i := 220) rfl) rfl, _, tyX12_ok 20 (by decide), pj_tyb_ok rfl⟩
theorem fl_X12_204 : pj_FL RX12 204 26 21 false := ⟨rfl, by decide, by decide, RX12, TX12, rfl, rfl, rfl, pj_tw6 (List.mem_of_getElem? (i := 221) rfl) rfl, _, tyX12_ok 21 (by decide), pj_tyb_ok rfl⟩
theorem fl_X12_44 : pj_FL RX12 44 26 22 true := ⟨rfl, by decide, by decide, RX12, TX12, rfl, rfl, rfl, pj_tw6 (List.mem_of_getElem? (i := 222) rfl) rfl, _, tyX12_ok 22 (by decide), pj_tyb_ok rfl⟩
theorem fl_X12_253 : pj_FL RX12 253 26 23 false := ⟨rfl, by decide, by decide, RX12, TX12, rfl, rfl, rfl, pj_tw6 (List.mem_of_getElem? (i := 223) rfl) rfl, _, tyX12_ok 23 (by decide), pj_tyb_ok rfl⟩
theorem fl_X12_256 : pj_FL RX12 256 26 24 false := ⟨rfl, by decide, by decide, RX12, TX12, rfl, rfl, rfl, pj_tw6 (List.mem_of_getElem? (i := 224) rfl) rfl, _, tyX12_ok 24 (by decide), pj_tyb_ok rfl⟩
theorem fl_X12_47 : pj_FL RX12 47 26 25 true := ⟨rfl, by decide, by decide, RX12, TX12, rfl, rfl, rfl, pj_tw6 (List.mem_of_getElem? (i := 225) rfl) rfl, _, tyX12_ok 25 (by decide), pj_tyb_ok rfl⟩
theorem fl_X12_50 : pj_FL RX12 50 26 26 true := ⟨rfl, by decide, by decide, RX12, TX12, rfl, rfl, rfl, pj_tw6 (List.mem_of_getElem? (i := 226) rfl) rfl, _, tyX12_ok 26 (by decide), pj_tyb_ok rfl⟩
theorem fl_X12_53 : pj_FL RX12 53 26 27 true := ⟨rfl, by decide, by decide, RX12, TX12, rfl, rfl, rfl, pj_tw6 (List.mem_of_getElem? (i := 227) rfl) rfl, _, tyX12_ok 27 (by decide), pj_tyb_ok rfl⟩
theorem fl_X12_56 : pj_FL RX12 56 26 28 true := ⟨rfl, by decide, by decide, RX12, TX12, rfl, rfl, rfl, pj_tw6 (List.mem_of_getElem? (i := 228) rfl) rfl, _, tyX12_ok 28 (by decide), pj_tyb_ok rfl⟩
theorem fl_X12_396 : pj_FL RX12 396 26 29 false := ⟨rfl, by decide, by decide, RX12, TX12, rfl, rfl, rfl, pj_tw6 (List.mem_of_getElem? (i := 229) rfl) rfl, _, tyX12_ok 29 (by decide), pj_tyb_ok rfl⟩
theorem fl_X12_402 : pj_FL RX12 402 26 30 false := ⟨rfl, by decide, by decide, RX12, TX12, rfl, rfl, rfl, pj_tw6 (List.mem_of_getElem? (i := 230) rfl) rfl, _, tyX12_ok 30 (by decide), pj_tyb_ok rfl⟩
theorem fl_X12_419 : pj_FL RX12 419 26 31 false := ⟨rfl, by decide, by decide, RX12, TX12, rfl, rfl, rfl, pj_tw6 (List.mem_of_getElem? (i := 231) rfl) rfl, _, tyX12_ok 31 (by decide), pj_tyb_ok rfl⟩
theorem fl_X12_429 : pj_FL RX12 429 26 32 false := ⟨rfl, by decide, by decide, RX12, TX12, rfl, rfl, rfl, pj_tw6 (List.mem_of_getElem? (i := 232) rfl) rfl, _, tyX12_ok 32 (by decide), pj_tyb_ok rfl⟩
theorem fl_X12_59 : pj_FL RX12 59 26 33 true := ⟨rfl, by decide, by decide, RX12, TX12, rfl, rfl, rfl, pj_tw6 (List.mem_of_getElem? (i := 233) rfl) rfl, _, tyX12_ok 33 (by decide), pj_tyb_ok rfl⟩
theorem fl_X12_62 : pj_FL RX12 62 26 34 true := ⟨rfl, by decide, by decide, RX12, TX12, rfl, rfl, rfl, pj_tw6 (List.mem_of_getElem? (i := 234) rfl) rfl, _, tyX12_ok 34 (by decide), pj_tyb_ok rfl⟩
theorem fl_X12_65 : pj_FL RX12 65 26 35 true := ⟨rfl, by decide, by decide, RX12, TX12, rfl, rfl, rfl, pj_tw6 (List.mem_of_getElem? (i := 235) rfl) rfl, _, tyX12_ok 35 (by decide), pj_tyb_ok rfl⟩
theorem fl_X12_446 : pj_FL RX12 446 26 36 false := ⟨rfl, by decide, by decide, RX12, TX12, rfl, rfl, rfl, pj_tw6 (List.mem_of_getElem? (i := 236) rfl) rfl, _, tyX12_ok 36 (by decide), pj_tyb_ok rfl⟩
theorem fl_X12_451 : pj_FL RX12 451 26 37 false := ⟨rfl, by decide, by decide, RX12, TX12, rfl, rfl, rfl, pj_tw6 (List.mem_of_getElem? (i := 237) rfl) rfl, _, tyX12_ok 37 (by decide), pj_tyb_ok rfl⟩
theorem ml_L_17 : Cond.methodLink RL 17 yX12_status ∈ pj_T := pj_tw7 (List.mem_of_getElem? (i := 75) rfl) rfl
theorem ml_L_22 : Cond.methodLink RL 22 yX12_top ∈ pj_T := pj_tw7 (List.mem_of_getElem? (i := 79) rfl) rfl
theorem ml_L_26 : Cond.methodLink RL 26 yX12_bottom ∈ pj_T := pj_tw7 (List.mem_of_getElem? (i := 83) rfl) rfl
theorem ml_L_31 : Cond.methodLink RL 31 yX12_tray ∈ pj_T := pj_tw7 (List.mem_of_getElem? (i := 87) rfl) rfl
theorem ml_X12_89 : Cond.methodLink RX12 89 yX12_isTray ∈ pj_T := pj_tw7 (List.mem_of_getElem? (i := 91) rfl) rfl
theorem ml_X12_85 : Cond.methodLink RX12 85 yX12_is ∈ pj_T := pj_tw7 (List.mem_of_getElem? (i := 94) rfl) rfl
theorem ml_L_38 : Cond.methodLink RL 38 yX12_write ∈ pj_T := pj_tw7 (List.mem_of_getElem? (i := 98) rfl) rfl
theorem ml_X12_92 : Cond.methodLink RX12 92 yX12_wrongPlace ∈ pj_T := pj_tw7 (List.mem_of_getElem? (i := 102) rfl) rfl
theorem ml_X12_96 : Cond.methodLink RX12 96 yX12_cut ∈ pj_T := pj_tw7 (List.mem_of_getElem? (i := 106) rfl) rfl
theorem ml_L_43 : Cond.methodLink RL 43 yX12_read ∈ pj_T := pj_tw7 (List.mem_of_getElem? (i := 109) rfl) rfl
theorem kn_X12_100 : Cond.constantLong RX12 100 (-1 : Int64) ∈ pj_T := pj_tw7 (List.mem_of_getElem? (i := 113) rfl) rfl
theorem ml_L_48 : Cond.methodLink RL 48 yX12_pour ∈ pj_T := pj_tw7 (List.mem_of_getElem? (i := 114) rfl) rfl
theorem ml_L_53 : Cond.methodLink RL 53 yX12_feed ∈ pj_T := pj_tw7 (List.mem_of_getElem? (i := 118) rfl) rfl
theorem ml_X12_105 : Cond.methodLink RX12 105 yX12_four ∈ pj_T := pj_tw7 (List.mem_of_getElem? (i := 122) rfl) rfl
theorem ml_L_66 : Cond.methodLink RL 66 yX12_fault ∈ pj_T := pj_tw7 (List.mem_of_getElem? (i := 126) rfl) rfl
theorem ml_L_58 : Cond.methodLink RL 58 yX12_beach ∈ pj_T := pj_tw7 (List.mem_of_getElem? (i := 130) rfl) rfl
theorem ml_X12_231 : Cond.methodLink RX12 231 yX12_begins ∈ pj_T := pj_tw7 (List.mem_of_getElem? (i := 134) rfl) rfl
theorem ml_X12_154 : Cond.methodLink RX12 154 yX12_ahead ∈ pj_T := pj_tw7 (List.mem_of_getElem? (i := 138) rfl) rfl
theorem ml_X12_114 : Cond.methodLink RX12 114 yX12_byteAt ∈ pj_T := pj_tw7 (List.mem_of_getElem? (i := 142) rfl) rfl
theorem ml_X12_126 : Cond.methodLink RX12 126 yX12_isSmall ∈ pj_T := pj_tw7 (List.mem_of_getElem? (i := 146) rfl) rfl
theorem ml_X12_129 : Cond.methodLink RX12 129 yX12_isDigit ∈ pj_T := pj_tw7 (List.mem_of_getElem? (i := 149) rfl) rfl
theorem kn_X12_132 : Cond.constant RX12 132 (100000 : Int32) ∈ pj_T := pj_tw7 (List.mem_of_getElem? (i := 152) rfl) rfl
theorem ml_X12_133 : Cond.methodLink RX12 133 yJ9_min_7cf53 ∈ pj_T := pj_tw7 (List.mem_of_getElem? (i := 153) rfl) rfl
theorem ml_X12_78 : Cond.methodLink RX12 78 yX12_refuse ∈ pj_T := pj_tw7 (List.mem_of_getElem? (i := 154) rfl) rfl
theorem ml_X12_235 : Cond.methodLink RX12 235 yX12_first ∈ pj_T := pj_tw7 (List.mem_of_getElem? (i := 158) rfl) rfl
theorem ml_X12_187 : Cond.methodLink RX12 187 yX12_wantWord ∈ pj_T := pj_tw7 (List.mem_of_getElem? (i := 163) rfl) rfl
theorem ml_X12_163 : Cond.methodLink RX12 163 yX12_inWords ∈ pj_T := pj_tw7 (List.mem_of_getElem? (i := 167) rfl) rfl
theorem ml_X12_138 : Cond.methodLink RX12 138 yJ0_length_8abf5 ∈ pj_T := pj_tw7 (List.mem_of_getElem? (i := 171) rfl) rfl
theorem ml_X12_144 : Cond.methodLink RX12 144 yJ0_charAt_5068e ∈ pj_T := pj_tw7 (List.mem_of_getElem? (i := 172) rfl) rfl
theorem ml_X12_160 : Cond.methodLink RX12 160 yX12_fails ∈ pj_T := pj_tw7 (List.mem_of_getElem? (i := 173) rfl) rfl
theorem ml_X12_191 : Cond.methodLink RX12 191 yX12_number ∈ pj_T := pj_tw7 (List.mem_of_getElem? (i := 177) rfl) rfl
theorem ml_X12_195 : Cond.methodLink RX12 195 yX12_wantSign ∈ pj_T := pj_tw7 (List.mem_of_getElem? (i := 181) rfl) rfl
theorem ml_X12_157 : Cond.methodLink RX12 157 yX12_isSign ∈ pj_T := pj_tw7 (List.mem_of_getElem? (i := 185) rfl) rfl
theorem ml_X12_238 : Cond.methodLink RX12 238 yX12_beachPart ∈ pj_T := pj_tw7 (List.mem_of_getElem? (i := 189) rfl) rfl
theorem ml_X12_218 : Cond.methodLink RX12 218 yX12_aFinder ∈ pj_T := pj_tw7 (List.mem_of_getElem? (i := 193) rfl) rfl
theorem ml_X12_198 : Cond.methodLink RX12 198 yX12_newOne ∈ pj_T := pj_tw7 (List.mem_of_getElem? (i := 197) rfl) rfl
theorem ml_X12_180 : Cond.methodLink RX12 180 yX12_isName ∈ pj_T := pj_tw7 (List.mem_of_getElem? (i := 201) rfl) rfl
theorem ml_X12_184 : Cond.methodLink RX12 184 yX12_findHere ∈ pj_T := pj_tw7 (List.mem_of_getElem? (i := 205) rfl) rfl
theorem ml_X12_167 : Cond.methodLink RX12 167 yX12_nameHere ∈ pj_T := pj_tw7 (List.mem_of_getElem? (i := 209) rfl) rfl
theorem ml_X12_201 : Cond.methodLink RX12 201 yX12_atCell ∈ pj_T := pj_tw7 (List.mem_of_getElem? (i := 213) rfl) rfl
theorem ml_X12_222 : Cond.methodLink RX12 222 yX12_aFind ∈ pj_T := pj_tw7 (List.mem_of_getElem? (i := 217) rfl) rfl
theorem ml_X12_171 : Cond.methodLink RX12 171 yX12_findRow ∈ pj_T := pj_tw7 (List.mem_of_getElem? (i := 221) rfl) rfl
theorem ml_X12_225 : Cond.methodLink RX12 225 yX12_aPebble ∈ pj_T := pj_tw7 (List.mem_of_getElem? (i := 224) rfl) rfl
theorem ml_X12_207 : Cond.methodLink RX12 207 yX12_oldOne ∈ pj_T := pj_tw7 (List.mem_of_getElem? (i := 228) rfl) rfl
theorem ml_X12_210 : Cond.methodLink RX12 210 yX12_comes ∈ pj_T := pj_tw7 (List.mem_of_getElem? (i := 232) rfl) rfl
theorem ml_X12_174 : Cond.methodLink RX12 174 yX12_pebbleRow ∈ pj_T := pj_tw7 (List.mem_of_getElem? (i := 236) rfl) rfl
theorem ml_X12_228 : Cond.methodLink RX12 228 yX12_aDuel ∈ pj_T := pj_tw7 (List.mem_of_getElem? (i := 239) rfl) rfl
theorem ml_X12_241 : Cond.methodLink RX12 241 yX12_taken ∈ pj_T := pj_tw8 (List.mem_of_getElem? (i := 3) rfl) rfl
theorem ml_X12_82 : Cond.methodLink RX12 82 yX12_gives ∈ pj_T := pj_tw8 (List.mem_of_getElem? (i := 7) rfl) rfl
theorem ml_L_62 : Cond.methodLink RL 62 yX12_days ∈ pj_T := pj_tw8 (List.mem_of_getElem? (i := 11) rfl) rfl
theorem ml_X12_262 : Cond.methodLink RX12 262 yX12_dayStep ∈ pj_T := pj_tw8 (List.mem_of_getElem? (i := 15) rfl) rfl
theorem ml_X12_259 : Cond.methodLink RX12 259 yX12_dayOrder ∈ pj_T := pj_tw8 (List.mem_of_getElem? (i := 19) rfl) rfl
theorem ml_X12_247 : Cond.methodLink RX12 247 yX12_finderTo ∈ pj_T := pj_tw8 (List.mem_of_getElem? (i := 23) rfl) rfl
theorem ml_X12_244 : Cond.methodLink RX12 244 yX12_findTo ∈ pj_T := pj_tw8 (List.mem_of_getElem? (i := 27) rfl) rfl
theorem ml_X12_250 : Cond.methodLink RX12 250 yX12_test ∈ pj_T := pj_tw8 (List.mem_of_getElem? (i := 31) rfl) rfl
theorem ml_L_70 : Cond.methodLink RL 70 yX12_told ∈ pj_T := pj_tw8 (List.mem_of_getElem? (i := 35) rfl) rfl
theorem ml_L_75 : Cond.methodLink RL 75 yX12_finder ∈ pj_T := pj_tw8 (List.mem_of_getElem? (i := 39) rfl) rfl
theorem ml_X12_271 : Cond.methodLink RX12 271 yX12_isFinder ∈ pj_T := pj_tw8 (List.mem_of_getElem? (i := 43) rfl) rfl
theorem ml_X12_274 : Cond.methodLink RX12 274 yX12_finderRow ∈ pj_T := pj_tw8 (List.mem_of_getElem? (i := 47) rfl) rfl
theorem ml_L_79 : Cond.methodLink RL 79 yX12_find ∈ pj_T := pj_tw8 (List.mem_of_getElem? (i := 50) rfl) rfl
theorem ml_X12_265 : Cond.methodLink RX12 265 yX12_isFind ∈ pj_T := pj_tw8 (List.mem_of_getElem? (i := 54) rfl) rfl
theorem ml_L_84 : Cond.methodLink RL 84 yX12_pebble ∈ pj_T := pj_tw8 (List.mem_of_getElem? (i := 58) rfl) rfl
theorem ml_X12_277 : Cond.methodLink RX12 277 yX12_manyOn ∈ pj_T := pj_tw8 (List.mem_of_getElem? (i := 62) rfl) rfl
theorem ml_L_88 : Cond.methodLink RL 88 yX12_go ∈ pj_T := pj_tw8 (List.mem_of_getElem? (i := 66) rfl) rfl
theorem ml_X12_289 : Cond.methodLink RX12 289 yX12_isFrom ∈ pj_T := pj_tw8 (List.mem_of_getElem? (i := 70) rfl) rfl
theorem ml_X12_293 : Cond.methodLink RX12 293 yX12_went ∈ pj_T := pj_tw8 (List.mem_of_getElem? (i := 73) rfl) rfl
theorem ml_X12_283 : Cond.methodLink RX12 283 yX12_stepsTo ∈ pj_T := pj_tw8 (List.mem_of_getElem? (i := 77) rfl) rfl
theorem ml_X12_280 : Cond.methodLink RX12 280 yJ9_abs_0f7a4 ∈ pj_T := pj_tw8 (List.mem_of_getElem? (i := 81) rfl) rfl
theorem ml_X12_286 : Cond.methodLink RX12 286 yX12_mayTo ∈ pj_T := pj_tw8 (List.mem_of_getElem? (i := 82) rfl) rfl
theorem ml_L_92 : Cond.methodLink RL 92 yX12_pass ∈ pj_T := pj_tw8 (List.mem_of_getElem? (i := 86) rfl) rfl
theorem kn_X12_296 : Cond.constantLong RX12 296 (240 : Int64) ∈ pj_T := pj_tw8 (List.mem_of_getElem? (i := 90) rfl) rfl
theorem ml_X12_298 : Cond.methodLink RX12 298 yX12_waited ∈ pj_T := pj_tw8 (List.mem_of_getElem? (i := 91) rfl) rfl
theorem ml_L_96 : Cond.methodLink RL 96 yX12_set ∈ pj_T := pj_tw8 (List.mem_of_getElem? (i := 95) rfl) rfl
theorem ml_X12_301 : Cond.methodLink RX12 301 yX12_wrongSet ∈ pj_T := pj_tw8 (List.mem_of_getElem? (i := 99) rfl) rfl
theorem ml_X12_268 : Cond.methodLink RX12 268 yX12_isThere ∈ pj_T := pj_tw8 (List.mem_of_getElem? (i := 103) rfl) rfl
theorem ml_X12_304 : Cond.methodLink RX12 304 yX12_sets ∈ pj_T := pj_tw8 (List.mem_of_getElem? (i := 107) rfl) rfl
theorem ml_L_100 : Cond.methodLink RL 100 yX12_lift ∈ pj_T := pj_tw8 (List.mem_of_getElem? (i := 111) rfl) rfl
theorem ml_X12_320 : Cond.methodLink RX12 320 yX12_wrongLift ∈ pj_T := pj_tw8 (List.mem_of_getElem? (i := 115) rfl) rfl
theorem ml_X12_311 : Cond.methodLink RX12 311 yX12_ownOn ∈ pj_T := pj_tw8 (List.mem_of_getElem? (i := 119) rfl) rfl
theorem ml_X12_308 : Cond.methodLink RX12 308 yX12_whoAt ∈ pj_T := pj_tw8 (List.mem_of_getElem? (i := 123) rfl) rfl
theorem ml_X12_323 : Cond.methodLink RX12 323 yX12_lifts ∈ pj_T := pj_tw8 (List.mem_of_getElem? (i := 127) rfl) rfl
theorem ml_X12_314 : Cond.methodLink RX12 314 yX12_minuteAt ∈ pj_T := pj_tw8 (List.mem_of_getElem? (i := 131) rfl) rfl
theorem ml_X12_317 : Cond.methodLink RX12 317 yX12_goes ∈ pj_T := pj_tw8 (List.mem_of_getElem? (i := 135) rfl) rfl
theorem ml_L_104 : Cond.methodLink RL 104 yX12_gull ∈ pj_T := pj_tw8 (List.mem_of_getElem? (i := 139) rfl) rfl
theorem ml_X12_326 : Cond.methodLink RX12 326 yX12_wrongGull ∈ pj_T := pj_tw8 (List.mem_of_getElem? (i := 143) rfl) rfl
theorem ml_X12_329 : Cond.methodLink RX12 329 yX12_carries ∈ pj_T := pj_tw8 (List.mem_of_getElem? (i := 147) rfl) rfl
theorem ml_L_108 : Cond.methodLink RL 108 yX12_wave ∈ pj_T := pj_tw8 (List.mem_of_getElem? (i := 151) rfl) rfl
theorem kn_X12_332 : Cond.constantLong RX12 332 (40 : Int64) ∈ pj_T := pj_tw8 (List.mem_of_getElem? (i := 155) rfl) rfl
theorem ml_X12_334 : Cond.methodLink RX12 334 yX12_washes ∈ pj_T := pj_tw8 (List.mem_of_getElem? (i := 156) rfl) rfl
theorem ml_L_120 : Cond.methodLink RL 120 yX12_last ∈ pj_T := pj_tw8 (List.mem_of_getElem? (i := 160) rfl) rfl
theorem ml_X12_349 : Cond.methodLink RX12 349 yX12_wrongFind ∈ pj_T := pj_tw8 (List.mem_of_getElem? (i := 164) rfl) rfl
theorem ml_X12_337 : Cond.methodLink RX12 337 yX12_lastOn ∈ pj_T := pj_tw8 (List.mem_of_getElem? (i := 168) rfl) rfl
theorem ml_L_124 : Cond.methodLink RL 124 yX12_whose ∈ pj_T := pj_tw8 (List.mem_of_getElem? (i := 172) rfl) rfl
theorem ml_X12_343 : Cond.methodLink RX12 343 yX12_ownersOf ∈ pj_T := pj_tw8 (List.mem_of_getElem? (i := 176) rfl) rfl
theorem ml_X12_340 : Cond.methodLink RX12 340 yX12_bits ∈ pj_T := pj_tw8 (List.mem_of_getElem? (i := 180) rfl) rfl
theorem ml_L_128 : Cond.methodLink RL 128 yX12_leads ∈ pj_T := pj_tw8 (List.mem_of_getElem? (i := 183) rfl) rfl
theorem ml_X12_352 : Cond.methodLink RX12 352 yX12_leadOf ∈ pj_T := pj_tw8 (List.mem_of_getElem? (i := 187) rfl) rfl
theorem ml_X12_346 : Cond.methodLink RX12 346 yX12_shareOf ∈ pj_T := pj_tw8 (List.mem_of_getElem? (i := 191) rfl) rfl
theorem ml_L_132 : Cond.methodLink RL 132 yX12_leader ∈ pj_T := pj_tw8 (List.mem_of_getElem? (i := 195) rfl) rfl
theorem ml_X12_355 : Cond.methodLink RX12 355 yX12_atRank ∈ pj_T := pj_tw8 (List.mem_of_getElem? (i := 199) rfl) rfl
theorem ml_X12_358 : Cond.methodLink RX12 358 yX12_orNone ∈ pj_T := pj_tw8 (List.mem_of_getElem? (i := 203) rfl) rfl
theorem ml_L_200 : Cond.methodLink RL 200 yX12_ranked ∈ pj_T := pj_tw8 (List.mem_of_getElem? (i := 207) rfl) rfl
theorem ml_L_136 : Cond.methodLink RL 136 yX12_duels ∈ pj_T := pj_tw8 (List.mem_of_getElem? (i := 211) rfl) rfl
theorem ml_L_140 : Cond.methodLink RL 140 yX12_needs ∈ pj_T := pj_tw8 (List.mem_of_getElem? (i := 215) rfl) rfl
theorem ml_L_144 : Cond.methodLink RL 144 yX12_strewn ∈ pj_T := pj_tw8 (List.mem_of_getElem? (i := 219) rfl) rfl
theorem ml_X12_361 : Cond.methodLink RX12 361 yX12_strewnOf ∈ pj_T := pj_tw8 (List.mem_of_getElem? (i := 223) rfl) rfl
theorem ml_X12_364 : Cond.methodLink RX12 364 yX12_ownMany ∈ pj_T := pj_tw8 (List.mem_of_getElem? (i := 227) rfl) rfl
theorem ml_L_264 : Cond.methodLink RL 264 yX12_lies ∈ pj_T := pj_tw8 (List.mem_of_getElem? (i := 231) rfl) rfl
theorem ml_L_204 : Cond.methodLink RL 204 yX12_rivals ∈ pj_T := pj_tw8 (List.mem_of_getElem? (i := 235) rfl) rfl
theorem ml_L_208 : Cond.methodLink RL 208 yX12_richest ∈ pj_T := pj_tw8 (List.mem_of_getElem? (i := 239) rfl) rfl
theorem ml_L_212 : Cond.methodLink RL 212 yX12_left ∈ pj_T := pj_tw9 (List.mem_of_getElem? (i := 3) rfl) rfl
theorem ml_X12_367 : Cond.methodLink RX12 367 yX12_wrongLast ∈ pj_T := pj_tw9 (List.mem_of_getElem? (i := 7) rfl) rfl
theorem ml_X12_370 : Cond.methodLink RX12 370 yX12_leftOn ∈ pj_T := pj_tw9 (List.mem_of_getElem? (i := 11) rfl) rfl
theorem ml_L_216 : Cond.methodLink RL 216 yX12_tideIn ∈ pj_T := pj_tw9 (List.mem_of_getElem? (i := 15) rfl) rfl
theorem kn_X12_373 : Cond.constantLong RX12 373 (99 : Int64) ∈ pj_T := pj_tw9 (List.mem_of_getElem? (i := 19) rfl) rfl
theorem ml_X12_375 : Cond.methodLink RX12 375 yJ9_max_7cf53 ∈ pj_T := pj_tw9 (List.mem_of_getElem? (i := 20) rfl) rfl
theorem ml_L_244 : Cond.methodLink RL 244 yX12_latest ∈ pj_T := pj_tw9 (List.mem_of_getElem? (i := 21) rfl) rfl
theorem ml_L_248 : Cond.methodLink RL 248 yX12_behind ∈ pj_T := pj_tw9 (List.mem_of_getElem? (i := 25) rfl) rfl
theorem ml_L_252 : Cond.methodLink RL 252 yX12_alone ∈ pj_T := pj_tw9 (List.mem_of_getElem? (i := 29) rfl) rfl
theorem ml_L_256 : Cond.methodLink RL 256 yX12_part ∈ pj_T := pj_tw9 (List.mem_of_getElem? (i := 33) rfl) rfl
theorem ml_L_260 : Cond.methodLink RL 260 yX12_crowd ∈ pj_T := pj_tw9 (List.mem_of_getElem? (i := 37) rfl) rfl
theorem ml_L_188 : Cond.methodLink RL 188 yX12_walk ∈ pj_T := pj_tw9 (List.mem_of_getElem? (i := 41) rfl) rfl
theorem ml_L_220 : Cond.methodLink RL 220 yX12_open ∈ pj_T := pj_tw9 (List.mem_of_getElem? (i := 45) rfl) rfl
theorem ml_L_224 : Cond.methodLink RL 224 yX12_farthest ∈ pj_T := pj_tw9 (List.mem_of_getElem? (i := 49) rfl) rfl
theorem ml_L_228 : Cond.methodLink RL 228 yX12_time ∈ pj_T := pj_tw9 (List.mem_of_getElem? (i := 53) rfl) rfl
theorem ml_L_232 : Cond.methodLink RL 232 yX12_tally ∈ pj_T := pj_tw9 (List.mem_of_getElem? (i := 57) rfl) rfl
theorem ml_L_236 : Cond.methodLink RL 236 yX12_busiest ∈ pj_T := pj_tw9 (List.mem_of_getElem? (i := 61) rfl) rfl
theorem ml_L_240 : Cond.methodLink RL 240 yX12_both ∈ pj_T := pj_tw9 (List.mem_of_getElem? (i := 65) rfl) rfl
theorem ml_X12_378 : Cond.methodLink RX12 378 yX12_seenBy ∈ pj_T := pj_tw9 (List.mem_of_getElem? (i := 69) rfl) rfl
theorem ml_L_112 : Cond.methodLink RL 112 yX12_tide ∈ pj_T := pj_tw9 (List.mem_of_getElem? (i := 73) rfl) rfl
theorem ml_X12_381 : Cond.methodLink RX12 381 yX12_floods ∈ pj_T := pj_tw9 (List.mem_of_getElem? (i := 77) rfl) rfl
theorem ml_L_116 : Cond.methodLink RL 116 yX12_dawn ∈ pj_T := pj_tw9 (List.mem_of_getElem? (i := 81) rfl) rfl
theorem ml_X12_384 : Cond.methodLink RX12 384 yX12_dawns ∈ pj_T := pj_tw9 (List.mem_of_getElem? (i := 85) rfl) rfl
theorem ml_L_148 : Cond.methodLink RL 148 yX12_soonest ∈ pj_T := pj_tw9 (List.mem_of_getElem? (i := 89) rfl) rfl
theorem ml_X12_390 : Cond.methodLink RX12 390 yX12_soonestOf ∈ pj_T := pj_tw9 (List.mem_of_getElem? (i := 93) rfl) rfl
theorem ml_X12_387 : Cond.methodLink RX12 387 yX12_behindOthers ∈ pj_T := pj_tw9 (List.mem_of_getElem? (i := 97) rfl) rfl
theorem ml_L_152 : Cond.methodLink RL 152 yX12_threat ∈ pj_T := pj_tw9 (List.mem_of_getElem? (i := 101) rfl) rfl
theorem ml_X12_393 : Cond.methodLink RX12 393 yX12_threatTo ∈ pj_T := pj_tw9 (List.mem_of_getElem? (i := 105) rfl) rfl
theorem ml_L_196 : Cond.methodLink RL 196 yX12_safe ∈ pj_T := pj_tw9 (List.mem_of_getElem? (i := 109) rfl) rfl
theorem ml_L_192 : Cond.methodLink RL 192 yX12_gain ∈ pj_T := pj_tw9 (List.mem_of_getElem? (i := 113) rfl) rfl
theorem ml_L_156 : Cond.methodLink RL 156 yX12_best ∈ pj_T := pj_tw9 (List.mem_of_getElem? (i := 117) rfl) rfl
theorem ml_X12_399 : Cond.methodLink RX12 399 yX12_rounds ∈ pj_T := pj_tw9 (List.mem_of_getElem? (i := 121) rfl) rfl
theorem ml_L_160 : Cond.methodLink RL 160 yX12_bestAt ∈ pj_T := pj_tw9 (List.mem_of_getElem? (i := 125) rfl) rfl
theorem ml_L_164 : Cond.methodLink RL 164 yX12_lateness ∈ pj_T := pj_tw9 (List.mem_of_getElem? (i := 129) rfl) rfl
theorem ml_L_168 : Cond.methodLink RL 168 yX12_seen ∈ pj_T := pj_tw9 (List.mem_of_getElem? (i := 133) rfl) rfl
theorem ml_L_172 : Cond.methodLink RL 172 yX12_boys ∈ pj_T := pj_tw9 (List.mem_of_getElem? (i := 137) rfl) rfl
theorem ml_X12_408 : Cond.methodLink RX12 408 yX12_boy ∈ pj_T := pj_tw9 (List.mem_of_getElem? (i := 141) rfl) rfl
theorem ml_X12_405 : Cond.methodLink RX12 405 yX12_boyFrom ∈ pj_T := pj_tw9 (List.mem_of_getElem? (i := 145) rfl) rfl
theorem ml_L_176 : Cond.methodLink RL 176 yX12_boyAt ∈ pj_T := pj_tw9 (List.mem_of_getElem? (i := 149) rfl) rfl
theorem ml_L_180 : Cond.methodLink RL 180 yX12_odds ∈ pj_T := pj_tw9 (List.mem_of_getElem? (i := 153) rfl) rfl
theorem kn_X12_411 : Cond.constantLong RX12 411 (16 : Int64) ∈ pj_T := pj_tw9 (List.mem_of_getElem? (i := 157) rfl) rfl
theorem ml_X12_413 : Cond.methodLink RX12 413 yX12_tellsBy ∈ pj_T := pj_tw9 (List.mem_of_getElem? (i := 158) rfl) rfl
theorem ml_L_184 : Cond.methodLink RL 184 yX12_gulls ∈ pj_T := pj_tw9 (List.mem_of_getElem? (i := 162) rfl) rfl
theorem kn_X12_417 : Cond.constantLong RX12 417 (60 : Int64) ∈ pj_T := pj_tw9 (List.mem_of_getElem? (i := 166) rfl) rfl
theorem ml_L_268 : Cond.methodLink RL 268 yX12_live ∈ pj_T := pj_tw9 (List.mem_of_getElem? (i := 167) rfl) rfl
theorem kn_X12_441 : Cond.constantLong RX12 441 (9999 : Int64) ∈ pj_T := pj_tw9 (List.mem_of_getElem? (i := 171) rfl) rfl
theorem ml_X12_443 : Cond.methodLink RX12 443 yX12_lives ∈ pj_T := pj_tw9 (List.mem_of_getElem? (i := 172) rfl) rfl
theorem ml_X12_432 : Cond.methodLink RX12 432 yX12_does ∈ pj_T := pj_tw9 (List.mem_of_getElem? (i := 176) rfl) rfl
theorem ml_X12_426 : Cond.methodLink RX12 426 yX12_gullComes ∈ pj_T := pj_tw9 (List.mem_of_getElem? (i := 180) rfl) rfl
theorem ml_X12_423 : Cond.methodLink RX12 423 yX12_draw ∈ pj_T := pj_tw9 (List.mem_of_getElem? (i := 184) rfl) rfl
theorem kn_X12_422 : Cond.constant RX12 422 (65536 : Int32) ∈ pj_T := pj_tw9 (List.mem_of_getElem? (i := 188) rfl) rfl
theorem ml_X12_435 : Cond.methodLink RX12 435 yX12_holds ∈ pj_T := pj_tw9 (List.mem_of_getElem? (i := 189) rfl) rfl
theorem ml_X12_438 : Cond.methodLink RX12 438 yX12_behindEnds ∈ pj_T := pj_tw9 (List.mem_of_getElem? (i := 193) rfl) rfl
theorem ml_L_272 : Cond.methodLink RL 272 yX12_lived ∈ pj_T := pj_tw9 (List.mem_of_getElem? (i := 197) rfl) rfl
theorem ml_L_276 : Cond.methodLink RL 276 yX12_mean ∈ pj_T := pj_tw9 (List.mem_of_getElem? (i := 201) rfl) rfl
theorem kn_X12_449 : Cond.constantLong RX12 449 (20 : Int64) ∈ pj_T := pj_tw9 (List.mem_of_getElem? (i := 205) rfl) rfl
theorem ml_L_280 : Cond.methodLink RL 280 yX12_mark ∈ pj_T := pj_tw9 (List.mem_of_getElem? (i := 206) rfl) rfl
theorem ml_X12_454 : Cond.methodLink RX12 454 yX12_copies ∈ pj_T := pj_tw9 (List.mem_of_getElem? (i := 210) rfl) rfl
theorem ml_L_284 : Cond.methodLink RL 284 yX12_back ∈ pj_T := pj_tw9 (List.mem_of_getElem? (i := 214) rfl) rfl
theorem kn_L_32 : Cond.constantLong RL 32 (4294967295 : Int64) ∈ pj_T := pj_tw9 (List.mem_of_getElem? (i := 218) rfl) rfl
theorem mf_X0_init : pj_MF yX0_init cX0_init 2 none 0 := ⟨pj_tw2 (List.mem_of_getElem? (i := 2) rfl) rfl, pj_tw1 (List.mem_of_getElem? (i := 11) rfl) rfl, ⟨by decide +kernel, by decide +kernel⟩, by decide +kernel⟩
theorem mi_X0_init : yX0_init.name = "<init>" ∧ Cond.instanceMethod yX0_init ∈ pj_T := ⟨rfl, pj_tw2 (List.mem_of_getElem? (i := 1) rfl) rfl⟩
theorem mf_X0_clear : pj_MF yX0_clear cX0_clear 1 none 0 := ⟨pj_tw2 (List.mem_of_getElem? (i := 95) rfl) rfl, pj_tw1 (List.mem_of_getElem? (i := 11) rfl) rfl, ⟨by decide +kernel, by decide +kernel⟩, by decide +kernel⟩
theorem mv_X0_clear : Cond.instanceMethod yX0_clear ∈ pj_T ∧ Cond.selects yX0_clear.cls yX0_clear yX0_clear ∈ pj_T := ⟨pj_tw2 (List.mem_of_getElem? (i := 93) rfl) rfl, pj_tw2 (List.mem_of_getElem? (i := 94) rfl) rfl⟩
theorem mf_X0_copyFrom : pj_MF yX0_copyFrom cX0_copyFrom 3 none 1 := ⟨pj_tw6 (List.mem_of_getElem? (i := 163) rfl) rfl, pj_tw1 (List.mem_of_getElem? (i := 11) rfl) rfl, ⟨by decide +kernel, by decide +kernel⟩, by decide +kernel⟩
theorem mv_X0_copyFrom : Cond.instanceMethod yX0_copyFrom ∈ pj_T ∧ Cond.selects yX0_copyFrom.cls yX0_copyFrom yX0_copyFrom ∈ pj_T := ⟨pj_tw6 (List.mem_of_getElem? (i := 161) rfl) rfl, pj_tw6 (List.mem_of_getElem? (i := 162) rfl) rfl⟩
theorem mf_X0_addFinder : pj_MF yX0_addFinder cX0_addFinder 7 none 4 := ⟨pj_tw3 (List.mem_of_getElem? (i := 214) rfl) rfl, pj_tw1 (List.mem_of_getElem? (i := 11) rfl) rfl, ⟨by decide +kernel, by decide +kernel⟩, by decide +kernel⟩
theorem mv_X0_addFinder : Cond.instanceMethod yX0_addFinder ∈ pj_T ∧ Cond.selects yX0_addFinder.cls yX0_addFinder yX0_addFinder ∈ pj_T := ⟨pj_tw3 (List.mem_of_getElem? (i := 212) rfl) rfl, pj_tw3 (List.mem_of_getElem? (i := 213) rfl) rfl⟩
theorem mf_X0_addFind : pj_MF yX0_addFind cX0_addFind 6 none 3 := ⟨pj_tw3 (List.mem_of_getElem? (i := 222) rfl) rfl, pj_tw1 (List.mem_of_getElem? (i := 11) rfl) rfl, ⟨by decide +kernel, by decide +kernel⟩, by decide +kernel⟩
theorem mv_X0_addFind : Cond.instanceMethod yX0_addFind ∈ pj_T ∧ Cond.selects yX0_addFind.cls yX0_addFind yX0_addFind ∈ pj_T := ⟨pj_tw3 (List.mem_of_getElem? (i := 220) rfl) rfl, pj_tw3 (List.mem_of_getElem? (i := 221) rfl) rfl⟩
theorem mf_X0_finderAt : pj_MF yX0_finderAt cX0_finderAt 2 (some (.object "LastPebble$Finder")) 1 := ⟨pj_tw4 (List.mem_of_getElem? (i := 127) rfl) rfl, pj_tw1 (List.mem_of_getElem? (i := 11) rfl) rfl, ⟨by decide +kernel, by decide +kernel⟩, by decide +kernel⟩
theorem mv_X0_finderAt : Cond.instanceMethod yX0_finderAt ∈ pj_T ∧ Cond.selects yX0_finderAt.cls yX0_finderAt yX0_finderAt ∈ pj_T := ⟨pj_tw4 (List.mem_of_getElem? (i := 125) rfl) rfl, pj_tw4 (List.mem_of_getElem? (i := 126) rfl) rfl⟩
theorem mf_X0_findAt : pj_MF yX0_findAt cX0_findAt 2 (some (.object "LastPebble$Find")) 1 := ⟨pj_tw4 (List.mem_of_getElem? (i := 10) rfl) rfl, pj_tw1 (List.mem_of_getElem? (i := 11) rfl) rfl, ⟨by decide +kernel, by decide +kernel⟩, by decide +kernel⟩
theorem mv_X0_findAt : Cond.instanceMethod yX0_findAt ∈ pj_T ∧ Cond.selects yX0_findAt.cls yX0_findAt yX0_findAt ∈ pj_T := ⟨pj_tw4 (List.mem_of_getElem? (i := 8) rfl) rfl, pj_tw4 (List.mem_of_getElem? (i := 9) rfl) rfl⟩
theorem mf_X0_finderNamed : pj_MF yX0_finderNamed cX0_finderNamed 4 (some .int) 1 := ⟨pj_tw3 (List.mem_of_getElem? (i := 205) rfl) rfl, pj_tw1 (List.mem_of_getElem? (i := 11) rfl) rfl, ⟨by decide +kernel, by decide +kernel⟩, by decide +kernel⟩
theorem mv_X0_finderNamed : Cond.instanceMethod yX0_finderNamed ∈ pj_T ∧ Cond.selects yX0_finderNamed.cls yX0_finderNamed yX0_finderNamed ∈ pj_T := ⟨pj_tw3 (List.mem_of_getElem? (i := 203) rfl) rfl, pj_tw3 (List.mem_of_getElem? (i := 204) rfl) rfl⟩
theorem mf_X0_findNamed : pj_MF yX0_findNamed cX0_findNamed 4 (some .int) 1 := ⟨pj_tw3 (List.mem_of_getElem? (i := 209) rfl) rfl, pj_tw1 (List.mem_of_getElem? (i := 11) rfl) rfl, ⟨by decide +kernel, by decide +kernel⟩, by decide +kernel⟩
theorem mv_X0_findNamed : Cond.instanceMethod yX0_findNamed ∈ pj_T ∧ Cond.selects yX0_findNamed.cls yX0_findNamed yX0_findNamed ∈ pj_T := ⟨pj_tw3 (List.mem_of_getElem? (i := 207) rfl) rfl, pj_tw3 (List.mem_of_getElem? (i := 208) rfl) rfl⟩
theorem mf_X0_thereSet : pj_MF yX0_thereSet cX0_thereSet 3 (some .int) 0 := ⟨pj_tw4 (List.mem_of_getElem? (i := 118) rfl) rfl, pj_tw1 (List.mem_of_getElem? (i := 11) rfl) rfl, ⟨by decide +kernel, by decide +kernel⟩, by decide +kernel⟩
theorem mv_X0_thereSet : Cond.instanceMethod yX0_thereSet ∈ pj_T ∧ Cond.selects yX0_thereSet.cls yX0_thereSet yX0_thereSet ∈ pj_T := ⟨pj_tw4 (List.mem_of_getElem? (i := 116) rfl) rfl, pj_tw4 (List.mem_of_getElem? (i := 117) rfl) rfl⟩
theorem mf_X0_lying : pj_MF yX0_lying cX0_lying 3 (some .int) 0 := ⟨pj_tw3 (List.mem_of_getElem? (i := 230) rfl) rfl, pj_tw1 (List.mem_of_getElem? (i := 11) rfl) rfl, ⟨by decide +kernel, by decide +kernel⟩, by decide +kernel⟩
theorem mv_X0_lying : Cond.instanceMethod yX0_lying ∈ pj_T ∧ Cond.selects yX0_lying.cls yX0_lying yX0_lying ∈ pj_T := ⟨pj_tw3 (List.mem_of_getElem? (i := 228) rfl) rfl, pj_tw3 (List.mem_of_getElem? (i := 229) rfl) rfl⟩
theorem mf_X0_done : pj_MF yX0_done cX0_done 2 (some .int) 1 := ⟨pj_tw4 (List.mem_of_getElem? (i := 164) rfl) rfl, pj_tw1 (List.mem_of_getElem? (i := 11) rfl) rfl, ⟨by decide +kernel, by decide +kernel⟩, by decide +kernel⟩
theorem mv_X0_done : Cond.instanceMethod yX0_done ∈ pj_T ∧ Cond.selects yX0_done.cls yX0_done yX0_done ∈ pj_T := ⟨pj_tw4 (List.mem_of_getElem? (i := 163) rfl) rfl, pj_inT (List.mem_append_left _ (List.mem_of_getElem? (i := 32) rfl)) rfl⟩
theorem mf_X0_spend : pj_MF yX0_spend cX0_spend 3 (some .int) 2 := ⟨pj_tw4 (List.mem_of_getElem? (i := 160) rfl) rfl, pj_tw1 (List.mem_of_getElem? (i := 11) rfl) rfl, ⟨by decide +kernel, by decide +kernel⟩, by decide +kernel⟩
theorem mv_X0_spend : Cond.instanceMethod yX0_spend ∈ pj_T ∧ Cond.selects yX0_spend.cls yX0_spend yX0_spend ∈ pj_T := ⟨pj_tw4 (List.mem_of_getElem? (i := 159) rfl) rfl, pj_inT (List.mem_append_left _ (List.mem_of_getElem? (i := 31) rfl)) rfl⟩
theorem mf_X0_walkTo : pj_MF yX0_walkTo cX0_walkTo 5 (some .int) 2 := ⟨pj_tw4 (List.mem_of_getElem? (i := 148) rfl) rfl, pj_tw1 (List.mem_of_getElem? (i := 11) rfl) rfl, ⟨by decide +kernel, by decide +kernel⟩, by decide +kernel⟩
theorem mv_X0_walkTo : Cond.instanceMethod yX0_walkTo ∈ pj_T ∧ Cond.selects yX0_walkTo.cls yX0_walkTo yX0_walkTo ∈ pj_T := ⟨pj_tw4 (List.mem_of_getElem? (i := 146) rfl) rfl, pj_tw4 (List.mem_of_getElem? (i := 147) rfl) rfl⟩
theorem mf_X0_waitFor : pj_MF yX0_waitFor cX0_waitFor 4 (some .int) 2 := ⟨pj_tw4 (List.mem_of_getElem? (i := 176) rfl) rfl, pj_tw1 (List.mem_of_getElem? (i := 11) rfl) rfl, ⟨by decide +kernel, by decide +kernel⟩, by decide +kernel⟩
theorem mv_X0_waitFor : Cond.instanceMethod yX0_waitFor ∈ pj_T ∧ Cond.selects yX0_waitFor.cls yX0_waitFor yX0_waitFor ∈ pj_T := ⟨pj_tw4 (List.mem_of_getElem? (i := 174) rfl) rfl, pj_tw4 (List.mem_of_getElem? (i := 175) rfl) rfl⟩
theorem mf_X0_layOn : pj_MF yX0_layOn cX0_layOn 5 (some .int) 2 := ⟨pj_tw4 (List.mem_of_getElem? (i := 184) rfl) rfl, pj_tw1 (List.mem_of_getElem? (i := 11) rfl) rfl, ⟨by decide +kernel, by decide +kernel⟩, by decide +kernel⟩
theorem mv_X0_layOn : Cond.instanceMethod yX0_layOn ∈ pj_T ∧ Cond.selects yX0_layOn.cls yX0_layOn yX0_layOn ∈ pj_T := ⟨pj_tw4 (List.mem_of_getElem? (i := 182) rfl) rfl, pj_tw4 (List.mem_of_getElem? (i := 183) rfl) rfl⟩
theorem mf_X0_takeUp : pj_MF yX0_takeUp cX0_takeUp 7 (some .int) 2 := ⟨pj_tw4 (List.mem_of_getElem? (i := 195) rfl) rfl, pj_tw1 (List.mem_of_getElem? (i := 11) rfl) rfl, ⟨by decide +kernel, by decide +kernel⟩, by decide +kernel⟩
theorem mv_X0_takeUp : Cond.instanceMethod yX0_takeUp ∈ pj_T ∧ Cond.selects yX0_takeUp.cls yX0_takeUp yX0_takeUp ∈ pj_T := ⟨pj_tw4 (List.mem_of_getElem? (i := 193) rfl) rfl, pj_tw4 (List.mem_of_getElem? (i := 194) rfl) rfl⟩
theorem mf_X0_carry : pj_MF yX0_carry cX0_carry 8 (some .int) 2 := ⟨pj_tw4 (List.mem_of_getElem? (i := 213) rfl) rfl, pj_tw1 (List.mem_of_getElem? (i := 11) rfl) rfl, ⟨by decide +kernel, by decide +kernel⟩, by decide +kernel⟩
theorem mv_X0_carry : Cond.instanceMethod yX0_carry ∈ pj_T ∧ Cond.selects yX0_carry.cls yX0_carry yX0_carry ∈ pj_T := ⟨pj_tw4 (List.mem_of_getElem? (i := 211) rfl) rfl, pj_tw4 (List.mem_of_getElem? (i := 212) rfl) rfl⟩
theorem mf_X0_washBelow : pj_MF yX0_washBelow cX0_washBelow 4 (some .int) 1 := ⟨pj_tw4 (List.mem_of_getElem? (i := 221) rfl) rfl, pj_tw1 (List.mem_of_getElem? (i := 11) rfl) rfl, ⟨by decide +kernel, by decide +kernel⟩, by decide +kernel⟩
theorem mv_X0_washBelow : Cond.instanceMethod yX0_washBelow ∈ pj_T ∧ Cond.selects yX0_washBelow.cls yX0_washBelow yX0_washBelow ∈ pj_T := ⟨pj_tw4 (List.mem_of_getElem? (i := 219) rfl) rfl, pj_tw4 (List.mem_of_getElem? (i := 220) rfl) rfl⟩
theorem mf_X0_comeTide : pj_MF yX0_comeTide cX0_comeTide 2 (some .int) 0 := ⟨pj_tw4 (List.mem_of_getElem? (i := 229) rfl) rfl, pj_tw1 (List.mem_of_getElem? (i := 11) rfl) rfl, ⟨by decide +kernel, by decide +kernel⟩, by decide +kernel⟩
theorem mv_X0_comeTide : Cond.instanceMethod yX0_comeTide ∈ pj_T ∧ Cond.selects yX0_comeTide.cls yX0_comeTide yX0_comeTide ∈ pj_T := ⟨pj_tw4 (List.mem_of_getElem? (i := 227) rfl) rfl, pj_tw4 (List.mem_of_getElem? (i := 228) rfl) rfl⟩
theorem mf_X0_give : pj_MF yX0_give cX0_give 5 none 2 := ⟨pj_tw5 (List.mem_of_getElem? (i := 14) rfl) rfl, pj_tw1 (List.mem_of_getElem? (i := 11) rfl) rfl, ⟨by decide +kernel, by decide +kernel⟩, by decide +kernel⟩
theorem mv_X0_give : Cond.instanceMethod yX0_give ∈ pj_T ∧ Cond.selects yX0_give.cls yX0_give yX0_give ∈ pj_T := ⟨pj_tw5 (List.mem_of_getElem? (i := 13) rfl) rfl, pj_inT (List.mem_append_left _ (List.mem_of_getElem? (i := 34) rfl)) rfl⟩
theorem mf_X0_comeDawn : pj_MF yX0_comeDawn cX0_comeDawn 2 (some .int) 0 := ⟨pj_tw5 (List.mem_of_getElem? (i := 37) rfl) rfl, pj_tw1 (List.mem_of_getElem? (i := 11) rfl) rfl, ⟨by decide +kernel, by decide +kernel⟩, by decide +kernel⟩
theorem mv_X0_comeDawn : Cond.instanceMethod yX0_comeDawn ∈ pj_T ∧ Cond.selects yX0_comeDawn.cls yX0_comeDawn yX0_comeDawn ∈ pj_T := ⟨pj_tw5 (List.mem_of_getElem? (i := 35) rfl) rfl, pj_tw5 (List.mem_of_getElem? (i := 36) rfl) rfl⟩
theorem mf_X0_tideAfter : pj_MF yX0_tideAfter cX0_tideAfter 2 (some .int) 1 := ⟨pj_tw5 (List.mem_of_getElem? (i := 26) rfl) rfl, pj_tw1 (List.mem_of_getElem? (i := 11) rfl) rfl, ⟨by decide +kernel, by decide +kernel⟩, by decide +kernel⟩
theorem mv_X0_tideAfter : Cond.instanceMethod yX0_tideAfter ∈ pj_T ∧ Cond.selects yX0_tideAfter.cls yX0_tideAfter yX0_tideAfter ∈ pj_T := ⟨pj_tw5 (List.mem_of_getElem? (i := 24) rfl) rfl, pj_tw5 (List.mem_of_getElem? (i := 25) rfl) rfl⟩
theorem mf_X0_heirs : pj_MF yX0_heirs cX0_heirs 3 (some .int) 1 := ⟨pj_tw4 (List.mem_of_getElem? (i := 234) rfl) rfl, pj_tw1 (List.mem_of_getElem? (i := 11) rfl) rfl, ⟨by decide +kernel, by decide +kernel⟩, by decide +kernel⟩
theorem mv_X0_heirs : Cond.instanceMethod yX0_heirs ∈ pj_T ∧ Cond.selects yX0_heirs.cls yX0_heirs yX0_heirs ∈ pj_T := ⟨pj_tw4 (List.mem_of_getElem? (i := 232) rfl) rfl, pj_tw4 (List.mem_of_getElem? (i := 233) rfl) rfl⟩
theorem mf_X0_firstOf : pj_MF yX0_firstOf cX0_firstOf 2 (some .int) 1 := ⟨pj_tw5 (List.mem_of_getElem? (i := 7) rfl) rfl, pj_tw1 (List.mem_of_getElem? (i := 11) rfl) rfl, ⟨by decide +kernel, by decide +kernel⟩, by decide +kernel⟩
theorem ms_X0_firstOf : Cond.static yX0_firstOf ∈ pj_T := pj_tw5 (List.mem_of_getElem? (i := 6) rfl) rfl
theorem mf_X0_lastOf : pj_MF yX0_lastOf cX0_lastOf 2 (some .int) 1 := ⟨pj_tw5 (List.mem_of_getElem? (i := 10) rfl) rfl, pj_tw1 (List.mem_of_getElem? (i := 11) rfl) rfl, ⟨by decide +kernel, by decide +kernel⟩, by decide +kernel⟩
theorem ms_X0_lastOf : Cond.static yX0_lastOf ∈ pj_T := pj_tw5 (List.mem_of_getElem? (i := 9) rfl) rfl
theorem mf_X0_shareOf : pj_MF yX0_shareOf cX0_shareOf 5 (some .int) 2 := ⟨pj_tw5 (List.mem_of_getElem? (i := 59) rfl) rfl, pj_tw1 (List.mem_of_getElem? (i := 11) rfl) rfl, ⟨by decide +kernel, by decide +kernel⟩, by decide +kernel⟩
theorem mv_X0_shareOf : Cond.instanceMethod yX0_shareOf ∈ pj_T ∧ Cond.selects yX0_shareOf.cls yX0_shareOf yX0_shareOf ∈ pj_T := ⟨pj_tw5 (List.mem_of_getElem? (i := 57) rfl) rfl, pj_tw5 (List.mem_of_getElem? (i := 58) rfl) rfl⟩
theorem mf_X0_leadOf : pj_MF yX0_leadOf cX0_leadOf 4 (some .int) 1 := ⟨pj_tw5 (List.mem_of_getElem? (i := 55) rfl) rfl, pj_tw1 (List.mem_of_getElem? (i := 11) rfl) rfl, ⟨by decide +kernel, by decide +kernel⟩, by decide +kernel⟩
theorem mv_X0_leadOf : Cond.instanceMethod yX0_leadOf ∈ pj_T ∧ Cond.selects yX0_leadOf.cls yX0_leadOf yX0_leadOf ∈ pj_T := ⟨pj_tw5 (List.mem_of_getElem? (i := 53) rfl) rfl, pj_tw5 (List.mem_of_getElem? (i := 54) rfl) rfl⟩
theorem mf_X0_ranking : pj_MF yX0_ranking cX0_ranking 3 (some .int) 1 := ⟨pj_tw5 (List.mem_of_getElem? (i := 67) rfl) rfl, pj_tw1 (List.mem_of_getElem? (i := 11) rfl) rfl, ⟨by decide +kernel, by decide +kernel⟩, by decide +kernel⟩
theorem mv_X0_ranking : Cond.instanceMethod yX0_ranking ∈ pj_T ∧ Cond.selects yX0_ranking.cls yX0_ranking yX0_ranking ∈ pj_T := ⟨pj_tw5 (List.mem_of_getElem? (i := 65) rfl) rfl, pj_tw5 (List.mem_of_getElem? (i := 66) rfl) rfl⟩
theorem mf_X0_findersAhead : pj_MF yX0_findersAhead cX0_findersAhead 6 (some .int) 1 := ⟨pj_tw5 (List.mem_of_getElem? (i := 71) rfl) rfl, pj_tw1 (List.mem_of_getElem? (i := 11) rfl) rfl, ⟨by decide +kernel, by decide +kernel⟩, by decide +kernel⟩
theorem mv_X0_findersAhead : Cond.instanceMethod yX0_findersAhead ∈ pj_T ∧ Cond.selects yX0_findersAhead.cls yX0_findersAhead yX0_findersAhead ∈ pj_T := ⟨pj_tw5 (List.mem_of_getElem? (i := 70) rfl) rfl, pj_inT (List.mem_append_left _ (List.mem_of_getElem? (i := 35) rfl)) rfl⟩
theorem mf_X0_keptBy : pj_MF yX0_keptBy cX0_keptBy 3 (some .int) 1 := ⟨pj_tw6 (List.mem_of_getElem? (i := 176) rfl) rfl, pj_tw1 (List.mem_of_getElem? (i := 11) rfl) rfl, ⟨by decide +kernel, by decide +kernel⟩, by decide +kernel⟩
theorem mv_X0_keptBy : Cond.instanceMethod yX0_keptBy ∈ pj_T ∧ Cond.selects yX0_keptBy.cls yX0_keptBy yX0_keptBy ∈ pj_T := ⟨pj_tw6 (List.mem_of_getElem? (i := 174) rfl) rfl, pj_tw6 (List.mem_of_getElem? (i := 175) rfl) rfl⟩
theorem mf_X0_strewnBy : pj_MF yX0_strewnBy cX0_strewnBy 4 (some .int) 1 := ⟨pj_tw5 (List.mem_of_getElem? (i := 18) rfl) rfl, pj_tw1 (List.mem_of_getElem? (i := 11) rfl) rfl, ⟨by decide +kernel, by decide +kernel⟩, by decide +kernel⟩
theorem mv_X0_strewnBy : Cond.instanceMethod yX0_strewnBy ∈ pj_T ∧ Cond.selects yX0_strewnBy.cls yX0_strewnBy yX0_strewnBy ∈ pj_T := ⟨pj_tw5 (List.mem_of_getElem? (i := 16) rfl) rfl, pj_tw5 (List.mem_of_getElem? (i := 17) rfl) rfl⟩
theorem mf_X0_soonestOf : pj_MF yX0_soonestOf cX0_soonestOf 5 (some .int) 2 := ⟨pj_tw5 (List.mem_of_getElem? (i := 94) rfl) rfl, pj_tw1 (List.mem_of_getElem? (i := 11) rfl) rfl, ⟨by decide +kernel, by decide +kernel⟩, by decide +kernel⟩
theorem mv_X0_soonestOf : Cond.instanceMethod yX0_soonestOf ∈ pj_T ∧ Cond.selects yX0_soonestOf.cls yX0_soonestOf yX0_soonestOf ∈ pj_T := ⟨pj_tw5 (List.mem_of_getElem? (i := 92) rfl) rfl, pj_tw5 (List.mem_of_getElem? (i := 93) rfl) rfl⟩
theorem mf_X0_threatTo : pj_MF yX0_threatTo cX0_threatTo 4 (some .int) 1 := ⟨pj_tw5 (List.mem_of_getElem? (i := 106) rfl) rfl, pj_tw1 (List.mem_of_getElem? (i := 11) rfl) rfl, ⟨by decide +kernel, by decide +kernel⟩, by decide +kernel⟩
theorem mv_X0_threatTo : Cond.instanceMethod yX0_threatTo ∈ pj_T ∧ Cond.selects yX0_threatTo.cls yX0_threatTo yX0_threatTo ∈ pj_T := ⟨pj_tw5 (List.mem_of_getElem? (i := 104) rfl) rfl, pj_tw5 (List.mem_of_getElem? (i := 105) rfl) rfl⟩
theorem mf_X0_sightOf : pj_MF yX0_sightOf cX0_sightOf 5 (some .int) 2 := ⟨pj_tw5 (List.mem_of_getElem? (i := 189) rfl) rfl, pj_tw1 (List.mem_of_getElem? (i := 11) rfl) rfl, ⟨by decide +kernel, by decide +kernel⟩, by decide +kernel⟩
theorem mv_X0_sightOf : Cond.instanceMethod yX0_sightOf ∈ pj_T ∧ Cond.selects yX0_sightOf.cls yX0_sightOf yX0_sightOf ∈ pj_T := ⟨pj_tw5 (List.mem_of_getElem? (i := 187) rfl) rfl, pj_tw5 (List.mem_of_getElem? (i := 188) rfl) rfl⟩
theorem mf_X0_findersIn : pj_MF yX0_findersIn cX0_findersIn 5 (some .int) 2 := ⟨pj_tw6 (List.mem_of_getElem? (i := 81) rfl) rfl, pj_tw1 (List.mem_of_getElem? (i := 11) rfl) rfl, ⟨by decide +kernel, by decide +kernel⟩, by decide +kernel⟩
theorem mv_X0_findersIn : Cond.instanceMethod yX0_findersIn ∈ pj_T ∧ Cond.selects yX0_findersIn.cls yX0_findersIn yX0_findersIn ∈ pj_T := ⟨pj_tw6 (List.mem_of_getElem? (i := 79) rfl) rfl, pj_tw6 (List.mem_of_getElem? (i := 80) rfl) rfl⟩
theorem mf_X0_boyCell : pj_MF yX0_boyCell cX0_boyCell 7 (some .int) 2 := ⟨pj_tw5 (List.mem_of_getElem? (i := 198) rfl) rfl, pj_tw1 (List.mem_of_getElem? (i := 11) rfl) rfl, ⟨by decide +kernel, by decide +kernel⟩, by decide +kernel⟩
theorem mv_X0_boyCell : Cond.instanceMethod yX0_boyCell ∈ pj_T ∧ Cond.selects yX0_boyCell.cls yX0_boyCell yX0_boyCell ∈ pj_T := ⟨pj_tw5 (List.mem_of_getElem? (i := 196) rfl) rfl, pj_tw5 (List.mem_of_getElem? (i := 197) rfl) rfl⟩
theorem mf_X0_leftmostFrom : pj_MF yX0_leftmostFrom cX0_leftmostFrom 5 (some .int) 1 := ⟨pj_tw5 (List.mem_of_getElem? (i := 202) rfl) rfl, pj_tw1 (List.mem_of_getElem? (i := 11) rfl) rfl, ⟨by decide +kernel, by decide +kernel⟩, by decide +kernel⟩
theorem mv_X0_leftmostFrom : Cond.instanceMethod yX0_leftmostFrom ∈ pj_T ∧ Cond.selects yX0_leftmostFrom.cls yX0_leftmostFrom yX0_leftmostFrom ∈ pj_T := ⟨pj_tw5 (List.mem_of_getElem? (i := 201) rfl) rfl, pj_inT (List.mem_append_left _ (List.mem_of_getElem? (i := 46) rfl)) rfl⟩
theorem mf_X1_init : pj_MF yX1_init cX1_init 2 none 1 := ⟨pj_tw1 (List.mem_of_getElem? (i := 136) rfl) rfl, pj_tw1 (List.mem_of_getElem? (i := 7) rfl) rfl, ⟨by decide +kernel, by decide +kernel⟩, by decide +kernel⟩
theorem mi_X1_init : yX1_init.name = "<init>" ∧ Cond.instanceMethod yX1_init ∈ pj_T := ⟨rfl, pj_tw1 (List.mem_of_getElem? (i := 135) rfl) rfl⟩
theorem mf_X1_takeBeach : pj_MF yX1_takeBeach cX1_takeBeach 4 (some .boolean) 1 := ⟨pj_tw3 (List.mem_of_getElem? (i := 149) rfl) rfl, pj_tw1 (List.mem_of_getElem? (i := 7) rfl) rfl, ⟨by decide +kernel, by decide +kernel⟩, by decide +kernel⟩
theorem mv_X1_takeBeach : Cond.instanceMethod yX1_takeBeach ∈ pj_T ∧ Cond.selects yX1_takeBeach.cls yX1_takeBeach yX1_takeBeach ∈ pj_T := ⟨pj_tw3 (List.mem_of_getElem? (i := 147) rfl) rfl, pj_tw3 (List.mem_of_getElem? (i := 148) rfl) rfl⟩
theorem mf_X1_takeHead : pj_MF yX1_takeHead cX1_takeHead 4 (some .boolean) 0 := ⟨pj_tw3 (List.mem_of_getElem? (i := 154) rfl) rfl, pj_tw1 (List.mem_of_getElem? (i := 7) rfl) rfl, ⟨by decide +kernel, by decide +kernel⟩, by decide +kernel⟩
theorem mv_X1_takeHead : Cond.instanceMethod yX1_takeHead ∈ pj_T ∧ Cond.selects yX1_takeHead.cls yX1_takeHead yX1_takeHead ∈ pj_T := ⟨pj_tw3 (List.mem_of_getElem? (i := 153) rfl) rfl, pj_inT (List.mem_append_left _ (List.mem_of_getElem? (i := 11) rfl)) rfl⟩
theorem mf_X1_takePart : pj_MF yX1_takePart cX1_takePart 1 (some .boolean) 0 := ⟨pj_tw3 (List.mem_of_getElem? (i := 190) rfl) rfl, pj_tw1 (List.mem_of_getElem? (i := 7) rfl) rfl, ⟨by decide +kernel, by decide +kernel⟩, by decide +kernel⟩
theorem mv_X1_takePart : Cond.instanceMethod yX1_takePart ∈ pj_T ∧ Cond.selects yX1_takePart.cls yX1_takePart yX1_takePart ∈ pj_T := ⟨pj_tw3 (List.mem_of_getElem? (i := 189) rfl) rfl, pj_inT (List.mem_append_left _ (List.mem_of_getElem? (i := 13) rfl)) rfl⟩
theorem mf_X1_takeFinderPart : pj_MF yX1_takeFinderPart cX1_takeFinderPart 6 (some .boolean) 0 := ⟨pj_tw3 (List.mem_of_getElem? (i := 194) rfl) rfl, pj_tw1 (List.mem_of_getElem? (i := 7) rfl) rfl, ⟨by decide +kernel, by decide +kernel⟩, by decide +kernel⟩
theorem mv_X1_takeFinderPart : Cond.instanceMethod yX1_takeFinderPart ∈ pj_T ∧ Cond.selects yX1_takeFinderPart.cls yX1_takeFinderPart yX1_takeFinderPart ∈ pj_T := ⟨pj_tw3 (List.mem_of_getElem? (i := 193) rfl) rfl, pj_inT (List.mem_append_left _ (List.mem_of_getElem? (i := 14) rfl)) rfl⟩
theorem mf_X1_takeFindPart : pj_MF yX1_takeFindPart cX1_takeFindPart 5 (some .boolean) 0 := ⟨pj_tw3 (List.mem_of_getElem? (i := 218) rfl) rfl, pj_tw1 (List.mem_of_getElem? (i := 7) rfl) rfl, ⟨by decide +kernel, by decide +kernel⟩, by decide +kernel⟩
theorem mv_X1_takeFindPart : Cond.instanceMethod yX1_takeFindPart ∈ pj_T ∧ Cond.selects yX1_takeFindPart.cls yX1_takeFindPart yX1_takeFindPart ∈ pj_T := ⟨pj_tw3 (List.mem_of_getElem? (i := 217) rfl) rfl, pj_inT (List.mem_append_left _ (List.mem_of_getElem? (i := 15) rfl)) rfl⟩
theorem mf_X1_takePebblePart : pj_MF yX1_takePebblePart cX1_takePebblePart 4 (some .boolean) 0 := ⟨pj_tw3 (List.mem_of_getElem? (i := 226) rfl) rfl, pj_tw1 (List.mem_of_getElem? (i := 7) rfl) rfl, ⟨by decide +kernel, by decide +kernel⟩, by decide +kernel⟩
theorem mv_X1_takePebblePart : Cond.instanceMethod yX1_takePebblePart ∈ pj_T ∧ Cond.selects yX1_takePebblePart.cls yX1_takePebblePart yX1_takePebblePart ∈ pj_T := ⟨pj_tw3 (List.mem_of_getElem? (i := 225) rfl) rfl, pj_inT (List.mem_append_left _ (List.mem_of_getElem? (i := 16) rfl)) rfl⟩
theorem mf_X1_takeDuelPart : pj_MF yX1_takeDuelPart cX1_takeDuelPart 2 (some .boolean) 0 := ⟨pj_tw4 (List.mem_of_getElem? (i := 18) rfl) rfl, pj_tw1 (List.mem_of_getElem? (i := 7) rfl) rfl, ⟨by decide +kernel, by decide +kernel⟩, by decide +kernel⟩
theorem mv_X1_takeDuelPart : Cond.instanceMethod yX1_takeDuelPart ∈ pj_T ∧ Cond.selects yX1_takeDuelPart.cls yX1_takeDuelPart yX1_takeDuelPart ∈ pj_T := ⟨pj_tw4 (List.mem_of_getElem? (i := 17) rfl) rfl, pj_inT (List.mem_append_left _ (List.mem_of_getElem? (i := 18) rfl)) rfl⟩
theorem mf_X2_init : pj_MF yX2_init cX2_init 1 none 0 := ⟨pj_tw2 (List.mem_of_getElem? (i := 151) rfl) rfl, pj_tw1 (List.mem_of_getElem? (i := 14) rfl) rfl, ⟨by decide +kernel, by decide +kernel⟩, by decide +kernel⟩
theorem mi_X2_init : yX2_init.name = "<init>" ∧ Cond.instanceMethod yX2_init ∈ pj_T := ⟨rfl, pj_tw2 (List.mem_of_getElem? (i := 150) rfl) rfl⟩
theorem mf_X2_clear : pj_MF yX2_clear cX2_clear 1 none 0 := ⟨pj_tw4 (List.mem_of_getElem? (i := 22) rfl) rfl, pj_tw1 (List.mem_of_getElem? (i := 14) rfl) rfl, ⟨by decide +kernel, by decide +kernel⟩, by decide +kernel⟩
theorem mv_X2_clear : Cond.instanceMethod yX2_clear ∈ pj_T ∧ Cond.selects yX2_clear.cls yX2_clear yX2_clear ∈ pj_T := ⟨pj_tw4 (List.mem_of_getElem? (i := 20) rfl) rfl, pj_tw4 (List.mem_of_getElem? (i := 21) rfl) rfl⟩
theorem mf_X2_copyFrom : pj_MF yX2_copyFrom cX2_copyFrom 2 none 1 := ⟨pj_tw6 (List.mem_of_getElem? (i := 184) rfl) rfl, pj_tw1 (List.mem_of_getElem? (i := 14) rfl) rfl, ⟨by decide +kernel, by decide +kernel⟩, by decide +kernel⟩
theorem mv_X2_copyFrom : Cond.instanceMethod yX2_copyFrom ∈ pj_T ∧ Cond.selects yX2_copyFrom.cls yX2_copyFrom yX2_copyFrom ∈ pj_T := ⟨pj_tw6 (List.mem_of_getElem? (i := 182) rfl) rfl, pj_tw6 (List.mem_of_getElem? (i := 183) rfl) rfl⟩
theorem mf_X2_append : pj_MF yX2_append cX2_append 5 none 4 := ⟨pj_tw4 (List.mem_of_getElem? (i := 51) rfl) rfl, pj_tw1 (List.mem_of_getElem? (i := 14) rfl) rfl, ⟨by decide +kernel, by decide +kernel⟩, by decide +kernel⟩
theorem mv_X2_append : Cond.instanceMethod yX2_append ∈ pj_T ∧ Cond.selects yX2_append.cls yX2_append yX2_append ∈ pj_T := ⟨pj_tw4 (List.mem_of_getElem? (i := 49) rfl) rfl, pj_tw4 (List.mem_of_getElem? (i := 50) rfl) rfl⟩
theorem mf_X2_appendEnd : pj_MF yX2_appendEnd cX2_appendEnd 3 none 1 := ⟨pj_tw4 (List.mem_of_getElem? (i := 47) rfl) rfl, pj_tw1 (List.mem_of_getElem? (i := 14) rfl) rfl, ⟨by decide +kernel, by decide +kernel⟩, by decide +kernel⟩
theorem mv_X2_appendEnd : Cond.instanceMethod yX2_appendEnd ∈ pj_T ∧ Cond.selects yX2_appendEnd.cls yX2_appendEnd yX2_appendEnd ∈ pj_T := ⟨pj_tw4 (List.mem_of_getElem? (i := 45) rfl) rfl, pj_tw4 (List.mem_of_getElem? (i := 46) rfl) rfl⟩
theorem mf_X3_init : pj_MF yX3_init cX3_init 2 none 1 := ⟨pj_tw1 (List.mem_of_getElem? (i := 152) rfl) rfl, pj_tw1 (List.mem_of_getElem? (i := 8) rfl) rfl, ⟨by decide +kernel, by decide +kernel⟩, by decide +kernel⟩
theorem mi_X3_init : yX3_init.name = "<init>" ∧ Cond.instanceMethod yX3_init ∈ pj_T := ⟨rfl, pj_tw1 (List.mem_of_getElem? (i := 151) rfl) rfl⟩
theorem mf_X3_takeDays : pj_MF yX3_takeDays cX3_takeDays 5 (some .boolean) 2 := ⟨pj_tw4 (List.mem_of_getElem? (i := 34) rfl) rfl, pj_tw1 (List.mem_of_getElem? (i := 8) rfl) rfl, ⟨by decide +kernel, by decide +kernel⟩, by decide +kernel⟩
theorem mv_X3_takeDays : Cond.instanceMethod yX3_takeDays ∈ pj_T ∧ Cond.selects yX3_takeDays.cls yX3_takeDays yX3_takeDays ∈ pj_T := ⟨pj_tw4 (List.mem_of_getElem? (i := 32) rfl) rfl, pj_tw4 (List.mem_of_getElem? (i := 33) rfl) rfl⟩
theorem mf_X3_takeEnd : pj_MF yX3_takeEnd cX3_takeEnd 1 (some .boolean) 0 := ⟨pj_tw4 (List.mem_of_getElem? (i := 41) rfl) rfl, pj_tw1 (List.mem_of_getElem? (i := 8) rfl) rfl, ⟨by decide +kernel, by decide +kernel⟩, by decide +kernel⟩
theorem mv_X3_takeEnd : Cond.instanceMethod yX3_takeEnd ∈ pj_T ∧ Cond.selects yX3_takeEnd.cls yX3_takeEnd yX3_takeEnd ∈ pj_T := ⟨pj_tw4 (List.mem_of_getElem? (i := 40) rfl) rfl, pj_inT (List.mem_append_left _ (List.mem_of_getElem? (i := 20) rfl)) rfl⟩
theorem mf_X3_beginStep : pj_MF yX3_beginStep cX3_beginStep 3 (some .int) 0 := ⟨pj_tw4 (List.mem_of_getElem? (i := 55) rfl) rfl, pj_tw1 (List.mem_of_getElem? (i := 8) rfl) rfl, ⟨by decide +kernel, by decide +kernel⟩, by decide +kernel⟩
theorem mv_X3_beginStep : Cond.instanceMethod yX3_beginStep ∈ pj_T ∧ Cond.selects yX3_beginStep.cls yX3_beginStep yX3_beginStep ∈ pj_T := ⟨pj_tw4 (List.mem_of_getElem? (i := 54) rfl) rfl, pj_inT (List.mem_append_left _ (List.mem_of_getElem? (i := 21) rfl)) rfl⟩
theorem mf_X3_beginTest : pj_MF yX3_beginTest cX3_beginTest 2 (some .int) 0 := ⟨pj_tw4 (List.mem_of_getElem? (i := 62) rfl) rfl, pj_tw1 (List.mem_of_getElem? (i := 8) rfl) rfl, ⟨by decide +kernel, by decide +kernel⟩, by decide +kernel⟩
theorem mv_X3_beginTest : Cond.instanceMethod yX3_beginTest ∈ pj_T ∧ Cond.selects yX3_beginTest.cls yX3_beginTest yX3_beginTest ∈ pj_T := ⟨pj_tw4 (List.mem_of_getElem? (i := 61) rfl) rfl, pj_inT (List.mem_append_left _ (List.mem_of_getElem? (i := 22) rfl)) rfl⟩
theorem mf_X3_isPlain : pj_MF yX3_isPlain cX3_isPlain 1 (some .boolean) 1 := ⟨pj_tw4 (List.mem_of_getElem? (i := 58) rfl) rfl, pj_tw1 (List.mem_of_getElem? (i := 8) rfl) rfl, ⟨by decide +kernel, by decide +kernel⟩, by decide +kernel⟩
theorem ms_X3_isPlain : Cond.static yX3_isPlain ∈ pj_T := pj_tw4 (List.mem_of_getElem? (i := 57) rfl) rfl
theorem mf_X3_takeStep : pj_MF yX3_takeStep cX3_takeStep 2 (some .boolean) 1 := ⟨pj_tw4 (List.mem_of_getElem? (i := 66) rfl) rfl, pj_tw1 (List.mem_of_getElem? (i := 8) rfl) rfl, ⟨by decide +kernel, by decide +kernel⟩, by decide +kernel⟩
theorem mv_X3_takeStep : Cond.instanceMethod yX3_takeStep ∈ pj_T ∧ Cond.selects yX3_takeStep.cls yX3_takeStep yX3_takeStep ∈ pj_T := ⟨pj_tw4 (List.mem_of_getElem? (i := 65) rfl) rfl, pj_inT (List.mem_append_left _ (List.mem_of_getElem? (i := 23) rfl)) rfl⟩
theorem mf_X3_add : pj_MF yX3_add cX3_add 5 (some .boolean) 4 := ⟨pj_tw4 (List.mem_of_getElem? (i := 76) rfl) rfl, pj_tw1 (List.mem_of_getElem? (i := 8) rfl) rfl, ⟨by decide +kernel, by decide +kernel⟩, by decide +kernel⟩
theorem mv_X3_add : Cond.instanceMethod yX3_add ∈ pj_T ∧ Cond.selects yX3_add.cls yX3_add yX3_add ∈ pj_T := ⟨pj_tw4 (List.mem_of_getElem? (i := 75) rfl) rfl, pj_inT (List.mem_append_left _ (List.mem_of_getElem? (i := 25) rfl)) rfl⟩
theorem mf_X3_takeGo : pj_MF yX3_takeGo cX3_takeGo 3 (some .boolean) 0 := ⟨pj_tw4 (List.mem_of_getElem? (i := 70) rfl) rfl, pj_tw1 (List.mem_of_getElem? (i := 8) rfl) rfl, ⟨by decide +kernel, by decide +kernel⟩, by decide +kernel⟩
theorem mv_X3_takeGo : Cond.instanceMethod yX3_takeGo ∈ pj_T ∧ Cond.selects yX3_takeGo.cls yX3_takeGo yX3_takeGo ∈ pj_T := ⟨pj_tw4 (List.mem_of_getElem? (i := 69) rfl) rfl, pj_inT (List.mem_append_left _ (List.mem_of_getElem? (i := 24) rfl)) rfl⟩
theorem mf_X3_takeWait : pj_MF yX3_takeWait cX3_takeWait 3 (some .boolean) 0 := ⟨pj_tw4 (List.mem_of_getElem? (i := 86) rfl) rfl, pj_tw1 (List.mem_of_getElem? (i := 8) rfl) rfl, ⟨by decide +kernel, by decide +kernel⟩, by decide +kernel⟩
theorem mv_X3_takeWait : Cond.instanceMethod yX3_takeWait ∈ pj_T ∧ Cond.selects yX3_takeWait.cls yX3_takeWait yX3_takeWait ∈ pj_T := ⟨pj_tw4 (List.mem_of_getElem? (i := 85) rfl) rfl, pj_inT (List.mem_append_left _ (List.mem_of_getElem? (i := 27) rfl)) rfl⟩
theorem mf_X3_takeOnFind : pj_MF yX3_takeOnFind cX3_takeOnFind 4 (some .boolean) 1 := ⟨pj_tw4 (List.mem_of_getElem? (i := 81) rfl) rfl, pj_tw1 (List.mem_of_getElem? (i := 8) rfl) rfl, ⟨by decide +kernel, by decide +kernel⟩, by decide +kernel⟩
theorem mv_X3_takeOnFind : Cond.instanceMethod yX3_takeOnFind ∈ pj_T ∧ Cond.selects yX3_takeOnFind.cls yX3_takeOnFind yX3_takeOnFind ∈ pj_T := ⟨pj_tw4 (List.mem_of_getElem? (i := 80) rfl) rfl, pj_inT (List.mem_append_left _ (List.mem_of_getElem? (i := 26) rfl)) rfl⟩
theorem mf_X3_takeOnlyNumber : pj_MF yX3_takeOnlyNumber cX3_takeOnlyNumber 5 (some .boolean) 3 := ⟨pj_tw4 (List.mem_of_getElem? (i := 91) rfl) rfl, pj_tw1 (List.mem_of_getElem? (i := 8) rfl) rfl, ⟨by decide +kernel, by decide +kernel⟩, by decide +kernel⟩
theorem mv_X3_takeOnlyNumber : Cond.instanceMethod yX3_takeOnlyNumber ∈ pj_T ∧ Cond.selects yX3_takeOnlyNumber.cls yX3_takeOnlyNumber yX3_takeOnlyNumber ∈ pj_T := ⟨pj_tw4 (List.mem_of_getElem? (i := 90) rfl) rfl, pj_inT (List.mem_append_left _ (List.mem_of_getElem? (i := 28) rfl)) rfl⟩
theorem mf_X3_takeFree : pj_MF yX3_takeFree cX3_takeFree 2 (some .boolean) 0 := ⟨pj_tw4 (List.mem_of_getElem? (i := 104) rfl) rfl, pj_tw1 (List.mem_of_getElem? (i := 8) rfl) rfl, ⟨by decide +kernel, by decide +kernel⟩, by decide +kernel⟩
theorem mv_X3_takeFree : Cond.instanceMethod yX3_takeFree ∈ pj_T ∧ Cond.selects yX3_takeFree.cls yX3_takeFree yX3_takeFree ∈ pj_T := ⟨pj_tw4 (List.mem_of_getElem? (i := 103) rfl) rfl, pj_inT (List.mem_append_left _ (List.mem_of_getElem? (i := 30) rfl)) rfl⟩
theorem mf_X3_takeLeads : pj_MF yX3_takeLeads cX3_takeLeads 4 (some .boolean) 0 := ⟨pj_tw4 (List.mem_of_getElem? (i := 95) rfl) rfl, pj_tw1 (List.mem_of_getElem? (i := 8) rfl) rfl, ⟨by decide +kernel, by decide +kernel⟩, by decide +kernel⟩
theorem mv_X3_takeLeads : Cond.instanceMethod yX3_takeLeads ∈ pj_T ∧ Cond.selects yX3_takeLeads.cls yX3_takeLeads yX3_takeLeads ∈ pj_T := ⟨pj_tw4 (List.mem_of_getElem? (i := 94) rfl) rfl, pj_inT (List.mem_append_left _ (List.mem_of_getElem? (i := 29) rfl)) rfl⟩
theorem mf_X4_init : pj_MF yX4_init cX4_init 1 none 0 := ⟨pj_tw2 (List.mem_of_getElem? (i := 50) rfl) rfl, pj_tw1 (List.mem_of_getElem? (i := 13) rfl) rfl, ⟨by decide +kernel, by decide +kernel⟩, by decide +kernel⟩
theorem mi_X4_init : yX4_init.name = "<init>" ∧ Cond.instanceMethod yX4_init ∈ pj_T := ⟨rfl, pj_tw2 (List.mem_of_getElem? (i := 49) rfl) rfl⟩
theorem mf_X4_becomeLike : pj_MF yX4_becomeLike cX4_becomeLike 2 none 1 := ⟨pj_tw6 (List.mem_of_getElem? (i := 171) rfl) rfl, pj_tw1 (List.mem_of_getElem? (i := 13) rfl) rfl, ⟨by decide +kernel, by decide +kernel⟩, by decide +kernel⟩
theorem mv_X4_becomeLike : Cond.instanceMethod yX4_becomeLike ∈ pj_T ∧ Cond.selects yX4_becomeLike.cls yX4_becomeLike yX4_becomeLike ∈ pj_T := ⟨pj_tw6 (List.mem_of_getElem? (i := 169) rfl) rfl, pj_tw6 (List.mem_of_getElem? (i := 170) rfl) rfl⟩
theorem mf_X4_has : pj_MF yX4_has cX4_has 2 (some .boolean) 1 := ⟨pj_tw4 (List.mem_of_getElem? (i := 140) rfl) rfl, pj_tw1 (List.mem_of_getElem? (i := 13) rfl) rfl, ⟨by decide +kernel, by decide +kernel⟩, by decide +kernel⟩
theorem mv_X4_has : Cond.instanceMethod yX4_has ∈ pj_T ∧ Cond.selects yX4_has.cls yX4_has yX4_has ∈ pj_T := ⟨pj_tw4 (List.mem_of_getElem? (i := 138) rfl) rfl, pj_tw4 (List.mem_of_getElem? (i := 139) rfl) rfl⟩
theorem mf_X4_insert : pj_MF yX4_insert cX4_insert 4 none 2 := ⟨pj_tw4 (List.mem_of_getElem? (i := 14) rfl) rfl, pj_tw1 (List.mem_of_getElem? (i := 13) rfl) rfl, ⟨by decide +kernel, by decide +kernel⟩, by decide +kernel⟩
theorem mv_X4_insert : Cond.instanceMethod yX4_insert ∈ pj_T ∧ Cond.selects yX4_insert.cls yX4_insert yX4_insert ∈ pj_T := ⟨pj_tw4 (List.mem_of_getElem? (i := 12) rfl) rfl, pj_tw4 (List.mem_of_getElem? (i := 13) rfl) rfl⟩
theorem mf_X4_removeAt : pj_MF yX4_removeAt cX4_removeAt 3 none 1 := ⟨pj_tw4 (List.mem_of_getElem? (i := 204) rfl) rfl, pj_tw1 (List.mem_of_getElem? (i := 13) rfl) rfl, ⟨by decide +kernel, by decide +kernel⟩, by decide +kernel⟩
theorem mv_X4_removeAt : Cond.instanceMethod yX4_removeAt ∈ pj_T ∧ Cond.selects yX4_removeAt.cls yX4_removeAt yX4_removeAt ∈ pj_T := ⟨pj_tw4 (List.mem_of_getElem? (i := 202) rfl) rfl, pj_tw4 (List.mem_of_getElem? (i := 203) rfl) rfl⟩
theorem mf_X4_latestMinute : pj_MF yX4_latestMinute cX4_latestMinute 1 (some .int) 0 := ⟨pj_tw5 (List.mem_of_getElem? (i := 215) rfl) rfl, pj_tw1 (List.mem_of_getElem? (i := 13) rfl) rfl, ⟨by decide +kernel, by decide +kernel⟩, by decide +kernel⟩
theorem mv_X4_latestMinute : Cond.instanceMethod yX4_latestMinute ∈ pj_T ∧ Cond.selects yX4_latestMinute.cls yX4_latestMinute yX4_latestMinute ∈ pj_T := ⟨pj_tw5 (List.mem_of_getElem? (i := 213) rfl) rfl, pj_tw5 (List.mem_of_getElem? (i := 214) rfl) rfl⟩
theorem mf_X4_lastSet : pj_MF yX4_lastSet cX4_lastSet 3 (some .int) 0 := ⟨pj_tw4 (List.mem_of_getElem? (i := 238) rfl) rfl, pj_tw1 (List.mem_of_getElem? (i := 13) rfl) rfl, ⟨by decide +kernel, by decide +kernel⟩, by decide +kernel⟩
theorem mv_X4_lastSet : Cond.instanceMethod yX4_lastSet ∈ pj_T ∧ Cond.selects yX4_lastSet.cls yX4_lastSet yX4_lastSet ∈ pj_T := ⟨pj_tw4 (List.mem_of_getElem? (i := 236) rfl) rfl, pj_tw4 (List.mem_of_getElem? (i := 237) rfl) rfl⟩
theorem mf_X4_ownerSet : pj_MF yX4_ownerSet cX4_ownerSet 3 (some .int) 0 := ⟨pj_tw6 (List.mem_of_getElem? (i := 19) rfl) rfl, pj_tw1 (List.mem_of_getElem? (i := 13) rfl) rfl, ⟨by decide +kernel, by decide +kernel⟩, by decide +kernel⟩
theorem mv_X4_ownerSet : Cond.instanceMethod yX4_ownerSet ∈ pj_T ∧ Cond.selects yX4_ownerSet.cls yX4_ownerSet yX4_ownerSet ∈ pj_T := ⟨pj_tw6 (List.mem_of_getElem? (i := 17) rfl) rfl, pj_tw6 (List.mem_of_getElem? (i := 18) rfl) rfl⟩
theorem mf_X4_tallyOf : pj_MF yX4_tallyOf cX4_tallyOf 4 (some .int) 1 := ⟨pj_tw5 (List.mem_of_getElem? (i := 22) rfl) rfl, pj_tw1 (List.mem_of_getElem? (i := 13) rfl) rfl, ⟨by decide +kernel, by decide +kernel⟩, by decide +kernel⟩
theorem mv_X4_tallyOf : Cond.instanceMethod yX4_tallyOf ∈ pj_T ∧ Cond.selects yX4_tallyOf.cls yX4_tallyOf yX4_tallyOf ∈ pj_T := ⟨pj_tw5 (List.mem_of_getElem? (i := 20) rfl) rfl, pj_tw5 (List.mem_of_getElem? (i := 21) rfl) rfl⟩
theorem mf_X4_newestOf : pj_MF yX4_newestOf cX4_newestOf 3 (some .int) 1 := ⟨pj_tw4 (List.mem_of_getElem? (i := 199) rfl) rfl, pj_tw1 (List.mem_of_getElem? (i := 13) rfl) rfl, ⟨by decide +kernel, by decide +kernel⟩, by decide +kernel⟩
theorem mv_X4_newestOf : Cond.instanceMethod yX4_newestOf ∈ pj_T ∧ Cond.selects yX4_newestOf.cls yX4_newestOf yX4_newestOf ∈ pj_T := ⟨pj_tw4 (List.mem_of_getElem? (i := 197) rfl) rfl, pj_tw4 (List.mem_of_getElem? (i := 198) rfl) rfl⟩
theorem mf_X4_behindOthers : pj_MF yX4_behindOthers cX4_behindOthers 3 (some .int) 1 := ⟨pj_tw5 (List.mem_of_getElem? (i := 98) rfl) rfl, pj_tw1 (List.mem_of_getElem? (i := 13) rfl) rfl, ⟨by decide +kernel, by decide +kernel⟩, by decide +kernel⟩
theorem mv_X4_behindOthers : Cond.instanceMethod yX4_behindOthers ∈ pj_T ∧ Cond.selects yX4_behindOthers.cls yX4_behindOthers yX4_behindOthers ∈ pj_T := ⟨pj_tw5 (List.mem_of_getElem? (i := 96) rfl) rfl, pj_tw5 (List.mem_of_getElem? (i := 97) rfl) rfl⟩
theorem mf_X5_init : pj_MF yX5_init cX5_init 1 none 0 := ⟨pj_tw2 (List.mem_of_getElem? (i := 11) rfl) rfl, pj_tw1 (List.mem_of_getElem? (i := 12) rfl) rfl, ⟨by decide +kernel, by decide +kernel⟩, by decide +kernel⟩
theorem mi_X5_init : yX5_init.name = "<init>" ∧ Cond.instanceMethod yX5_init ∈ pj_T := ⟨rfl, pj_tw2 (List.mem_of_getElem? (i := 10) rfl) rfl⟩
theorem mf_X5_becomeLike : pj_MF yX5_becomeLike cX5_becomeLike 2 none 1 := ⟨pj_tw6 (List.mem_of_getElem? (i := 167) rfl) rfl, pj_tw1 (List.mem_of_getElem? (i := 12) rfl) rfl, ⟨by decide +kernel, by decide +kernel⟩, by decide +kernel⟩
theorem mv_X5_becomeLike : Cond.instanceMethod yX5_becomeLike ∈ pj_T ∧ Cond.selects yX5_becomeLike.cls yX5_becomeLike yX5_becomeLike ∈ pj_T := ⟨pj_tw6 (List.mem_of_getElem? (i := 165) rfl) rfl, pj_tw6 (List.mem_of_getElem? (i := 166) rfl) rfl⟩
theorem mf_X5_minutesTo : pj_MF yX5_minutesTo cX5_minutesTo 2 (some .int) 1 := ⟨pj_tw4 (List.mem_of_getElem? (i := 153) rfl) rfl, pj_tw1 (List.mem_of_getElem? (i := 12) rfl) rfl, ⟨by decide +kernel, by decide +kernel⟩, by decide +kernel⟩
theorem mv_X5_minutesTo : Cond.instanceMethod yX5_minutesTo ∈ pj_T ∧ Cond.selects yX5_minutesTo.cls yX5_minutesTo yX5_minutesTo ∈ pj_T := ⟨pj_tw4 (List.mem_of_getElem? (i := 151) rfl) rfl, pj_tw4 (List.mem_of_getElem? (i := 152) rfl) rfl⟩
theorem mf_X6_init : pj_MF yX6_init cX6_init 1 none 0 := ⟨pj_tw1 (List.mem_of_getElem? (i := 220) rfl) rfl, pj_tw1 (List.mem_of_getElem? (i := 10) rfl) rfl, ⟨by decide +kernel, by decide +kernel⟩, by decide +kernel⟩
theorem mi_X6_init : yX6_init.name = "<init>" ∧ Cond.instanceMethod yX6_init ∈ pj_T := ⟨rfl, pj_tw1 (List.mem_of_getElem? (i := 219) rfl) rfl⟩
theorem mf_X6_liveThrough : pj_MF yX6_liveThrough cX6_liveThrough 7 (some .int) 3 := ⟨pj_tw6 (List.mem_of_getElem? (i := 93) rfl) rfl, pj_tw1 (List.mem_of_getElem? (i := 10) rfl) rfl, ⟨by decide +kernel, by decide +kernel⟩, by decide +kernel⟩
theorem mv_X6_liveThrough : Cond.instanceMethod yX6_liveThrough ∈ pj_T ∧ Cond.selects yX6_liveThrough.cls yX6_liveThrough yX6_liveThrough ∈ pj_T := ⟨pj_tw6 (List.mem_of_getElem? (i := 91) rfl) rfl, pj_tw6 (List.mem_of_getElem? (i := 92) rfl) rfl⟩
theorem mf_X6_behindEnd : pj_MF yX6_behindEnd cX6_behindEnd 3 (some .int) 1 := ⟨pj_tw6 (List.mem_of_getElem? (i := 98) rfl) rfl, pj_tw1 (List.mem_of_getElem? (i := 10) rfl) rfl, ⟨by decide +kernel, by decide +kernel⟩, by decide +kernel⟩
theorem mv_X6_behindEnd : Cond.instanceMethod yX6_behindEnd ∈ pj_T ∧ Cond.selects yX6_behindEnd.cls yX6_behindEnd yX6_behindEnd ∈ pj_T := ⟨pj_tw6 (List.mem_of_getElem? (i := 97) rfl) rfl, pj_inT (List.mem_append_left _ (List.mem_of_getElem? (i := 49) rfl)) rfl⟩
theorem mf_X6_behindStep : pj_MF yX6_behindStep cX6_behindStep 4 (some .int) 1 := ⟨pj_tw6 (List.mem_of_getElem? (i := 102) rfl) rfl, pj_tw1 (List.mem_of_getElem? (i := 10) rfl) rfl, ⟨by decide +kernel, by decide +kernel⟩, by decide +kernel⟩
theorem mv_X6_behindStep : Cond.instanceMethod yX6_behindStep ∈ pj_T ∧ Cond.selects yX6_behindStep.cls yX6_behindStep yX6_behindStep ∈ pj_T := ⟨pj_tw6 (List.mem_of_getElem? (i := 101) rfl) rfl, pj_inT (List.mem_append_left _ (List.mem_of_getElem? (i := 50) rfl)) rfl⟩
theorem mf_X6_tried : pj_MF yX6_tried cX6_tried 3 (some .int) 2 := ⟨pj_tw6 (List.mem_of_getElem? (i := 107) rfl) rfl, pj_tw1 (List.mem_of_getElem? (i := 10) rfl) rfl, ⟨by decide +kernel, by decide +kernel⟩, by decide +kernel⟩
theorem mv_X6_tried : Cond.instanceMethod yX6_tried ∈ pj_T ∧ Cond.selects yX6_tried.cls yX6_tried yX6_tried ∈ pj_T := ⟨pj_tw6 (List.mem_of_getElem? (i := 106) rfl) rfl, pj_inT (List.mem_append_left _ (List.mem_of_getElem? (i := 51) rfl)) rfl⟩
theorem mf_X6_gullMayCarry : pj_MF yX6_gullMayCarry cX6_gullMayCarry 6 (some .int) 2 := ⟨pj_tw6 (List.mem_of_getElem? (i := 114) rfl) rfl, pj_tw1 (List.mem_of_getElem? (i := 10) rfl) rfl, ⟨by decide +kernel, by decide +kernel⟩, by decide +kernel⟩
theorem mv_X6_gullMayCarry : Cond.instanceMethod yX6_gullMayCarry ∈ pj_T ∧ Cond.selects yX6_gullMayCarry.cls yX6_gullMayCarry yX6_gullMayCarry ∈ pj_T := ⟨pj_tw6 (List.mem_of_getElem? (i := 113) rfl) rfl, pj_inT (List.mem_append_left _ (List.mem_of_getElem? (i := 52) rfl)) rfl⟩
theorem mf_X6_draw : pj_MF yX6_draw cX6_draw 2 (some .int) 1 := ⟨pj_tw6 (List.mem_of_getElem? (i := 118) rfl) rfl, pj_tw1 (List.mem_of_getElem? (i := 10) rfl) rfl, ⟨by decide +kernel, by decide +kernel⟩, by decide +kernel⟩
theorem mv_X6_draw : Cond.instanceMethod yX6_draw ∈ pj_T ∧ Cond.selects yX6_draw.cls yX6_draw yX6_draw ∈ pj_T := ⟨pj_tw6 (List.mem_of_getElem? (i := 117) rfl) rfl, pj_inT (List.mem_append_left _ (List.mem_of_getElem? (i := 53) rfl)) rfl⟩
theorem mf_X6_comeWave : pj_MF yX6_comeWave cX6_comeWave 4 (some .int) 2 := ⟨pj_tw6 (List.mem_of_getElem? (i := 124) rfl) rfl, pj_tw1 (List.mem_of_getElem? (i := 10) rfl) rfl, ⟨by decide +kernel, by decide +kernel⟩, by decide +kernel⟩
theorem mv_X6_comeWave : Cond.instanceMethod yX6_comeWave ∈ pj_T ∧ Cond.selects yX6_comeWave.cls yX6_comeWave yX6_comeWave ∈ pj_T := ⟨pj_tw6 (List.mem_of_getElem? (i := 123) rfl) rfl, pj_inT (List.mem_append_left _ (List.mem_of_getElem? (i := 54) rfl)) rfl⟩
theorem mf_X6_comeTideAndDawn : pj_MF yX6_comeTideAndDawn cX6_comeTideAndDawn 3 (some .int) 1 := ⟨pj_tw6 (List.mem_of_getElem? (i := 129) rfl) rfl, pj_tw1 (List.mem_of_getElem? (i := 10) rfl) rfl, ⟨by decide +kernel, by decide +kernel⟩, by decide +kernel⟩
theorem mv_X6_comeTideAndDawn : Cond.instanceMethod yX6_comeTideAndDawn ∈ pj_T ∧ Cond.selects yX6_comeTideAndDawn.cls yX6_comeTideAndDawn yX6_comeTideAndDawn ∈ pj_T := ⟨pj_tw6 (List.mem_of_getElem? (i := 128) rfl) rfl, pj_inT (List.mem_append_left _ (List.mem_of_getElem? (i := 55) rfl)) rfl⟩
theorem mf_X6_beginLoop : pj_MF yX6_beginLoop cX6_beginLoop 3 (some .int) 2 := ⟨pj_tw6 (List.mem_of_getElem? (i := 135) rfl) rfl, pj_tw1 (List.mem_of_getElem? (i := 10) rfl) rfl, ⟨by decide +kernel, by decide +kernel⟩, by decide +kernel⟩
theorem mv_X6_beginLoop : Cond.instanceMethod yX6_beginLoop ∈ pj_T ∧ Cond.selects yX6_beginLoop.cls yX6_beginLoop yX6_beginLoop ∈ pj_T := ⟨pj_tw6 (List.mem_of_getElem? (i := 134) rfl) rfl, pj_inT (List.mem_append_left _ (List.mem_of_getElem? (i := 56) rfl)) rfl⟩
theorem mf_X6_behindTest : pj_MF yX6_behindTest cX6_behindTest 3 (some .int) 2 := ⟨pj_tw6 (List.mem_of_getElem? (i := 143) rfl) rfl, pj_tw1 (List.mem_of_getElem? (i := 10) rfl) rfl, ⟨by decide +kernel, by decide +kernel⟩, by decide +kernel⟩
theorem mv_X6_behindTest : Cond.instanceMethod yX6_behindTest ∈ pj_T ∧ Cond.selects yX6_behindTest.cls yX6_behindTest yX6_behindTest ∈ pj_T := ⟨pj_tw6 (List.mem_of_getElem? (i := 142) rfl) rfl, pj_inT (List.mem_append_left _ (List.mem_of_getElem? (i := 57) rfl)) rfl⟩
theorem mf_X6_compares : pj_MF yX6_compares cX6_compares 3 (some .boolean) 3 := ⟨pj_tw6 (List.mem_of_getElem? (i := 139) rfl) rfl, pj_tw1 (List.mem_of_getElem? (i := 10) rfl) rfl, ⟨by decide +kernel, by decide +kernel⟩, by decide +kernel⟩
theorem ms_X6_compares : Cond.static yX6_compares ∈ pj_T := pj_tw6 (List.mem_of_getElem? (i := 138) rfl) rfl
theorem mf_X6_isLast : pj_MF yX6_isLast cX6_isLast 2 (some .boolean) 2 := ⟨pj_tw6 (List.mem_of_getElem? (i := 147) rfl) rfl, pj_tw1 (List.mem_of_getElem? (i := 10) rfl) rfl, ⟨by decide +kernel, by decide +kernel⟩, by decide +kernel⟩
theorem ms_X6_isLast : Cond.static yX6_isLast ∈ pj_T := pj_tw6 (List.mem_of_getElem? (i := 146) rfl) rfl
theorem mf_X6_isFree : pj_MF yX6_isFree cX6_isFree 1 (some .boolean) 1 := ⟨pj_tw6 (List.mem_of_getElem? (i := 151) rfl) rfl, pj_tw1 (List.mem_of_getElem? (i := 10) rfl) rfl, ⟨by decide +kernel, by decide +kernel⟩, by decide +kernel⟩
theorem ms_X6_isFree : Cond.static yX6_isFree ∈ pj_T := pj_tw6 (List.mem_of_getElem? (i := 150) rfl) rfl
theorem mf_X7_init : pj_MF yX7_init cX7_init 6 none 0 := ⟨pj_tw1 (List.mem_of_getElem? (i := 34) rfl) rfl, pj_tw1 (List.mem_of_getElem? (i := 2) rfl) rfl, ⟨by decide +kernel, by decide +kernel⟩, by decide +kernel⟩
theorem mi_X7_init : yX7_init.name = "<init>" ∧ Cond.instanceMethod yX7_init ∈ pj_T := ⟨rfl, pj_tw1 (List.mem_of_getElem? (i := 33) rfl) rfl⟩
theorem mf_X7_pack : pj_MF yX7_pack cX7_pack 3 (some .long) 2 := ⟨pj_tw1 (List.mem_of_getElem? (i := 87) rfl) rfl, pj_tw1 (List.mem_of_getElem? (i := 2) rfl) rfl, ⟨by decide +kernel, by decide +kernel⟩, by decide +kernel⟩
theorem ms_X7_pack : Cond.static yX7_pack ∈ pj_T := pj_tw1 (List.mem_of_getElem? (i := 86) rfl) rfl
theorem mf_X7_hasRoom : pj_MF yX7_hasRoom cX7_hasRoom 1 (some .boolean) 0 := ⟨pj_tw3 (List.mem_of_getElem? (i := 100) rfl) rfl, pj_tw1 (List.mem_of_getElem? (i := 2) rfl) rfl, ⟨by decide +kernel, by decide +kernel⟩, by decide +kernel⟩
theorem mv_X7_hasRoom : Cond.instanceMethod yX7_hasRoom ∈ pj_T ∧ Cond.selects yX7_hasRoom.cls yX7_hasRoom yX7_hasRoom ∈ pj_T := ⟨pj_tw3 (List.mem_of_getElem? (i := 98) rfl) rfl, pj_tw3 (List.mem_of_getElem? (i := 99) rfl) rfl⟩
theorem mf_X7_feedInt : pj_MF yX7_feedInt cX7_feedInt 3 none 1 := ⟨pj_tw3 (List.mem_of_getElem? (i := 104) rfl) rfl, pj_tw1 (List.mem_of_getElem? (i := 2) rfl) rfl, ⟨by decide +kernel, by decide +kernel⟩, by decide +kernel⟩
theorem mv_X7_feedInt : Cond.instanceMethod yX7_feedInt ∈ pj_T ∧ Cond.selects yX7_feedInt.cls yX7_feedInt yX7_feedInt ∈ pj_T := ⟨pj_tw3 (List.mem_of_getElem? (i := 102) rfl) rfl, pj_tw3 (List.mem_of_getElem? (i := 103) rfl) rfl⟩
theorem mf_X7_begin : pj_MF yX7_begin cX7_begin 3 none 1 := ⟨pj_tw3 (List.mem_of_getElem? (i := 112) rfl) rfl, pj_tw1 (List.mem_of_getElem? (i := 2) rfl) rfl, ⟨by decide +kernel, by decide +kernel⟩, by decide +kernel⟩
theorem mv_X7_begin : Cond.instanceMethod yX7_begin ∈ pj_T ∧ Cond.selects yX7_begin.cls yX7_begin yX7_begin ∈ pj_T := ⟨pj_tw3 (List.mem_of_getElem? (i := 110) rfl) rfl, pj_tw3 (List.mem_of_getElem? (i := 111) rfl) rfl⟩
theorem mf_X7_skipBlanks : pj_MF yX7_skipBlanks cX7_skipBlanks 1 none 0 := ⟨pj_tw3 (List.mem_of_getElem? (i := 119) rfl) rfl, pj_tw1 (List.mem_of_getElem? (i := 2) rfl) rfl, ⟨by decide +kernel, by decide +kernel⟩, by decide +kernel⟩
theorem mv_X7_skipBlanks : Cond.instanceMethod yX7_skipBlanks ∈ pj_T ∧ Cond.selects yX7_skipBlanks.cls yX7_skipBlanks yX7_skipBlanks ∈ pj_T := ⟨pj_tw3 (List.mem_of_getElem? (i := 118) rfl) rfl, pj_inT (List.mem_append_left _ (List.mem_of_getElem? (i := 5) rfl)) rfl⟩
theorem mf_X7_addToken : pj_MF yX7_addToken cX7_addToken 5 none 3 := ⟨pj_tw3 (List.mem_of_getElem? (i := 134) rfl) rfl, pj_tw1 (List.mem_of_getElem? (i := 2) rfl) rfl, ⟨by decide +kernel, by decide +kernel⟩, by decide +kernel⟩
theorem mv_X7_addToken : Cond.instanceMethod yX7_addToken ∈ pj_T ∧ Cond.selects yX7_addToken.cls yX7_addToken yX7_addToken ∈ pj_T := ⟨pj_tw3 (List.mem_of_getElem? (i := 133) rfl) rfl, pj_inT (List.mem_append_left _ (List.mem_of_getElem? (i := 8) rfl)) rfl⟩
theorem mf_X7_scanToken : pj_MF yX7_scanToken cX7_scanToken 3 none 0 := ⟨pj_tw3 (List.mem_of_getElem? (i := 123) rfl) rfl, pj_tw1 (List.mem_of_getElem? (i := 2) rfl) rfl, ⟨by decide +kernel, by decide +kernel⟩, by decide +kernel⟩
theorem mv_X7_scanToken : Cond.instanceMethod yX7_scanToken ∈ pj_T ∧ Cond.selects yX7_scanToken.cls yX7_scanToken yX7_scanToken ∈ pj_T := ⟨pj_tw3 (List.mem_of_getElem? (i := 122) rfl) rfl, pj_inT (List.mem_append_left _ (List.mem_of_getElem? (i := 6) rfl)) rfl⟩
theorem mf_X7_isLetter : pj_MF yX7_isLetter cX7_isLetter 1 (some .boolean) 1 := ⟨pj_tw3 (List.mem_of_getElem? (i := 126) rfl) rfl, pj_tw1 (List.mem_of_getElem? (i := 2) rfl) rfl, ⟨by decide +kernel, by decide +kernel⟩, by decide +kernel⟩
theorem ms_X7_isLetter : Cond.static yX7_isLetter ∈ pj_T := pj_tw3 (List.mem_of_getElem? (i := 125) rfl) rfl
theorem mf_X7_isDigit : pj_MF yX7_isDigit cX7_isDigit 1 (some .boolean) 1 := ⟨pj_tw3 (List.mem_of_getElem? (i := 141) rfl) rfl, pj_tw1 (List.mem_of_getElem? (i := 2) rfl) rfl, ⟨by decide +kernel, by decide +kernel⟩, by decide +kernel⟩
theorem ms_X7_isDigit : Cond.static yX7_isDigit ∈ pj_T := pj_tw3 (List.mem_of_getElem? (i := 140) rfl) rfl
theorem mf_X7_scanWord : pj_MF yX7_scanWord cX7_scanWord 5 none 0 := ⟨pj_tw3 (List.mem_of_getElem? (i := 130) rfl) rfl, pj_tw1 (List.mem_of_getElem? (i := 2) rfl) rfl, ⟨by decide +kernel, by decide +kernel⟩, by decide +kernel⟩
theorem mv_X7_scanWord : Cond.instanceMethod yX7_scanWord ∈ pj_T ∧ Cond.selects yX7_scanWord.cls yX7_scanWord yX7_scanWord ∈ pj_T := ⟨pj_tw3 (List.mem_of_getElem? (i := 129) rfl) rfl, pj_inT (List.mem_append_left _ (List.mem_of_getElem? (i := 7) rfl)) rfl⟩
theorem mf_X7_wordOf : pj_MF yX7_wordOf cX7_wordOf 4 (some .int) 1 := ⟨pj_tw3 (List.mem_of_getElem? (i := 138) rfl) rfl, pj_tw1 (List.mem_of_getElem? (i := 2) rfl) rfl, ⟨by decide +kernel, by decide +kernel⟩, by decide +kernel⟩
theorem mv_X7_wordOf : Cond.instanceMethod yX7_wordOf ∈ pj_T ∧ Cond.selects yX7_wordOf.cls yX7_wordOf yX7_wordOf ∈ pj_T := ⟨pj_tw3 (List.mem_of_getElem? (i := 137) rfl) rfl, pj_inT (List.mem_append_left _ (List.mem_of_getElem? (i := 9) rfl)) rfl⟩
theorem mf_X7_scanNumber : pj_MF yX7_scanNumber cX7_scanNumber 3 none 0 := ⟨pj_tw3 (List.mem_of_getElem? (i := 145) rfl) rfl, pj_tw1 (List.mem_of_getElem? (i := 2) rfl) rfl, ⟨by decide +kernel, by decide +kernel⟩, by decide +kernel⟩
theorem mv_X7_scanNumber : Cond.instanceMethod yX7_scanNumber ∈ pj_T ∧ Cond.selects yX7_scanNumber.cls yX7_scanNumber yX7_scanNumber ∈ pj_T := ⟨pj_tw3 (List.mem_of_getElem? (i := 144) rfl) rfl, pj_inT (List.mem_append_left _ (List.mem_of_getElem? (i := 10) rfl)) rfl⟩
theorem mf_X7_fail : pj_MF yX7_fail cX7_fail 2 (some .boolean) 1 := ⟨pj_tw3 (List.mem_of_getElem? (i := 166) rfl) rfl, pj_tw1 (List.mem_of_getElem? (i := 2) rfl) rfl, ⟨by decide +kernel, by decide +kernel⟩, by decide +kernel⟩
theorem mv_X7_fail : Cond.instanceMethod yX7_fail ∈ pj_T ∧ Cond.selects yX7_fail.cls yX7_fail yX7_fail ∈ pj_T := ⟨pj_tw3 (List.mem_of_getElem? (i := 164) rfl) rfl, pj_tw3 (List.mem_of_getElem? (i := 165) rfl) rfl⟩
theorem mf_X7_advance : pj_MF yX7_advance cX7_advance 1 none 0 := ⟨pj_tw3 (List.mem_of_getElem? (i := 170) rfl) rfl, pj_tw1 (List.mem_of_getElem? (i := 2) rfl) rfl, ⟨by decide +kernel, by decide +kernel⟩, by decide +kernel⟩
theorem mv_X7_advance : Cond.instanceMethod yX7_advance ∈ pj_T ∧ Cond.selects yX7_advance.cls yX7_advance yX7_advance ∈ pj_T := ⟨pj_tw3 (List.mem_of_getElem? (i := 169) rfl) rfl, pj_inT (List.mem_append_left _ (List.mem_of_getElem? (i := 12) rfl)) rfl⟩
theorem mf_X7_isOver : pj_MF yX7_isOver cX7_isOver 1 (some .boolean) 0 := ⟨pj_tw3 (List.mem_of_getElem? (i := 186) rfl) rfl, pj_tw1 (List.mem_of_getElem? (i := 2) rfl) rfl, ⟨by decide +kernel, by decide +kernel⟩, by decide +kernel⟩
theorem mv_X7_isOver : Cond.instanceMethod yX7_isOver ∈ pj_T ∧ Cond.selects yX7_isOver.cls yX7_isOver yX7_isOver ∈ pj_T := ⟨pj_tw3 (List.mem_of_getElem? (i := 184) rfl) rfl, pj_tw3 (List.mem_of_getElem? (i := 185) rfl) rfl⟩
theorem mf_X7_wordHere : pj_MF yX7_wordHere cX7_wordHere 1 (some .int) 0 := ⟨pj_tw3 (List.mem_of_getElem? (i := 178) rfl) rfl, pj_tw1 (List.mem_of_getElem? (i := 2) rfl) rfl, ⟨by decide +kernel, by decide +kernel⟩, by decide +kernel⟩
theorem mv_X7_wordHere : Cond.instanceMethod yX7_wordHere ∈ pj_T ∧ Cond.selects yX7_wordHere.cls yX7_wordHere yX7_wordHere ∈ pj_T := ⟨pj_tw3 (List.mem_of_getElem? (i := 176) rfl) rfl, pj_tw3 (List.mem_of_getElem? (i := 177) rfl) rfl⟩
theorem mf_X7_takeWord : pj_MF yX7_takeWord cX7_takeWord 2 (some .boolean) 1 := ⟨pj_tw3 (List.mem_of_getElem? (i := 162) rfl) rfl, pj_tw1 (List.mem_of_getElem? (i := 2) rfl) rfl, ⟨by decide +kernel, by decide +kernel⟩, by decide +kernel⟩
theorem mv_X7_takeWord : Cond.instanceMethod yX7_takeWord ∈ pj_T ∧ Cond.selects yX7_takeWord.cls yX7_takeWord yX7_takeWord ∈ pj_T := ⟨pj_tw3 (List.mem_of_getElem? (i := 160) rfl) rfl, pj_tw3 (List.mem_of_getElem? (i := 161) rfl) rfl⟩
theorem mf_X7_takeSign : pj_MF yX7_takeSign cX7_takeSign 2 (some .boolean) 1 := ⟨pj_tw3 (List.mem_of_getElem? (i := 182) rfl) rfl, pj_tw1 (List.mem_of_getElem? (i := 2) rfl) rfl, ⟨by decide +kernel, by decide +kernel⟩, by decide +kernel⟩
theorem mv_X7_takeSign : Cond.instanceMethod yX7_takeSign ∈ pj_T ∧ Cond.selects yX7_takeSign.cls yX7_takeSign yX7_takeSign ∈ pj_T := ⟨pj_tw3 (List.mem_of_getElem? (i := 180) rfl) rfl, pj_tw3 (List.mem_of_getElem? (i := 181) rfl) rfl⟩
theorem mf_X7_takeCompares : pj_MF yX7_takeCompares cX7_takeCompares 2 (some .int) 0 := ⟨pj_tw4 (List.mem_of_getElem? (i := 99) rfl) rfl, pj_tw1 (List.mem_of_getElem? (i := 2) rfl) rfl, ⟨by decide +kernel, by decide +kernel⟩, by decide +kernel⟩
theorem mv_X7_takeCompares : Cond.instanceMethod yX7_takeCompares ∈ pj_T ∧ Cond.selects yX7_takeCompares.cls yX7_takeCompares yX7_takeCompares ∈ pj_T := ⟨pj_tw4 (List.mem_of_getElem? (i := 97) rfl) rfl, pj_tw4 (List.mem_of_getElem? (i := 98) rfl) rfl⟩
theorem mf_X7_takeNumber : pj_MF yX7_takeNumber cX7_takeNumber 4 (some .int) 2 := ⟨pj_tw3 (List.mem_of_getElem? (i := 174) rfl) rfl, pj_tw1 (List.mem_of_getElem? (i := 2) rfl) rfl, ⟨by decide +kernel, by decide +kernel⟩, by decide +kernel⟩
theorem mv_X7_takeNumber : Cond.instanceMethod yX7_takeNumber ∈ pj_T ∧ Cond.selects yX7_takeNumber.cls yX7_takeNumber yX7_takeNumber ∈ pj_T := ⟨pj_tw3 (List.mem_of_getElem? (i := 172) rfl) rfl, pj_tw3 (List.mem_of_getElem? (i := 173) rfl) rfl⟩
theorem mf_X7_takeNumberBehind : pj_MF yX7_takeNumberBehind cX7_takeNumberBehind 4 (some .int) 3 := ⟨pj_tw3 (List.mem_of_getElem? (i := 158) rfl) rfl, pj_tw1 (List.mem_of_getElem? (i := 2) rfl) rfl, ⟨by decide +kernel, by decide +kernel⟩, by decide +kernel⟩
theorem mv_X7_takeNumberBehind : Cond.instanceMethod yX7_takeNumberBehind ∈ pj_T ∧ Cond.selects yX7_takeNumberBehind.cls yX7_takeNumberBehind yX7_takeNumberBehind ∈ pj_T := ⟨pj_tw3 (List.mem_of_getElem? (i := 156) rfl) rfl, pj_tw3 (List.mem_of_getElem? (i := 157) rfl) rfl⟩
theorem mf_X7_takeNewName : pj_MF yX7_takeNewName cX7_takeNewName 4 (some .long) 1 := ⟨pj_tw3 (List.mem_of_getElem? (i := 200) rfl) rfl, pj_tw1 (List.mem_of_getElem? (i := 2) rfl) rfl, ⟨by decide +kernel, by decide +kernel⟩, by decide +kernel⟩
theorem mv_X7_takeNewName : Cond.instanceMethod yX7_takeNewName ∈ pj_T ∧ Cond.selects yX7_takeNewName.cls yX7_takeNewName yX7_takeNewName ∈ pj_T := ⟨pj_tw3 (List.mem_of_getElem? (i := 198) rfl) rfl, pj_tw3 (List.mem_of_getElem? (i := 199) rfl) rfl⟩
theorem mf_X7_takeFinder : pj_MF yX7_takeFinder cX7_takeFinder 2 (some .int) 1 := ⟨pj_tw3 (List.mem_of_getElem? (i := 234) rfl) rfl, pj_tw1 (List.mem_of_getElem? (i := 2) rfl) rfl, ⟨by decide +kernel, by decide +kernel⟩, by decide +kernel⟩
theorem mv_X7_takeFinder : Cond.instanceMethod yX7_takeFinder ∈ pj_T ∧ Cond.selects yX7_takeFinder.cls yX7_takeFinder yX7_takeFinder ∈ pj_T := ⟨pj_tw3 (List.mem_of_getElem? (i := 232) rfl) rfl, pj_tw3 (List.mem_of_getElem? (i := 233) rfl) rfl⟩
theorem mf_X7_takeFind : pj_MF yX7_takeFind cX7_takeFind 2 (some .int) 1 := ⟨pj_tw4 (List.mem_of_getElem? (i := 6) rfl) rfl, pj_tw1 (List.mem_of_getElem? (i := 2) rfl) rfl, ⟨by decide +kernel, by decide +kernel⟩, by decide +kernel⟩
theorem mv_X7_takeFind : Cond.instanceMethod yX7_takeFind ∈ pj_T ∧ Cond.selects yX7_takeFind.cls yX7_takeFind yX7_takeFind ∈ pj_T := ⟨pj_tw4 (List.mem_of_getElem? (i := 4) rfl) rfl, pj_tw4 (List.mem_of_getElem? (i := 5) rfl) rfl⟩
theorem mf_X7_takeKnown : pj_MF yX7_takeKnown cX7_takeKnown 2 (some .int) 1 := ⟨pj_tw3 (List.mem_of_getElem? (i := 238) rfl) rfl, pj_tw1 (List.mem_of_getElem? (i := 2) rfl) rfl, ⟨by decide +kernel, by decide +kernel⟩, by decide +kernel⟩
theorem mv_X7_takeKnown : Cond.instanceMethod yX7_takeKnown ∈ pj_T ∧ Cond.selects yX7_takeKnown.cls yX7_takeKnown yX7_takeKnown ∈ pj_T := ⟨pj_tw3 (List.mem_of_getElem? (i := 237) rfl) rfl, pj_inT (List.mem_append_left _ (List.mem_of_getElem? (i := 17) rfl)) rfl⟩
theorem mf_X7_takeFindBehind : pj_MF yX7_takeFindBehind cX7_takeFindBehind 3 (some .int) 2 := ⟨pj_tw4 (List.mem_of_getElem? (i := 2) rfl) rfl, pj_tw1 (List.mem_of_getElem? (i := 2) rfl) rfl, ⟨by decide +kernel, by decide +kernel⟩, by decide +kernel⟩
theorem mv_X7_takeFindBehind : Cond.instanceMethod yX7_takeFindBehind ∈ pj_T ∧ Cond.selects yX7_takeFindBehind.cls yX7_takeFindBehind yX7_takeFindBehind ∈ pj_T := ⟨pj_tw4 (List.mem_of_getElem? (i := 0) rfl) rfl, pj_tw4 (List.mem_of_getElem? (i := 1) rfl) rfl⟩
theorem mf_X8_init : pj_MF yX8_init cX8_init 1 none 0 := ⟨pj_tw1 (List.mem_of_getElem? (i := 178) rfl) rfl, pj_tw1 (List.mem_of_getElem? (i := 9) rfl) rfl, ⟨by decide +kernel, by decide +kernel⟩, by decide +kernel⟩
theorem mi_X8_init : yX8_init.name = "<init>" ∧ Cond.instanceMethod yX8_init ∈ pj_T := ⟨rfl, pj_tw1 (List.mem_of_getElem? (i := 177) rfl) rfl⟩
theorem mf_X8_prepare : pj_MF yX8_prepare cX8_prepare 7 none 3 := ⟨pj_tw5 (List.mem_of_getElem? (i := 115) rfl) rfl, pj_tw1 (List.mem_of_getElem? (i := 9) rfl) rfl, ⟨by decide +kernel, by decide +kernel⟩, by decide +kernel⟩
theorem mv_X8_prepare : Cond.instanceMethod yX8_prepare ∈ pj_T ∧ Cond.selects yX8_prepare.cls yX8_prepare yX8_prepare ∈ pj_T := ⟨pj_tw5 (List.mem_of_getElem? (i := 113) rfl) rfl, pj_tw5 (List.mem_of_getElem? (i := 114) rfl) rfl⟩
theorem mf_X8_latestFor : pj_MF yX8_latestFor cX8_latestFor 7 (some .int) 3 := ⟨pj_tw5 (List.mem_of_getElem? (i := 122) rfl) rfl, pj_tw1 (List.mem_of_getElem? (i := 9) rfl) rfl, ⟨by decide +kernel, by decide +kernel⟩, by decide +kernel⟩
theorem mv_X8_latestFor : Cond.instanceMethod yX8_latestFor ∈ pj_T ∧ Cond.selects yX8_latestFor.cls yX8_latestFor yX8_latestFor ∈ pj_T := ⟨pj_tw5 (List.mem_of_getElem? (i := 121) rfl) rfl, pj_inT (List.mem_append_left _ (List.mem_of_getElem? (i := 36) rfl)) rfl⟩
theorem mf_X8_dueAt : pj_MF yX8_dueAt cX8_dueAt 3 (some .int) 2 := ⟨pj_tw5 (List.mem_of_getElem? (i := 127) rfl) rfl, pj_tw1 (List.mem_of_getElem? (i := 9) rfl) rfl, ⟨by decide +kernel, by decide +kernel⟩, by decide +kernel⟩
theorem mv_X8_dueAt : Cond.instanceMethod yX8_dueAt ∈ pj_T ∧ Cond.selects yX8_dueAt.cls yX8_dueAt yX8_dueAt ∈ pj_T := ⟨pj_tw5 (List.mem_of_getElem? (i := 126) rfl) rfl, pj_inT (List.mem_append_left _ (List.mem_of_getElem? (i := 37) rfl)) rfl⟩
theorem mf_X8_minutesBetween : pj_MF yX8_minutesBetween cX8_minutesBetween 3 (some .int) 2 := ⟨pj_tw5 (List.mem_of_getElem? (i := 131) rfl) rfl, pj_tw1 (List.mem_of_getElem? (i := 9) rfl) rfl, ⟨by decide +kernel, by decide +kernel⟩, by decide +kernel⟩
theorem mv_X8_minutesBetween : Cond.instanceMethod yX8_minutesBetween ∈ pj_T ∧ Cond.selects yX8_minutesBetween.cls yX8_minutesBetween yX8_minutesBetween ∈ pj_T := ⟨pj_tw5 (List.mem_of_getElem? (i := 130) rfl) rfl, pj_inT (List.mem_append_left _ (List.mem_of_getElem? (i := 38) rfl)) rfl⟩
theorem mf_X8_fits : pj_MF yX8_fits cX8_fits 2 (some .boolean) 1 := ⟨pj_tw5 (List.mem_of_getElem? (i := 145) rfl) rfl, pj_tw1 (List.mem_of_getElem? (i := 9) rfl) rfl, ⟨by decide +kernel, by decide +kernel⟩, by decide +kernel⟩
theorem mv_X8_fits : Cond.instanceMethod yX8_fits ∈ pj_T ∧ Cond.selects yX8_fits.cls yX8_fits yX8_fits ∈ pj_T := ⟨pj_tw5 (List.mem_of_getElem? (i := 144) rfl) rfl, pj_inT (List.mem_append_left _ (List.mem_of_getElem? (i := 39) rfl)) rfl⟩
theorem mf_X8_worthOf : pj_MF yX8_worthOf cX8_worthOf 4 (some .int) 1 := ⟨pj_tw5 (List.mem_of_getElem? (i := 150) rfl) rfl, pj_tw1 (List.mem_of_getElem? (i := 9) rfl) rfl, ⟨by decide +kernel, by decide +kernel⟩, by decide +kernel⟩
theorem mv_X8_worthOf : Cond.instanceMethod yX8_worthOf ∈ pj_T ∧ Cond.selects yX8_worthOf.cls yX8_worthOf yX8_worthOf ∈ pj_T := ⟨pj_tw5 (List.mem_of_getElem? (i := 149) rfl) rfl, pj_inT (List.mem_append_left _ (List.mem_of_getElem? (i := 40) rfl)) rfl⟩
theorem mf_X8_bestWorth : pj_MF yX8_bestWorth cX8_bestWorth 3 (some .int) 0 := ⟨pj_tw5 (List.mem_of_getElem? (i := 141) rfl) rfl, pj_tw1 (List.mem_of_getElem? (i := 9) rfl) rfl, ⟨by decide +kernel, by decide +kernel⟩, by decide +kernel⟩
theorem mv_X8_bestWorth : Cond.instanceMethod yX8_bestWorth ∈ pj_T ∧ Cond.selects yX8_bestWorth.cls yX8_bestWorth yX8_bestWorth ∈ pj_T := ⟨pj_tw5 (List.mem_of_getElem? (i := 139) rfl) rfl, pj_tw5 (List.mem_of_getElem? (i := 140) rfl) rfl⟩
theorem mf_X8_chooseRow : pj_MF yX8_chooseRow cX8_chooseRow 5 none 0 := ⟨pj_tw5 (List.mem_of_getElem? (i := 137) rfl) rfl, pj_tw1 (List.mem_of_getElem? (i := 9) rfl) rfl, ⟨by decide +kernel, by decide +kernel⟩, by decide +kernel⟩
theorem mv_X8_chooseRow : Cond.instanceMethod yX8_chooseRow ∈ pj_T ∧ Cond.selects yX8_chooseRow.cls yX8_chooseRow yX8_chooseRow ∈ pj_T := ⟨pj_tw5 (List.mem_of_getElem? (i := 135) rfl) rfl, pj_tw5 (List.mem_of_getElem? (i := 136) rfl) rfl⟩
theorem mf_X8_fewestFor : pj_MF yX8_fewestFor cX8_fewestFor 4 (some .int) 1 := ⟨pj_tw5 (List.mem_of_getElem? (i := 154) rfl) rfl, pj_tw1 (List.mem_of_getElem? (i := 9) rfl) rfl, ⟨by decide +kernel, by decide +kernel⟩, by decide +kernel⟩
theorem mv_X8_fewestFor : Cond.instanceMethod yX8_fewestFor ∈ pj_T ∧ Cond.selects yX8_fewestFor.cls yX8_fewestFor yX8_fewestFor ∈ pj_T := ⟨pj_tw5 (List.mem_of_getElem? (i := 153) rfl) rfl, pj_inT (List.mem_append_left _ (List.mem_of_getElem? (i := 41) rfl)) rfl⟩
theorem mf_X8_layTrial : pj_MF yX8_layTrial cX8_layTrial 8 none 2 := ⟨pj_tw5 (List.mem_of_getElem? (i := 159) rfl) rfl, pj_tw1 (List.mem_of_getElem? (i := 9) rfl) rfl, ⟨by decide +kernel, by decide +kernel⟩, by decide +kernel⟩
theorem mv_X8_layTrial : Cond.instanceMethod yX8_layTrial ∈ pj_T ∧ Cond.selects yX8_layTrial.cls yX8_layTrial yX8_layTrial ∈ pj_T := ⟨pj_tw5 (List.mem_of_getElem? (i := 158) rfl) rfl, pj_inT (List.mem_append_left _ (List.mem_of_getElem? (i := 42) rfl)) rfl⟩
theorem mf_X8_minuteAt : pj_MF yX8_minuteAt cX8_minuteAt 4 (some .int) 3 := ⟨pj_tw5 (List.mem_of_getElem? (i := 167) rfl) rfl, pj_tw1 (List.mem_of_getElem? (i := 9) rfl) rfl, ⟨by decide +kernel, by decide +kernel⟩, by decide +kernel⟩
theorem mv_X8_minuteAt : Cond.instanceMethod yX8_minuteAt ∈ pj_T ∧ Cond.selects yX8_minuteAt.cls yX8_minuteAt yX8_minuteAt ∈ pj_T := ⟨pj_tw5 (List.mem_of_getElem? (i := 166) rfl) rfl, pj_inT (List.mem_append_left _ (List.mem_of_getElem? (i := 44) rfl)) rfl⟩
theorem mf_X8_firstNext : pj_MF yX8_firstNext cX8_firstNext 5 (some .int) 3 := ⟨pj_tw5 (List.mem_of_getElem? (i := 163) rfl) rfl, pj_tw1 (List.mem_of_getElem? (i := 9) rfl) rfl, ⟨by decide +kernel, by decide +kernel⟩, by decide +kernel⟩
theorem mv_X8_firstNext : Cond.instanceMethod yX8_firstNext ∈ pj_T ∧ Cond.selects yX8_firstNext.cls yX8_firstNext yX8_firstNext ∈ pj_T := ⟨pj_tw5 (List.mem_of_getElem? (i := 162) rfl) rfl, pj_inT (List.mem_append_left _ (List.mem_of_getElem? (i := 43) rfl)) rfl⟩
theorem mf_X8_trialIsAhead : pj_MF yX8_trialIsAhead cX8_trialIsAhead 3 (some .boolean) 1 := ⟨pj_tw5 (List.mem_of_getElem? (i := 171) rfl) rfl, pj_tw1 (List.mem_of_getElem? (i := 9) rfl) rfl, ⟨by decide +kernel, by decide +kernel⟩, by decide +kernel⟩
theorem mv_X8_trialIsAhead : Cond.instanceMethod yX8_trialIsAhead ∈ pj_T ∧ Cond.selects yX8_trialIsAhead.cls yX8_trialIsAhead yX8_trialIsAhead ∈ pj_T := ⟨pj_tw5 (List.mem_of_getElem? (i := 170) rfl) rfl, pj_inT (List.mem_append_left _ (List.mem_of_getElem? (i := 45) rfl)) rfl⟩
theorem mf_X9_init : pj_MF yX9_init cX9_init 1 none 0 := ⟨pj_tw2 (List.mem_of_getElem? (i := 192) rfl) rfl, pj_tw1 (List.mem_of_getElem? (i := 15) rfl) rfl, ⟨by decide +kernel, by decide +kernel⟩, by decide +kernel⟩
theorem mi_X9_init : yX9_init.name = "<init>" ∧ Cond.instanceMethod yX9_init ∈ pj_T := ⟨rfl, pj_tw2 (List.mem_of_getElem? (i := 191) rfl) rfl⟩
theorem mf_X9_lay : pj_MF yX9_lay cX9_lay 4 none 2 := ⟨pj_tw3 (List.mem_of_getElem? (i := 52) rfl) rfl, pj_tw1 (List.mem_of_getElem? (i := 15) rfl) rfl, ⟨by decide +kernel, by decide +kernel⟩, by decide +kernel⟩
theorem mv_X9_lay : Cond.instanceMethod yX9_lay ∈ pj_T ∧ Cond.selects yX9_lay.cls yX9_lay yX9_lay ∈ pj_T := ⟨pj_tw3 (List.mem_of_getElem? (i := 50) rfl) rfl, pj_tw3 (List.mem_of_getElem? (i := 51) rfl) rfl⟩
theorem mf_X9_holds : pj_MF yX9_holds cX9_holds 3 (some .boolean) 2 := ⟨pj_tw3 (List.mem_of_getElem? (i := 64) rfl) rfl, pj_tw1 (List.mem_of_getElem? (i := 15) rfl) rfl, ⟨by decide +kernel, by decide +kernel⟩, by decide +kernel⟩
theorem mv_X9_holds : Cond.instanceMethod yX9_holds ∈ pj_T ∧ Cond.selects yX9_holds.cls yX9_holds yX9_holds ∈ pj_T := ⟨pj_tw3 (List.mem_of_getElem? (i := 62) rfl) rfl, pj_tw3 (List.mem_of_getElem? (i := 63) rfl) rfl⟩
theorem mf_X9_put : pj_MF yX9_put cX9_put 4 none 2 := ⟨pj_tw3 (List.mem_of_getElem? (i := 68) rfl) rfl, pj_tw1 (List.mem_of_getElem? (i := 15) rfl) rfl, ⟨by decide +kernel, by decide +kernel⟩, by decide +kernel⟩
theorem mv_X9_put : Cond.instanceMethod yX9_put ∈ pj_T ∧ Cond.selects yX9_put.cls yX9_put yX9_put ∈ pj_T := ⟨pj_tw3 (List.mem_of_getElem? (i := 66) rfl) rfl, pj_tw3 (List.mem_of_getElem? (i := 67) rfl) rfl⟩
theorem mf_X9_numberAt : pj_MF yX9_numberAt cX9_numberAt 2 (some .long) 1 := ⟨pj_tw3 (List.mem_of_getElem? (i := 85) rfl) rfl, pj_tw1 (List.mem_of_getElem? (i := 15) rfl) rfl, ⟨by decide +kernel, by decide +kernel⟩, by decide +kernel⟩
theorem mv_X9_numberAt : Cond.instanceMethod yX9_numberAt ∈ pj_T ∧ Cond.selects yX9_numberAt.cls yX9_numberAt yX9_numberAt ∈ pj_T := ⟨pj_tw3 (List.mem_of_getElem? (i := 83) rfl) rfl, pj_tw3 (List.mem_of_getElem? (i := 84) rfl) rfl⟩
theorem mf_X9_cut : pj_MF yX9_cut cX9_cut 3 (some .long) 1 := ⟨pj_tw3 (List.mem_of_getElem? (i := 73) rfl) rfl, pj_tw1 (List.mem_of_getElem? (i := 15) rfl) rfl, ⟨by decide +kernel, by decide +kernel⟩, by decide +kernel⟩
theorem mv_X9_cut : Cond.instanceMethod yX9_cut ∈ pj_T ∧ Cond.selects yX9_cut.cls yX9_cut yX9_cut ∈ pj_T := ⟨pj_tw3 (List.mem_of_getElem? (i := 72) rfl) rfl, pj_inT (List.mem_append_left _ (List.mem_of_getElem? (i := 3) rfl)) rfl⟩
theorem mf_X11_init : pj_MF yX11_init cX11_init 2 none 0 := ⟨pj_tw1 (List.mem_of_getElem? (i := 24) rfl) rfl, pj_tw1 (List.mem_of_getElem? (i := 1) rfl) rfl, ⟨by decide +kernel, by decide +kernel⟩, by decide +kernel⟩
theorem mi_X11_init : yX11_init.name = "<init>" ∧ Cond.instanceMethod yX11_init ∈ pj_T := ⟨rfl, pj_tw1 (List.mem_of_getElem? (i := 23) rfl) rfl⟩
theorem mf_X11_answer : pj_MF yX11_answer cX11_answer 2 (some .int) 1 := ⟨pj_tw4 (List.mem_of_getElem? (i := 26) rfl) rfl, pj_tw1 (List.mem_of_getElem? (i := 1) rfl) rfl, ⟨by decide +kernel, by decide +kernel⟩, by decide +kernel⟩
theorem mv_X11_answer : Cond.instanceMethod yX11_answer ∈ pj_T ∧ Cond.selects yX11_answer.cls yX11_answer yX11_answer ∈ pj_T := ⟨pj_tw4 (List.mem_of_getElem? (i := 25) rfl) rfl, pj_inT (List.mem_append_left _ (List.mem_of_getElem? (i := 19) rfl)) rfl⟩
theorem mf_X11_refuse : pj_MF yX11_refuse cX11_refuse 2 (some .int) 1 := ⟨pj_tw3 (List.mem_of_getElem? (i := 81) rfl) rfl, pj_tw1 (List.mem_of_getElem? (i := 1) rfl) rfl, ⟨by decide +kernel, by decide +kernel⟩, by decide +kernel⟩
theorem mv_X11_refuse : Cond.instanceMethod yX11_refuse ∈ pj_T ∧ Cond.selects yX11_refuse.cls yX11_refuse yX11_refuse ∈ pj_T := ⟨pj_tw3 (List.mem_of_getElem? (i := 80) rfl) rfl, pj_inT (List.mem_append_left _ (List.mem_of_getElem? (i := 4) rfl)) rfl⟩
theorem mf_X11_grant : pj_MF yX11_grant cX11_grant 1 (some .boolean) 0 := ⟨pj_tw3 (List.mem_of_getElem? (i := 56) rfl) rfl, pj_tw1 (List.mem_of_getElem? (i := 1) rfl) rfl, ⟨by decide +kernel, by decide +kernel⟩, by decide +kernel⟩
theorem mv_X11_grant : Cond.instanceMethod yX11_grant ∈ pj_T ∧ Cond.selects yX11_grant.cls yX11_grant yX11_grant ∈ pj_T := ⟨pj_tw3 (List.mem_of_getElem? (i := 55) rfl) rfl, pj_inT (List.mem_append_left _ (List.mem_of_getElem? (i := 2) rfl)) rfl⟩
theorem mf_X11_deny : pj_MF yX11_deny cX11_deny 2 (some .boolean) 1 := ⟨pj_tw3 (List.mem_of_getElem? (i := 48) rfl) rfl, pj_tw1 (List.mem_of_getElem? (i := 1) rfl) rfl, ⟨by decide +kernel, by decide +kernel⟩, by decide +kernel⟩
theorem mv_X11_deny : Cond.instanceMethod yX11_deny ∈ pj_T ∧ Cond.selects yX11_deny.cls yX11_deny yX11_deny ∈ pj_T := ⟨pj_tw3 (List.mem_of_getElem? (i := 47) rfl) rfl, pj_inT (List.mem_append_left _ (List.mem_of_getElem? (i := 1) rfl)) rfl⟩
theorem mf_X11_settle : pj_MF yX11_settle cX11_settle 2 (some .int) 1 := ⟨pj_tw4 (List.mem_of_getElem? (i := 168) rfl) rfl, pj_tw1 (List.mem_of_getElem? (i := 1) rfl) rfl, ⟨by decide +kernel, by decide +kernel⟩, by decide +kernel⟩
theorem mv_X11_settle : Cond.instanceMethod yX11_settle ∈ pj_T ∧ Cond.selects yX11_settle.cls yX11_settle yX11_settle ∈ pj_T := ⟨pj_tw4 (List.mem_of_getElem? (i := 167) rfl) rfl, pj_inT (List.mem_append_left _ (List.mem_of_getElem? (i := 33) rfl)) rfl⟩
theorem mf_X11_status : pj_MF yX11_status cX11_status 1 (some .int) 0 := ⟨pj_tw3 (List.mem_of_getElem? (i := 28) rfl) rfl, pj_tw1 (List.mem_of_getElem? (i := 1) rfl) rfl, ⟨by decide +kernel, by decide +kernel⟩, by decide +kernel⟩
theorem mv_X11_status : Cond.instanceMethod yX11_status ∈ pj_T ∧ Cond.selects yX11_status.cls yX11_status yX11_status ∈ pj_T := ⟨pj_tw3 (List.mem_of_getElem? (i := 26) rfl) rfl, pj_tw3 (List.mem_of_getElem? (i := 27) rfl) rfl⟩
theorem mf_X11_top : pj_MF yX11_top cX11_top 1 (some .long) 0 := ⟨pj_tw3 (List.mem_of_getElem? (i := 32) rfl) rfl, pj_tw1 (List.mem_of_getElem? (i := 1) rfl) rfl, ⟨by decide +kernel, by decide +kernel⟩, by decide +kernel⟩
theorem mv_X11_top : Cond.instanceMethod yX11_top ∈ pj_T ∧ Cond.selects yX11_top.cls yX11_top yX11_top ∈ pj_T := ⟨pj_tw3 (List.mem_of_getElem? (i := 30) rfl) rfl, pj_tw3 (List.mem_of_getElem? (i := 31) rfl) rfl⟩
theorem mf_X11_bottom : pj_MF yX11_bottom cX11_bottom 1 (some .long) 0 := ⟨pj_tw3 (List.mem_of_getElem? (i := 36) rfl) rfl, pj_tw1 (List.mem_of_getElem? (i := 1) rfl) rfl, ⟨by decide +kernel, by decide +kernel⟩, by decide +kernel⟩
theorem mv_X11_bottom : Cond.instanceMethod yX11_bottom ∈ pj_T ∧ Cond.selects yX11_bottom.cls yX11_bottom yX11_bottom ∈ pj_T := ⟨pj_tw3 (List.mem_of_getElem? (i := 34) rfl) rfl, pj_tw3 (List.mem_of_getElem? (i := 35) rfl) rfl⟩
theorem mf_X11_tellFraction : pj_MF yX11_tellFraction cX11_tellFraction 7 none 2 := ⟨pj_tw5 (List.mem_of_getElem? (i := 220) rfl) rfl, pj_tw1 (List.mem_of_getElem? (i := 1) rfl) rfl, ⟨by decide +kernel, by decide +kernel⟩, by decide +kernel⟩
theorem mv_X11_tellFraction : Cond.instanceMethod yX11_tellFraction ∈ pj_T ∧ Cond.selects yX11_tellFraction.cls yX11_tellFraction yX11_tellFraction ∈ pj_T := ⟨pj_tw5 (List.mem_of_getElem? (i := 219) rfl) rfl, pj_inT (List.mem_append_left _ (List.mem_of_getElem? (i := 47) rfl)) rfl⟩
theorem mf_X11_commonDivisor : pj_MF yX11_commonDivisor cX11_commonDivisor 11 (some .long) 2 := ⟨pj_tw5 (List.mem_of_getElem? (i := 223) rfl) rfl, pj_tw1 (List.mem_of_getElem? (i := 1) rfl) rfl, ⟨by decide +kernel, by decide +kernel⟩, by decide +kernel⟩
theorem ms_X11_commonDivisor : Cond.static yX11_commonDivisor ∈ pj_T := pj_tw5 (List.mem_of_getElem? (i := 222) rfl) rfl
theorem mf_X11_trayAt : pj_MF yX11_trayAt cX11_trayAt 2 (some (.object "LastPebble$Tray")) 1 := ⟨pj_tw3 (List.mem_of_getElem? (i := 44) rfl) rfl, pj_tw1 (List.mem_of_getElem? (i := 1) rfl) rfl, ⟨by decide +kernel, by decide +kernel⟩, by decide +kernel⟩
theorem mv_X11_trayAt : Cond.instanceMethod yX11_trayAt ∈ pj_T ∧ Cond.selects yX11_trayAt.cls yX11_trayAt yX11_trayAt ∈ pj_T := ⟨pj_tw3 (List.mem_of_getElem? (i := 43) rfl) rfl, pj_inT (List.mem_append_left _ (List.mem_of_getElem? (i := 0) rfl)) rfl⟩
theorem mf_X11_tray : pj_MF yX11_tray cX11_tray 5 (some .boolean) 3 := ⟨pj_tw3 (List.mem_of_getElem? (i := 40) rfl) rfl, pj_tw1 (List.mem_of_getElem? (i := 1) rfl) rfl, ⟨by decide +kernel, by decide +kernel⟩, by decide +kernel⟩
theorem mv_X11_tray : Cond.instanceMethod yX11_tray ∈ pj_T ∧ Cond.selects yX11_tray.cls yX11_tray yX11_tray ∈ pj_T := ⟨pj_tw3 (List.mem_of_getElem? (i := 38) rfl) rfl, pj_tw3 (List.mem_of_getElem? (i := 39) rfl) rfl⟩
theorem mf_X11_write : pj_MF yX11_write cX11_write 6 (some .boolean) 3 := ⟨pj_tw3 (List.mem_of_getElem? (i := 60) rfl) rfl, pj_tw1 (List.mem_of_getElem? (i := 1) rfl) rfl, ⟨by decide +kernel, by decide +kernel⟩, by decide +kernel⟩
theorem mv_X11_write : Cond.instanceMethod yX11_write ∈ pj_T ∧ Cond.selects yX11_write.cls yX11_write yX11_write ∈ pj_T := ⟨pj_tw3 (List.mem_of_getElem? (i := 58) rfl) rfl, pj_tw3 (List.mem_of_getElem? (i := 59) rfl) rfl⟩
theorem mf_X11_read : pj_MF yX11_read cX11_read 4 (some .long) 2 := ⟨pj_tw3 (List.mem_of_getElem? (i := 77) rfl) rfl, pj_tw1 (List.mem_of_getElem? (i := 1) rfl) rfl, ⟨by decide +kernel, by decide +kernel⟩, by decide +kernel⟩
theorem mv_X11_read : Cond.instanceMethod yX11_read ∈ pj_T ∧ Cond.selects yX11_read.cls yX11_read yX11_read ∈ pj_T := ⟨pj_tw3 (List.mem_of_getElem? (i := 75) rfl) rfl, pj_tw3 (List.mem_of_getElem? (i := 76) rfl) rfl⟩
theorem mf_X11_pour : pj_MF yX11_pour cX11_pour 8 (some .boolean) 5 := ⟨pj_tw3 (List.mem_of_getElem? (i := 89) rfl) rfl, pj_tw1 (List.mem_of_getElem? (i := 1) rfl) rfl, ⟨by decide +kernel, by decide +kernel⟩, by decide +kernel⟩
theorem mv_X11_pour : Cond.instanceMethod yX11_pour ∈ pj_T ∧ Cond.selects yX11_pour.cls yX11_pour yX11_pour ∈ pj_T := ⟨pj_tw3 (List.mem_of_getElem? (i := 87) rfl) rfl, pj_tw3 (List.mem_of_getElem? (i := 88) rfl) rfl⟩
theorem mf_X11_feed : pj_MF yX11_feed cX11_feed 6 (some .int) 5 := ⟨pj_tw3 (List.mem_of_getElem? (i := 96) rfl) rfl, pj_tw1 (List.mem_of_getElem? (i := 1) rfl) rfl, ⟨by decide +kernel, by decide +kernel⟩, by decide +kernel⟩
theorem mv_X11_feed : Cond.instanceMethod yX11_feed ∈ pj_T ∧ Cond.selects yX11_feed.cls yX11_feed yX11_feed ∈ pj_T := ⟨pj_tw3 (List.mem_of_getElem? (i := 94) rfl) rfl, pj_tw3 (List.mem_of_getElem? (i := 95) rfl) rfl⟩
theorem mf_X11_beach : pj_MF yX11_beach cX11_beach 3 (some .int) 1 := ⟨pj_tw3 (List.mem_of_getElem? (i := 108) rfl) rfl, pj_tw1 (List.mem_of_getElem? (i := 1) rfl) rfl, ⟨by decide +kernel, by decide +kernel⟩, by decide +kernel⟩
theorem mv_X11_beach : Cond.instanceMethod yX11_beach ∈ pj_T ∧ Cond.selects yX11_beach.cls yX11_beach yX11_beach ∈ pj_T := ⟨pj_tw3 (List.mem_of_getElem? (i := 106) rfl) rfl, pj_tw3 (List.mem_of_getElem? (i := 107) rfl) rfl⟩
theorem mf_X11_days : pj_MF yX11_days cX11_days 3 (some .int) 1 := ⟨pj_tw4 (List.mem_of_getElem? (i := 30) rfl) rfl, pj_tw1 (List.mem_of_getElem? (i := 1) rfl) rfl, ⟨by decide +kernel, by decide +kernel⟩, by decide +kernel⟩
theorem mv_X11_days : Cond.instanceMethod yX11_days ∈ pj_T ∧ Cond.selects yX11_days.cls yX11_days yX11_days ∈ pj_T := ⟨pj_tw4 (List.mem_of_getElem? (i := 28) rfl) rfl, pj_tw4 (List.mem_of_getElem? (i := 29) rfl) rfl⟩
theorem mf_X11_fault : pj_MF yX11_fault cX11_fault 2 (some .int) 1 := ⟨pj_tw4 (List.mem_of_getElem? (i := 110) rfl) rfl, pj_tw1 (List.mem_of_getElem? (i := 1) rfl) rfl, ⟨by decide +kernel, by decide +kernel⟩, by decide +kernel⟩
theorem mv_X11_fault : Cond.instanceMethod yX11_fault ∈ pj_T ∧ Cond.selects yX11_fault.cls yX11_fault yX11_fault ∈ pj_T := ⟨pj_tw4 (List.mem_of_getElem? (i := 108) rfl) rfl, pj_tw4 (List.mem_of_getElem? (i := 109) rfl) rfl⟩
theorem mf_X11_told : pj_MF yX11_told cX11_told 2 (some .int) 1 := ⟨pj_tw4 (List.mem_of_getElem? (i := 114) rfl) rfl, pj_tw1 (List.mem_of_getElem? (i := 1) rfl) rfl, ⟨by decide +kernel, by decide +kernel⟩, by decide +kernel⟩
theorem mv_X11_told : Cond.instanceMethod yX11_told ∈ pj_T ∧ Cond.selects yX11_told.cls yX11_told yX11_told ∈ pj_T := ⟨pj_tw4 (List.mem_of_getElem? (i := 112) rfl) rfl, pj_tw4 (List.mem_of_getElem? (i := 113) rfl) rfl⟩
theorem mf_X11_finder : pj_MF yX11_finder cX11_finder 4 (some .int) 2 := ⟨pj_tw4 (List.mem_of_getElem? (i := 123) rfl) rfl, pj_tw1 (List.mem_of_getElem? (i := 1) rfl) rfl, ⟨by decide +kernel, by decide +kernel⟩, by decide +kernel⟩
theorem mv_X11_finder : Cond.instanceMethod yX11_finder ∈ pj_T ∧ Cond.selects yX11_finder.cls yX11_finder yX11_finder ∈ pj_T := ⟨pj_tw4 (List.mem_of_getElem? (i := 121) rfl) rfl, pj_tw4 (List.mem_of_getElem? (i := 122) rfl) rfl⟩
theorem mf_X11_find : pj_MF yX11_find cX11_find 4 (some .int) 2 := ⟨pj_tw4 (List.mem_of_getElem? (i := 131) rfl) rfl, pj_tw1 (List.mem_of_getElem? (i := 1) rfl) rfl, ⟨by decide +kernel, by decide +kernel⟩, by decide +kernel⟩
theorem mv_X11_find : Cond.instanceMethod yX11_find ∈ pj_T ∧ Cond.selects yX11_find.cls yX11_find yX11_find ∈ pj_T := ⟨pj_tw4 (List.mem_of_getElem? (i := 129) rfl) rfl, pj_tw4 (List.mem_of_getElem? (i := 130) rfl) rfl⟩
theorem mf_X11_pebble : pj_MF yX11_pebble cX11_pebble 5 (some .int) 3 := ⟨pj_tw4 (List.mem_of_getElem? (i := 136) rfl) rfl, pj_tw1 (List.mem_of_getElem? (i := 1) rfl) rfl, ⟨by decide +kernel, by decide +kernel⟩, by decide +kernel⟩
theorem mv_X11_pebble : Cond.instanceMethod yX11_pebble ∈ pj_T ∧ Cond.selects yX11_pebble.cls yX11_pebble yX11_pebble ∈ pj_T := ⟨pj_tw4 (List.mem_of_getElem? (i := 134) rfl) rfl, pj_tw4 (List.mem_of_getElem? (i := 135) rfl) rfl⟩
theorem mf_X11_go : pj_MF yX11_go cX11_go 3 (some .int) 2 := ⟨pj_tw4 (List.mem_of_getElem? (i := 144) rfl) rfl, pj_tw1 (List.mem_of_getElem? (i := 1) rfl) rfl, ⟨by decide +kernel, by decide +kernel⟩, by decide +kernel⟩
theorem mv_X11_go : Cond.instanceMethod yX11_go ∈ pj_T ∧ Cond.selects yX11_go.cls yX11_go yX11_go ∈ pj_T := ⟨pj_tw4 (List.mem_of_getElem? (i := 142) rfl) rfl, pj_tw4 (List.mem_of_getElem? (i := 143) rfl) rfl⟩
theorem mf_X11_pass : pj_MF yX11_pass cX11_pass 3 (some .int) 2 := ⟨pj_tw4 (List.mem_of_getElem? (i := 172) rfl) rfl, pj_tw1 (List.mem_of_getElem? (i := 1) rfl) rfl, ⟨by decide +kernel, by decide +kernel⟩, by decide +kernel⟩
theorem mv_X11_pass : Cond.instanceMethod yX11_pass ∈ pj_T ∧ Cond.selects yX11_pass.cls yX11_pass yX11_pass ∈ pj_T := ⟨pj_tw4 (List.mem_of_getElem? (i := 170) rfl) rfl, pj_tw4 (List.mem_of_getElem? (i := 171) rfl) rfl⟩
theorem mf_X11_set : pj_MF yX11_set cX11_set 3 (some .int) 2 := ⟨pj_tw4 (List.mem_of_getElem? (i := 180) rfl) rfl, pj_tw1 (List.mem_of_getElem? (i := 1) rfl) rfl, ⟨by decide +kernel, by decide +kernel⟩, by decide +kernel⟩
theorem mv_X11_set : Cond.instanceMethod yX11_set ∈ pj_T ∧ Cond.selects yX11_set.cls yX11_set yX11_set ∈ pj_T := ⟨pj_tw4 (List.mem_of_getElem? (i := 178) rfl) rfl, pj_tw4 (List.mem_of_getElem? (i := 179) rfl) rfl⟩
theorem mf_X11_lift : pj_MF yX11_lift cX11_lift 3 (some .int) 2 := ⟨pj_tw4 (List.mem_of_getElem? (i := 191) rfl) rfl, pj_tw1 (List.mem_of_getElem? (i := 1) rfl) rfl, ⟨by decide +kernel, by decide +kernel⟩, by decide +kernel⟩
theorem mv_X11_lift : Cond.instanceMethod yX11_lift ∈ pj_T ∧ Cond.selects yX11_lift.cls yX11_lift yX11_lift ∈ pj_T := ⟨pj_tw4 (List.mem_of_getElem? (i := 189) rfl) rfl, pj_tw4 (List.mem_of_getElem? (i := 190) rfl) rfl⟩
theorem mf_X11_gull : pj_MF yX11_gull cX11_gull 3 (some .int) 2 := ⟨pj_tw4 (List.mem_of_getElem? (i := 209) rfl) rfl, pj_tw1 (List.mem_of_getElem? (i := 1) rfl) rfl, ⟨by decide +kernel, by decide +kernel⟩, by decide +kernel⟩
theorem mv_X11_gull : Cond.instanceMethod yX11_gull ∈ pj_T ∧ Cond.selects yX11_gull.cls yX11_gull yX11_gull ∈ pj_T := ⟨pj_tw4 (List.mem_of_getElem? (i := 207) rfl) rfl, pj_tw4 (List.mem_of_getElem? (i := 208) rfl) rfl⟩
theorem mf_X11_wave : pj_MF yX11_wave cX11_wave 2 (some .int) 1 := ⟨pj_tw4 (List.mem_of_getElem? (i := 217) rfl) rfl, pj_tw1 (List.mem_of_getElem? (i := 1) rfl) rfl, ⟨by decide +kernel, by decide +kernel⟩, by decide +kernel⟩
theorem mv_X11_wave : Cond.instanceMethod yX11_wave ∈ pj_T ∧ Cond.selects yX11_wave.cls yX11_wave yX11_wave ∈ pj_T := ⟨pj_tw4 (List.mem_of_getElem? (i := 215) rfl) rfl, pj_tw4 (List.mem_of_getElem? (i := 216) rfl) rfl⟩
theorem mf_X11_tide : pj_MF yX11_tide cX11_tide 1 (some .int) 0 := ⟨pj_tw4 (List.mem_of_getElem? (i := 225) rfl) rfl, pj_tw1 (List.mem_of_getElem? (i := 1) rfl) rfl, ⟨by decide +kernel, by decide +kernel⟩, by decide +kernel⟩
theorem mv_X11_tide : Cond.instanceMethod yX11_tide ∈ pj_T ∧ Cond.selects yX11_tide.cls yX11_tide yX11_tide ∈ pj_T := ⟨pj_tw4 (List.mem_of_getElem? (i := 223) rfl) rfl, pj_tw4 (List.mem_of_getElem? (i := 224) rfl) rfl⟩
theorem mf_X11_dawn : pj_MF yX11_dawn cX11_dawn 1 (some .int) 0 := ⟨pj_tw5 (List.mem_of_getElem? (i := 33) rfl) rfl, pj_tw1 (List.mem_of_getElem? (i := 1) rfl) rfl, ⟨by decide +kernel, by decide +kernel⟩, by decide +kernel⟩
theorem mv_X11_dawn : Cond.instanceMethod yX11_dawn ∈ pj_T ∧ Cond.selects yX11_dawn.cls yX11_dawn yX11_dawn ∈ pj_T := ⟨pj_tw5 (List.mem_of_getElem? (i := 31) rfl) rfl, pj_tw5 (List.mem_of_getElem? (i := 32) rfl) rfl⟩
theorem mf_X11_last : pj_MF yX11_last cX11_last 3 (some .int) 1 := ⟨pj_tw5 (List.mem_of_getElem? (i := 41) rfl) rfl, pj_tw1 (List.mem_of_getElem? (i := 1) rfl) rfl, ⟨by decide +kernel, by decide +kernel⟩, by decide +kernel⟩
theorem mv_X11_last : Cond.instanceMethod yX11_last ∈ pj_T ∧ Cond.selects yX11_last.cls yX11_last yX11_last ∈ pj_T := ⟨pj_tw5 (List.mem_of_getElem? (i := 39) rfl) rfl, pj_tw5 (List.mem_of_getElem? (i := 40) rfl) rfl⟩
theorem mf_X11_whose : pj_MF yX11_whose cX11_whose 3 (some .int) 1 := ⟨pj_tw5 (List.mem_of_getElem? (i := 46) rfl) rfl, pj_tw1 (List.mem_of_getElem? (i := 1) rfl) rfl, ⟨by decide +kernel, by decide +kernel⟩, by decide +kernel⟩
theorem mv_X11_whose : Cond.instanceMethod yX11_whose ∈ pj_T ∧ Cond.selects yX11_whose.cls yX11_whose yX11_whose ∈ pj_T := ⟨pj_tw5 (List.mem_of_getElem? (i := 44) rfl) rfl, pj_tw5 (List.mem_of_getElem? (i := 45) rfl) rfl⟩
theorem mf_X11_leads : pj_MF yX11_leads cX11_leads 2 (some .int) 1 := ⟨pj_tw5 (List.mem_of_getElem? (i := 51) rfl) rfl, pj_tw1 (List.mem_of_getElem? (i := 1) rfl) rfl, ⟨by decide +kernel, by decide +kernel⟩, by decide +kernel⟩
theorem mv_X11_leads : Cond.instanceMethod yX11_leads ∈ pj_T ∧ Cond.selects yX11_leads.cls yX11_leads yX11_leads ∈ pj_T := ⟨pj_tw5 (List.mem_of_getElem? (i := 49) rfl) rfl, pj_tw5 (List.mem_of_getElem? (i := 50) rfl) rfl⟩
theorem mf_X11_leader : pj_MF yX11_leader cX11_leader 2 (some .int) 0 := ⟨pj_tw5 (List.mem_of_getElem? (i := 63) rfl) rfl, pj_tw1 (List.mem_of_getElem? (i := 1) rfl) rfl, ⟨by decide +kernel, by decide +kernel⟩, by decide +kernel⟩
theorem mv_X11_leader : Cond.instanceMethod yX11_leader ∈ pj_T ∧ Cond.selects yX11_leader.cls yX11_leader yX11_leader ∈ pj_T := ⟨pj_tw5 (List.mem_of_getElem? (i := 61) rfl) rfl, pj_tw5 (List.mem_of_getElem? (i := 62) rfl) rfl⟩
theorem mf_X11_duels : pj_MF yX11_duels cX11_duels 3 (some .int) 0 := ⟨pj_tw5 (List.mem_of_getElem? (i := 76) rfl) rfl, pj_tw1 (List.mem_of_getElem? (i := 1) rfl) rfl, ⟨by decide +kernel, by decide +kernel⟩, by decide +kernel⟩
theorem mv_X11_duels : Cond.instanceMethod yX11_duels ∈ pj_T ∧ Cond.selects yX11_duels.cls yX11_duels yX11_duels ∈ pj_T := ⟨pj_tw5 (List.mem_of_getElem? (i := 74) rfl) rfl, pj_tw5 (List.mem_of_getElem? (i := 75) rfl) rfl⟩
theorem mf_X11_needs : pj_MF yX11_needs cX11_needs 5 (some .int) 1 := ⟨pj_tw5 (List.mem_of_getElem? (i := 81) rfl) rfl, pj_tw1 (List.mem_of_getElem? (i := 1) rfl) rfl, ⟨by decide +kernel, by decide +kernel⟩, by decide +kernel⟩
theorem mv_X11_needs : Cond.instanceMethod yX11_needs ∈ pj_T ∧ Cond.selects yX11_needs.cls yX11_needs yX11_needs ∈ pj_T := ⟨pj_tw5 (List.mem_of_getElem? (i := 79) rfl) rfl, pj_tw5 (List.mem_of_getElem? (i := 80) rfl) rfl⟩
theorem mf_X11_strewn : pj_MF yX11_strewn cX11_strewn 2 (some .int) 1 := ⟨pj_tw5 (List.mem_of_getElem? (i := 85) rfl) rfl, pj_tw1 (List.mem_of_getElem? (i := 1) rfl) rfl, ⟨by decide +kernel, by decide +kernel⟩, by decide +kernel⟩
theorem mv_X11_strewn : Cond.instanceMethod yX11_strewn ∈ pj_T ∧ Cond.selects yX11_strewn.cls yX11_strewn yX11_strewn ∈ pj_T := ⟨pj_tw5 (List.mem_of_getElem? (i := 83) rfl) rfl, pj_tw5 (List.mem_of_getElem? (i := 84) rfl) rfl⟩
theorem mf_X11_soonest : pj_MF yX11_soonest cX11_soonest 5 (some .int) 2 := ⟨pj_tw5 (List.mem_of_getElem? (i := 90) rfl) rfl, pj_tw1 (List.mem_of_getElem? (i := 1) rfl) rfl, ⟨by decide +kernel, by decide +kernel⟩, by decide +kernel⟩
theorem mv_X11_soonest : Cond.instanceMethod yX11_soonest ∈ pj_T ∧ Cond.selects yX11_soonest.cls yX11_soonest yX11_soonest ∈ pj_T := ⟨pj_tw5 (List.mem_of_getElem? (i := 88) rfl) rfl, pj_tw5 (List.mem_of_getElem? (i := 89) rfl) rfl⟩
theorem mf_X11_threat : pj_MF yX11_threat cX11_threat 3 (some .int) 1 := ⟨pj_tw5 (List.mem_of_getElem? (i := 102) rfl) rfl, pj_tw1 (List.mem_of_getElem? (i := 1) rfl) rfl, ⟨by decide +kernel, by decide +kernel⟩, by decide +kernel⟩
theorem mv_X11_threat : Cond.instanceMethod yX11_threat ∈ pj_T ∧ Cond.selects yX11_threat.cls yX11_threat yX11_threat ∈ pj_T := ⟨pj_tw5 (List.mem_of_getElem? (i := 100) rfl) rfl, pj_tw5 (List.mem_of_getElem? (i := 101) rfl) rfl⟩
theorem mf_X11_best : pj_MF yX11_best cX11_best 2 (some .int) 1 := ⟨pj_tw5 (List.mem_of_getElem? (i := 111) rfl) rfl, pj_tw1 (List.mem_of_getElem? (i := 1) rfl) rfl, ⟨by decide +kernel, by decide +kernel⟩, by decide +kernel⟩
theorem mv_X11_best : Cond.instanceMethod yX11_best ∈ pj_T ∧ Cond.selects yX11_best.cls yX11_best yX11_best ∈ pj_T := ⟨pj_tw5 (List.mem_of_getElem? (i := 109) rfl) rfl, pj_tw5 (List.mem_of_getElem? (i := 110) rfl) rfl⟩
theorem mf_X11_bestAt : pj_MF yX11_bestAt cX11_bestAt 2 (some .int) 1 := ⟨pj_tw5 (List.mem_of_getElem? (i := 177) rfl) rfl, pj_tw1 (List.mem_of_getElem? (i := 1) rfl) rfl, ⟨by decide +kernel, by decide +kernel⟩, by decide +kernel⟩
theorem mv_X11_bestAt : Cond.instanceMethod yX11_bestAt ∈ pj_T ∧ Cond.selects yX11_bestAt.cls yX11_bestAt yX11_bestAt ∈ pj_T := ⟨pj_tw5 (List.mem_of_getElem? (i := 175) rfl) rfl, pj_tw5 (List.mem_of_getElem? (i := 176) rfl) rfl⟩
theorem mf_X11_lateness : pj_MF yX11_lateness cX11_lateness 4 (some .int) 2 := ⟨pj_tw5 (List.mem_of_getElem? (i := 181) rfl) rfl, pj_tw1 (List.mem_of_getElem? (i := 1) rfl) rfl, ⟨by decide +kernel, by decide +kernel⟩, by decide +kernel⟩
theorem mv_X11_lateness : Cond.instanceMethod yX11_lateness ∈ pj_T ∧ Cond.selects yX11_lateness.cls yX11_lateness yX11_lateness ∈ pj_T := ⟨pj_tw5 (List.mem_of_getElem? (i := 179) rfl) rfl, pj_tw5 (List.mem_of_getElem? (i := 180) rfl) rfl⟩
theorem mf_X11_seen : pj_MF yX11_seen cX11_seen 4 (some .int) 2 := ⟨pj_tw5 (List.mem_of_getElem? (i := 185) rfl) rfl, pj_tw1 (List.mem_of_getElem? (i := 1) rfl) rfl, ⟨by decide +kernel, by decide +kernel⟩, by decide +kernel⟩
theorem mv_X11_seen : Cond.instanceMethod yX11_seen ∈ pj_T ∧ Cond.selects yX11_seen.cls yX11_seen yX11_seen ∈ pj_T := ⟨pj_tw5 (List.mem_of_getElem? (i := 183) rfl) rfl, pj_tw5 (List.mem_of_getElem? (i := 184) rfl) rfl⟩
theorem mf_X11_boys : pj_MF yX11_boys cX11_boys 3 (some .int) 1 := ⟨pj_tw5 (List.mem_of_getElem? (i := 194) rfl) rfl, pj_tw1 (List.mem_of_getElem? (i := 1) rfl) rfl, ⟨by decide +kernel, by decide +kernel⟩, by decide +kernel⟩
theorem mv_X11_boys : Cond.instanceMethod yX11_boys ∈ pj_T ∧ Cond.selects yX11_boys.cls yX11_boys yX11_boys ∈ pj_T := ⟨pj_tw5 (List.mem_of_getElem? (i := 192) rfl) rfl, pj_tw5 (List.mem_of_getElem? (i := 193) rfl) rfl⟩
theorem mf_X11_boyAt : pj_MF yX11_boyAt cX11_boyAt 4 (some .int) 2 := ⟨pj_tw5 (List.mem_of_getElem? (i := 207) rfl) rfl, pj_tw1 (List.mem_of_getElem? (i := 1) rfl) rfl, ⟨by decide +kernel, by decide +kernel⟩, by decide +kernel⟩
theorem mv_X11_boyAt : Cond.instanceMethod yX11_boyAt ∈ pj_T ∧ Cond.selects yX11_boyAt.cls yX11_boyAt yX11_boyAt ∈ pj_T := ⟨pj_tw5 (List.mem_of_getElem? (i := 205) rfl) rfl, pj_tw5 (List.mem_of_getElem? (i := 206) rfl) rfl⟩
theorem mf_X11_odds : pj_MF yX11_odds cX11_odds 11 (some .boolean) 3 := ⟨pj_tw5 (List.mem_of_getElem? (i := 211) rfl) rfl, pj_tw1 (List.mem_of_getElem? (i := 1) rfl) rfl, ⟨by decide +kernel, by decide +kernel⟩, by decide +kernel⟩
theorem mv_X11_odds : Cond.instanceMethod yX11_odds ∈ pj_T ∧ Cond.selects yX11_odds.cls yX11_odds yX11_odds ∈ pj_T := ⟨pj_tw5 (List.mem_of_getElem? (i := 209) rfl) rfl, pj_tw5 (List.mem_of_getElem? (i := 210) rfl) rfl⟩
theorem mf_X11_gulls : pj_MF yX11_gulls cX11_gulls 4 (some .int) 1 := ⟨pj_tw5 (List.mem_of_getElem? (i := 227) rfl) rfl, pj_tw1 (List.mem_of_getElem? (i := 1) rfl) rfl, ⟨by decide +kernel, by decide +kernel⟩, by decide +kernel⟩
theorem mv_X11_gulls : Cond.instanceMethod yX11_gulls ∈ pj_T ∧ Cond.selects yX11_gulls.cls yX11_gulls yX11_gulls ∈ pj_T := ⟨pj_tw5 (List.mem_of_getElem? (i := 225) rfl) rfl, pj_tw5 (List.mem_of_getElem? (i := 226) rfl) rfl⟩
theorem mf_X11_fewestGulls : pj_MF yX11_fewestGulls cX11_fewestGulls 7 (some .int) 1 := ⟨pj_tw5 (List.mem_of_getElem? (i := 232) rfl) rfl, pj_tw1 (List.mem_of_getElem? (i := 1) rfl) rfl, ⟨by decide +kernel, by decide +kernel⟩, by decide +kernel⟩
theorem mv_X11_fewestGulls : Cond.instanceMethod yX11_fewestGulls ∈ pj_T ∧ Cond.selects yX11_fewestGulls.cls yX11_fewestGulls yX11_fewestGulls ∈ pj_T := ⟨pj_tw5 (List.mem_of_getElem? (i := 231) rfl) rfl, pj_inT (List.mem_append_left _ (List.mem_of_getElem? (i := 48) rfl)) rfl⟩
theorem mf_X11_walk : pj_MF yX11_walk cX11_walk 5 (some .int) 2 := ⟨pj_tw5 (List.mem_of_getElem? (i := 237) rfl) rfl, pj_tw1 (List.mem_of_getElem? (i := 1) rfl) rfl, ⟨by decide +kernel, by decide +kernel⟩, by decide +kernel⟩
theorem mv_X11_walk : Cond.instanceMethod yX11_walk ∈ pj_T ∧ Cond.selects yX11_walk.cls yX11_walk yX11_walk ∈ pj_T := ⟨pj_tw5 (List.mem_of_getElem? (i := 235) rfl) rfl, pj_tw5 (List.mem_of_getElem? (i := 236) rfl) rfl⟩
theorem mf_X11_gain : pj_MF yX11_gain cX11_gain 4 (some .int) 2 := ⟨pj_tw6 (List.mem_of_getElem? (i := 2) rfl) rfl, pj_tw1 (List.mem_of_getElem? (i := 1) rfl) rfl, ⟨by decide +kernel, by decide +kernel⟩, by decide +kernel⟩
theorem mv_X11_gain : Cond.instanceMethod yX11_gain ∈ pj_T ∧ Cond.selects yX11_gain.cls yX11_gain yX11_gain ∈ pj_T := ⟨pj_tw6 (List.mem_of_getElem? (i := 0) rfl) rfl, pj_tw6 (List.mem_of_getElem? (i := 1) rfl) rfl⟩
theorem mf_X11_safe : pj_MF yX11_safe cX11_safe 6 (some .int) 1 := ⟨pj_tw6 (List.mem_of_getElem? (i := 7) rfl) rfl, pj_tw1 (List.mem_of_getElem? (i := 1) rfl) rfl, ⟨by decide +kernel, by decide +kernel⟩, by decide +kernel⟩
theorem mv_X11_safe : Cond.instanceMethod yX11_safe ∈ pj_T ∧ Cond.selects yX11_safe.cls yX11_safe yX11_safe ∈ pj_T := ⟨pj_tw6 (List.mem_of_getElem? (i := 5) rfl) rfl, pj_tw6 (List.mem_of_getElem? (i := 6) rfl) rfl⟩
theorem mf_X11_ranked : pj_MF yX11_ranked cX11_ranked 3 (some .int) 1 := ⟨pj_tw6 (List.mem_of_getElem? (i := 11) rfl) rfl, pj_tw1 (List.mem_of_getElem? (i := 1) rfl) rfl, ⟨by decide +kernel, by decide +kernel⟩, by decide +kernel⟩
theorem mv_X11_ranked : Cond.instanceMethod yX11_ranked ∈ pj_T ∧ Cond.selects yX11_ranked.cls yX11_ranked yX11_ranked ∈ pj_T := ⟨pj_tw6 (List.mem_of_getElem? (i := 9) rfl) rfl, pj_tw6 (List.mem_of_getElem? (i := 10) rfl) rfl⟩
theorem mf_X11_rivals : pj_MF yX11_rivals cX11_rivals 6 (some .int) 2 := ⟨pj_tw6 (List.mem_of_getElem? (i := 15) rfl) rfl, pj_tw1 (List.mem_of_getElem? (i := 1) rfl) rfl, ⟨by decide +kernel, by decide +kernel⟩, by decide +kernel⟩
theorem mv_X11_rivals : Cond.instanceMethod yX11_rivals ∈ pj_T ∧ Cond.selects yX11_rivals.cls yX11_rivals yX11_rivals ∈ pj_T := ⟨pj_tw6 (List.mem_of_getElem? (i := 13) rfl) rfl, pj_tw6 (List.mem_of_getElem? (i := 14) rfl) rfl⟩
theorem mf_X11_richest : pj_MF yX11_richest cX11_richest 5 (some .int) 0 := ⟨pj_tw6 (List.mem_of_getElem? (i := 23) rfl) rfl, pj_tw1 (List.mem_of_getElem? (i := 1) rfl) rfl, ⟨by decide +kernel, by decide +kernel⟩, by decide +kernel⟩
theorem mv_X11_richest : Cond.instanceMethod yX11_richest ∈ pj_T ∧ Cond.selects yX11_richest.cls yX11_richest yX11_richest ∈ pj_T := ⟨pj_tw6 (List.mem_of_getElem? (i := 21) rfl) rfl, pj_tw6 (List.mem_of_getElem? (i := 22) rfl) rfl⟩
theorem mf_X11_left : pj_MF yX11_left cX11_left 3 (some .int) 1 := ⟨pj_tw6 (List.mem_of_getElem? (i := 27) rfl) rfl, pj_tw1 (List.mem_of_getElem? (i := 1) rfl) rfl, ⟨by decide +kernel, by decide +kernel⟩, by decide +kernel⟩
theorem mv_X11_left : Cond.instanceMethod yX11_left ∈ pj_T ∧ Cond.selects yX11_left.cls yX11_left yX11_left ∈ pj_T := ⟨pj_tw6 (List.mem_of_getElem? (i := 25) rfl) rfl, pj_tw6 (List.mem_of_getElem? (i := 26) rfl) rfl⟩
theorem mf_X11_tideIn : pj_MF yX11_tideIn cX11_tideIn 2 (some .int) 1 := ⟨pj_tw6 (List.mem_of_getElem? (i := 31) rfl) rfl, pj_tw1 (List.mem_of_getElem? (i := 1) rfl) rfl, ⟨by decide +kernel, by decide +kernel⟩, by decide +kernel⟩
theorem mv_X11_tideIn : Cond.instanceMethod yX11_tideIn ∈ pj_T ∧ Cond.selects yX11_tideIn.cls yX11_tideIn yX11_tideIn ∈ pj_T := ⟨pj_tw6 (List.mem_of_getElem? (i := 29) rfl) rfl, pj_tw6 (List.mem_of_getElem? (i := 30) rfl) rfl⟩
theorem mf_X11_open : pj_MF yX11_open cX11_open 4 (some .int) 0 := ⟨pj_tw6 (List.mem_of_getElem? (i := 36) rfl) rfl, pj_tw1 (List.mem_of_getElem? (i := 1) rfl) rfl, ⟨by decide +kernel, by decide +kernel⟩, by decide +kernel⟩
theorem mv_X11_open : Cond.instanceMethod yX11_open ∈ pj_T ∧ Cond.selects yX11_open.cls yX11_open yX11_open ∈ pj_T := ⟨pj_tw6 (List.mem_of_getElem? (i := 34) rfl) rfl, pj_tw6 (List.mem_of_getElem? (i := 35) rfl) rfl⟩
theorem mf_X11_farthest : pj_MF yX11_farthest cX11_farthest 7 (some .int) 1 := ⟨pj_tw6 (List.mem_of_getElem? (i := 40) rfl) rfl, pj_tw1 (List.mem_of_getElem? (i := 1) rfl) rfl, ⟨by decide +kernel, by decide +kernel⟩, by decide +kernel⟩
theorem mv_X11_farthest : Cond.instanceMethod yX11_farthest ∈ pj_T ∧ Cond.selects yX11_farthest.cls yX11_farthest yX11_farthest ∈ pj_T := ⟨pj_tw6 (List.mem_of_getElem? (i := 38) rfl) rfl, pj_tw6 (List.mem_of_getElem? (i := 39) rfl) rfl⟩
theorem mf_X11_time : pj_MF yX11_time cX11_time 3 (some .int) 1 := ⟨pj_tw6 (List.mem_of_getElem? (i := 44) rfl) rfl, pj_tw1 (List.mem_of_getElem? (i := 1) rfl) rfl, ⟨by decide +kernel, by decide +kernel⟩, by decide +kernel⟩
theorem mv_X11_time : Cond.instanceMethod yX11_time ∈ pj_T ∧ Cond.selects yX11_time.cls yX11_time yX11_time ∈ pj_T := ⟨pj_tw6 (List.mem_of_getElem? (i := 42) rfl) rfl, pj_tw6 (List.mem_of_getElem? (i := 43) rfl) rfl⟩
theorem mf_X11_tally : pj_MF yX11_tally cX11_tally 4 (some .int) 2 := ⟨pj_tw6 (List.mem_of_getElem? (i := 48) rfl) rfl, pj_tw1 (List.mem_of_getElem? (i := 1) rfl) rfl, ⟨by decide +kernel, by decide +kernel⟩, by decide +kernel⟩
theorem mv_X11_tally : Cond.instanceMethod yX11_tally ∈ pj_T ∧ Cond.selects yX11_tally.cls yX11_tally yX11_tally ∈ pj_T := ⟨pj_tw6 (List.mem_of_getElem? (i := 46) rfl) rfl, pj_tw6 (List.mem_of_getElem? (i := 47) rfl) rfl⟩
theorem mf_X11_busiest : pj_MF yX11_busiest cX11_busiest 5 (some .int) 0 := ⟨pj_tw6 (List.mem_of_getElem? (i := 53) rfl) rfl, pj_tw1 (List.mem_of_getElem? (i := 1) rfl) rfl, ⟨by decide +kernel, by decide +kernel⟩, by decide +kernel⟩
theorem mv_X11_busiest : Cond.instanceMethod yX11_busiest ∈ pj_T ∧ Cond.selects yX11_busiest.cls yX11_busiest yX11_busiest ∈ pj_T := ⟨pj_tw6 (List.mem_of_getElem? (i := 51) rfl) rfl, pj_tw6 (List.mem_of_getElem? (i := 52) rfl) rfl⟩
theorem mf_X11_both : pj_MF yX11_both cX11_both 6 (some .int) 3 := ⟨pj_tw6 (List.mem_of_getElem? (i := 57) rfl) rfl, pj_tw1 (List.mem_of_getElem? (i := 1) rfl) rfl, ⟨by decide +kernel, by decide +kernel⟩, by decide +kernel⟩
theorem mv_X11_both : Cond.instanceMethod yX11_both ∈ pj_T ∧ Cond.selects yX11_both.cls yX11_both yX11_both ∈ pj_T := ⟨pj_tw6 (List.mem_of_getElem? (i := 55) rfl) rfl, pj_tw6 (List.mem_of_getElem? (i := 56) rfl) rfl⟩
theorem mf_X11_latest : pj_MF yX11_latest cX11_latest 3 (some .int) 0 := ⟨pj_tw6 (List.mem_of_getElem? (i := 61) rfl) rfl, pj_tw1 (List.mem_of_getElem? (i := 1) rfl) rfl, ⟨by decide +kernel, by decide +kernel⟩, by decide +kernel⟩
theorem mv_X11_latest : Cond.instanceMethod yX11_latest ∈ pj_T ∧ Cond.selects yX11_latest.cls yX11_latest yX11_latest ∈ pj_T := ⟨pj_tw6 (List.mem_of_getElem? (i := 59) rfl) rfl, pj_tw6 (List.mem_of_getElem? (i := 60) rfl) rfl⟩
theorem mf_X11_behind : pj_MF yX11_behind cX11_behind 3 (some .int) 1 := ⟨pj_tw6 (List.mem_of_getElem? (i := 65) rfl) rfl, pj_tw1 (List.mem_of_getElem? (i := 1) rfl) rfl, ⟨by decide +kernel, by decide +kernel⟩, by decide +kernel⟩
theorem mv_X11_behind : Cond.instanceMethod yX11_behind ∈ pj_T ∧ Cond.selects yX11_behind.cls yX11_behind yX11_behind ∈ pj_T := ⟨pj_tw6 (List.mem_of_getElem? (i := 63) rfl) rfl, pj_tw6 (List.mem_of_getElem? (i := 64) rfl) rfl⟩
theorem mf_X11_alone : pj_MF yX11_alone cX11_alone 3 (some .int) 0 := ⟨pj_tw6 (List.mem_of_getElem? (i := 69) rfl) rfl, pj_tw1 (List.mem_of_getElem? (i := 1) rfl) rfl, ⟨by decide +kernel, by decide +kernel⟩, by decide +kernel⟩
theorem mv_X11_alone : Cond.instanceMethod yX11_alone ∈ pj_T ∧ Cond.selects yX11_alone.cls yX11_alone yX11_alone ∈ pj_T := ⟨pj_tw6 (List.mem_of_getElem? (i := 67) rfl) rfl, pj_tw6 (List.mem_of_getElem? (i := 68) rfl) rfl⟩
theorem mf_X11_part : pj_MF yX11_part cX11_part 7 (some .int) 2 := ⟨pj_tw6 (List.mem_of_getElem? (i := 73) rfl) rfl, pj_tw1 (List.mem_of_getElem? (i := 1) rfl) rfl, ⟨by decide +kernel, by decide +kernel⟩, by decide +kernel⟩
theorem mv_X11_part : Cond.instanceMethod yX11_part ∈ pj_T ∧ Cond.selects yX11_part.cls yX11_part yX11_part ∈ pj_T := ⟨pj_tw6 (List.mem_of_getElem? (i := 71) rfl) rfl, pj_tw6 (List.mem_of_getElem? (i := 72) rfl) rfl⟩
theorem mf_X11_crowd : pj_MF yX11_crowd cX11_crowd 4 (some .int) 1 := ⟨pj_tw6 (List.mem_of_getElem? (i := 77) rfl) rfl, pj_tw1 (List.mem_of_getElem? (i := 1) rfl) rfl, ⟨by decide +kernel, by decide +kernel⟩, by decide +kernel⟩
theorem mv_X11_crowd : Cond.instanceMethod yX11_crowd ∈ pj_T ∧ Cond.selects yX11_crowd.cls yX11_crowd yX11_crowd ∈ pj_T := ⟨pj_tw6 (List.mem_of_getElem? (i := 75) rfl) rfl, pj_tw6 (List.mem_of_getElem? (i := 76) rfl) rfl⟩
theorem mf_X11_lies : pj_MF yX11_lies cX11_lies 5 (some .int) 2 := ⟨pj_tw6 (List.mem_of_getElem? (i := 85) rfl) rfl, pj_tw1 (List.mem_of_getElem? (i := 1) rfl) rfl, ⟨by decide +kernel, by decide +kernel⟩, by decide +kernel⟩
theorem mv_X11_lies : Cond.instanceMethod yX11_lies ∈ pj_T ∧ Cond.selects yX11_lies.cls yX11_lies yX11_lies ∈ pj_T := ⟨pj_tw6 (List.mem_of_getElem? (i := 83) rfl) rfl, pj_tw6 (List.mem_of_getElem? (i := 84) rfl) rfl⟩
theorem mf_X11_live : pj_MF yX11_live cX11_live 3 (some .int) 1 := ⟨pj_tw6 (List.mem_of_getElem? (i := 89) rfl) rfl, pj_tw1 (List.mem_of_getElem? (i := 1) rfl) rfl, ⟨by decide +kernel, by decide +kernel⟩, by decide +kernel⟩
theorem mv_X11_live : Cond.instanceMethod yX11_live ∈ pj_T ∧ Cond.selects yX11_live.cls yX11_live yX11_live ∈ pj_T := ⟨pj_tw6 (List.mem_of_getElem? (i := 87) rfl) rfl, pj_tw6 (List.mem_of_getElem? (i := 88) rfl) rfl⟩
theorem mf_X11_lived : pj_MF yX11_lived cX11_lived 2 (some .int) 1 := ⟨pj_tw6 (List.mem_of_getElem? (i := 155) rfl) rfl, pj_tw1 (List.mem_of_getElem? (i := 1) rfl) rfl, ⟨by decide +kernel, by decide +kernel⟩, by decide +kernel⟩
theorem mv_X11_lived : Cond.instanceMethod yX11_lived ∈ pj_T ∧ Cond.selects yX11_lived.cls yX11_lived yX11_lived ∈ pj_T := ⟨pj_tw6 (List.mem_of_getElem? (i := 153) rfl) rfl, pj_tw6 (List.mem_of_getElem? (i := 154) rfl) rfl⟩
theorem mf_X11_mean : pj_MF yX11_mean cX11_mean 7 (some .boolean) 3 := ⟨pj_tw6 (List.mem_of_getElem? (i := 159) rfl) rfl, pj_tw1 (List.mem_of_getElem? (i := 1) rfl) rfl, ⟨by decide +kernel, by decide +kernel⟩, by decide +kernel⟩
theorem mv_X11_mean : Cond.instanceMethod yX11_mean ∈ pj_T ∧ Cond.selects yX11_mean.cls yX11_mean yX11_mean ∈ pj_T := ⟨pj_tw6 (List.mem_of_getElem? (i := 157) rfl) rfl, pj_tw6 (List.mem_of_getElem? (i := 158) rfl) rfl⟩
theorem mf_X11_mark : pj_MF yX11_mark cX11_mark 1 (some .int) 0 := ⟨pj_tw6 (List.mem_of_getElem? (i := 180) rfl) rfl, pj_tw1 (List.mem_of_getElem? (i := 1) rfl) rfl, ⟨by decide +kernel, by decide +kernel⟩, by decide +kernel⟩
theorem mv_X11_mark : Cond.instanceMethod yX11_mark ∈ pj_T ∧ Cond.selects yX11_mark.cls yX11_mark yX11_mark ∈ pj_T := ⟨pj_tw6 (List.mem_of_getElem? (i := 178) rfl) rfl, pj_tw6 (List.mem_of_getElem? (i := 179) rfl) rfl⟩
theorem mf_X11_back : pj_MF yX11_back cX11_back 1 (some .int) 0 := ⟨pj_tw6 (List.mem_of_getElem? (i := 189) rfl) rfl, pj_tw1 (List.mem_of_getElem? (i := 1) rfl) rfl, ⟨by decide +kernel, by decide +kernel⟩, by decide +kernel⟩
theorem mv_X11_back : Cond.instanceMethod yX11_back ∈ pj_T ∧ Cond.selects yX11_back.cls yX11_back yX11_back ∈ pj_T := ⟨pj_tw6 (List.mem_of_getElem? (i := 187) rfl) rfl, pj_tw6 (List.mem_of_getElem? (i := 188) rfl) rfl⟩
theorem mf_X12_init : pj_MF yX12_init cX12_init 1 none 0 := ⟨pj_tw6 (List.mem_of_getElem? (i := 194) rfl) rfl, pj_tw1 (List.mem_of_getElem? (i := 16) rfl) rfl, ⟨by decide +kernel, by decide +kernel⟩, by decide +kernel⟩
theorem mi_X12_init : yX12_init.name = "<init>" ∧ Cond.instanceMethod yX12_init ∈ pj_T := ⟨rfl, pj_tw6 (List.mem_of_getElem? (i := 193) rfl) rfl⟩
theorem mf_X12_plain : pj_MF yX12_plain cX12_plain 3 none 1 := ⟨pj_tw6 (List.mem_of_getElem? (i := 199) rfl) rfl, pj_tw1 (List.mem_of_getElem? (i := 16) rfl) rfl, ⟨by decide +kernel, by decide +kernel⟩, by decide +kernel⟩
theorem mv_X12_plain : Cond.instanceMethod yX12_plain ∈ pj_T ∧ Cond.selects yX12_plain.cls yX12_plain yX12_plain ∈ pj_T := ⟨pj_tw6 (List.mem_of_getElem? (i := 198) rfl) rfl, pj_inT (List.mem_append_left _ (List.mem_of_getElem? (i := 58) rfl)) rfl⟩
theorem mf_X12_status : pj_MF yX12_status cX12_status 1 (some .int) 0 := ⟨pj_tw7 (List.mem_of_getElem? (i := 78) rfl) rfl, pj_tw1 (List.mem_of_getElem? (i := 16) rfl) rfl, ⟨by decide +kernel, by decide +kernel⟩, by decide +kernel⟩
theorem mv_X12_status : Cond.instanceMethod yX12_status ∈ pj_T ∧ Cond.selects yX12_status.cls yX12_status yX12_status ∈ pj_T := ⟨pj_tw7 (List.mem_of_getElem? (i := 76) rfl) rfl, pj_tw7 (List.mem_of_getElem? (i := 77) rfl) rfl⟩
theorem mf_X12_top : pj_MF yX12_top cX12_top 1 (some .long) 0 := ⟨pj_tw7 (List.mem_of_getElem? (i := 82) rfl) rfl, pj_tw1 (List.mem_of_getElem? (i := 16) rfl) rfl, ⟨by decide +kernel, by decide +kernel⟩, by decide +kernel⟩
theorem mv_X12_top : Cond.instanceMethod yX12_top ∈ pj_T ∧ Cond.selects yX12_top.cls yX12_top yX12_top ∈ pj_T := ⟨pj_tw7 (List.mem_of_getElem? (i := 80) rfl) rfl, pj_tw7 (List.mem_of_getElem? (i := 81) rfl) rfl⟩
theorem mf_X12_bottom : pj_MF yX12_bottom cX12_bottom 1 (some .long) 0 := ⟨pj_tw7 (List.mem_of_getElem? (i := 86) rfl) rfl, pj_tw1 (List.mem_of_getElem? (i := 16) rfl) rfl, ⟨by decide +kernel, by decide +kernel⟩, by decide +kernel⟩
theorem mv_X12_bottom : Cond.instanceMethod yX12_bottom ∈ pj_T ∧ Cond.selects yX12_bottom.cls yX12_bottom yX12_bottom ∈ pj_T := ⟨pj_tw7 (List.mem_of_getElem? (i := 84) rfl) rfl, pj_tw7 (List.mem_of_getElem? (i := 85) rfl) rfl⟩
theorem mf_X12_is : pj_MF yX12_is cX12_is 2 (some .boolean) 1 := ⟨pj_tw7 (List.mem_of_getElem? (i := 97) rfl) rfl, pj_tw1 (List.mem_of_getElem? (i := 16) rfl) rfl, ⟨by decide +kernel, by decide +kernel⟩, by decide +kernel⟩
theorem mv_X12_is : Cond.instanceMethod yX12_is ∈ pj_T ∧ Cond.selects yX12_is.cls yX12_is yX12_is ∈ pj_T := ⟨pj_tw7 (List.mem_of_getElem? (i := 96) rfl) rfl, pj_inT (List.mem_append_left _ (List.mem_of_getElem? (i := 59) rfl)) rfl⟩
theorem mf_X12_refuse : pj_MF yX12_refuse cX12_refuse 2 (some .int) 1 := ⟨pj_tw7 (List.mem_of_getElem? (i := 157) rfl) rfl, pj_tw1 (List.mem_of_getElem? (i := 16) rfl) rfl, ⟨by decide +kernel, by decide +kernel⟩, by decide +kernel⟩
theorem mv_X12_refuse : Cond.instanceMethod yX12_refuse ∈ pj_T ∧ Cond.selects yX12_refuse.cls yX12_refuse yX12_refuse ∈ pj_T := ⟨pj_tw7 (List.mem_of_getElem? (i := 156) rfl) rfl, pj_inT (List.mem_append_left _ (List.mem_of_getElem? (i := 65) rfl)) rfl⟩
theorem mf_X12_gives : pj_MF yX12_gives cX12_gives 2 (some .int) 1 := ⟨pj_tw8 (List.mem_of_getElem? (i := 10) rfl) rfl, pj_tw1 (List.mem_of_getElem? (i := 16) rfl) rfl, ⟨by decide +kernel, by decide +kernel⟩, by decide +kernel⟩
theorem mv_X12_gives : Cond.instanceMethod yX12_gives ∈ pj_T ∧ Cond.selects yX12_gives.cls yX12_gives yX12_gives ∈ pj_T := ⟨pj_tw8 (List.mem_of_getElem? (i := 9) rfl) rfl, pj_inT (List.mem_append_left _ (List.mem_of_getElem? (i := 86) rfl)) rfl⟩
theorem mf_X12_orNone : pj_MF yX12_orNone cX12_orNone 2 (some .int) 1 := ⟨pj_tw8 (List.mem_of_getElem? (i := 206) rfl) rfl, pj_tw1 (List.mem_of_getElem? (i := 16) rfl) rfl, ⟨by decide +kernel, by decide +kernel⟩, by decide +kernel⟩
theorem mv_X12_orNone : Cond.instanceMethod yX12_orNone ∈ pj_T ∧ Cond.selects yX12_orNone.cls yX12_orNone yX12_orNone ∈ pj_T := ⟨pj_tw8 (List.mem_of_getElem? (i := 205) rfl) rfl, pj_inT (List.mem_append_left _ (List.mem_of_getElem? (i := 117) rfl)) rfl⟩
theorem mf_X12_tellsBy : pj_MF yX12_tellsBy cX12_tellsBy 11 (some .boolean) 2 := ⟨pj_tw9 (List.mem_of_getElem? (i := 161) rfl) rfl, pj_tw1 (List.mem_of_getElem? (i := 16) rfl) rfl, ⟨by decide +kernel, by decide +kernel⟩, by decide +kernel⟩
theorem mv_X12_tellsBy : Cond.instanceMethod yX12_tellsBy ∈ pj_T ∧ Cond.selects yX12_tellsBy.cls yX12_tellsBy yX12_tellsBy ∈ pj_T := ⟨pj_tw9 (List.mem_of_getElem? (i := 160) rfl) rfl, pj_inT (List.mem_append_left _ (List.mem_of_getElem? (i := 131) rfl)) rfl⟩
theorem mf_X12_isTray : pj_MF yX12_isTray cX12_isTray 1 (some .boolean) 1 := ⟨pj_tw7 (List.mem_of_getElem? (i := 93) rfl) rfl, pj_tw1 (List.mem_of_getElem? (i := 16) rfl) rfl, ⟨by decide +kernel, by decide +kernel⟩, by decide +kernel⟩
theorem ms_X12_isTray : Cond.static yX12_isTray ∈ pj_T := pj_tw7 (List.mem_of_getElem? (i := 92) rfl) rfl
theorem mf_X12_cut : pj_MF yX12_cut cX12_cut 3 (some .long) 2 := ⟨pj_tw7 (List.mem_of_getElem? (i := 108) rfl) rfl, pj_tw1 (List.mem_of_getElem? (i := 16) rfl) rfl, ⟨by decide +kernel, by decide +kernel⟩, by decide +kernel⟩
theorem ms_X12_cut : Cond.static yX12_cut ∈ pj_T := pj_tw7 (List.mem_of_getElem? (i := 107) rfl) rfl
theorem mf_X12_tray : pj_MF yX12_tray cX12_tray 5 (some .boolean) 3 := ⟨pj_tw7 (List.mem_of_getElem? (i := 90) rfl) rfl, pj_tw1 (List.mem_of_getElem? (i := 16) rfl) rfl, ⟨by decide +kernel, by decide +kernel⟩, by decide +kernel⟩
theorem mv_X12_tray : Cond.instanceMethod yX12_tray ∈ pj_T ∧ Cond.selects yX12_tray.cls yX12_tray yX12_tray ∈ pj_T := ⟨pj_tw7 (List.mem_of_getElem? (i := 88) rfl) rfl, pj_tw7 (List.mem_of_getElem? (i := 89) rfl) rfl⟩
theorem mf_X12_wrongPlace : pj_MF yX12_wrongPlace cX12_wrongPlace 3 (some .int) 2 := ⟨pj_tw7 (List.mem_of_getElem? (i := 105) rfl) rfl, pj_tw1 (List.mem_of_getElem? (i := 16) rfl) rfl, ⟨by decide +kernel, by decide +kernel⟩, by decide +kernel⟩
theorem mv_X12_wrongPlace : Cond.instanceMethod yX12_wrongPlace ∈ pj_T ∧ Cond.selects yX12_wrongPlace.cls yX12_wrongPlace yX12_wrongPlace ∈ pj_T := ⟨pj_tw7 (List.mem_of_getElem? (i := 104) rfl) rfl, pj_inT (List.mem_append_left _ (List.mem_of_getElem? (i := 60) rfl)) rfl⟩
theorem mf_X12_write : pj_MF yX12_write cX12_write 6 (some .boolean) 3 := ⟨pj_tw7 (List.mem_of_getElem? (i := 101) rfl) rfl, pj_tw1 (List.mem_of_getElem? (i := 16) rfl) rfl, ⟨by decide +kernel, by decide +kernel⟩, by decide +kernel⟩
theorem mv_X12_write : Cond.instanceMethod yX12_write ∈ pj_T ∧ Cond.selects yX12_write.cls yX12_write yX12_write ∈ pj_T := ⟨pj_tw7 (List.mem_of_getElem? (i := 99) rfl) rfl, pj_tw7 (List.mem_of_getElem? (i := 100) rfl) rfl⟩
theorem mf_X12_read : pj_MF yX12_read cX12_read 3 (some .long) 2 := ⟨pj_tw7 (List.mem_of_getElem? (i := 112) rfl) rfl, pj_tw1 (List.mem_of_getElem? (i := 16) rfl) rfl, ⟨by decide +kernel, by decide +kernel⟩, by decide +kernel⟩
theorem mv_X12_read : Cond.instanceMethod yX12_read ∈ pj_T ∧ Cond.selects yX12_read.cls yX12_read yX12_read ∈ pj_T := ⟨pj_tw7 (List.mem_of_getElem? (i := 110) rfl) rfl, pj_tw7 (List.mem_of_getElem? (i := 111) rfl) rfl⟩
theorem mf_X12_pour : pj_MF yX12_pour cX12_pour 8 (some .boolean) 5 := ⟨pj_tw7 (List.mem_of_getElem? (i := 117) rfl) rfl, pj_tw1 (List.mem_of_getElem? (i := 16) rfl) rfl, ⟨by decide +kernel, by decide +kernel⟩, by decide +kernel⟩
theorem mv_X12_pour : Cond.instanceMethod yX12_pour ∈ pj_T ∧ Cond.selects yX12_pour.cls yX12_pour yX12_pour ∈ pj_T := ⟨pj_tw7 (List.mem_of_getElem? (i := 115) rfl) rfl, pj_tw7 (List.mem_of_getElem? (i := 116) rfl) rfl⟩
theorem mf_X12_isFrom : pj_MF yX12_isFrom cX12_isFrom 6 (some .boolean) 3 := ⟨pj_tw8 (List.mem_of_getElem? (i := 72) rfl) rfl, pj_tw1 (List.mem_of_getElem? (i := 16) rfl) rfl, ⟨by decide +kernel, by decide +kernel⟩, by decide +kernel⟩
theorem ms_X12_isFrom : Cond.static yX12_isFrom ∈ pj_T := pj_tw8 (List.mem_of_getElem? (i := 71) rfl) rfl
theorem mf_X12_feed : pj_MF yX12_feed cX12_feed 6 (some .int) 5 := ⟨pj_tw7 (List.mem_of_getElem? (i := 121) rfl) rfl, pj_tw1 (List.mem_of_getElem? (i := 16) rfl) rfl, ⟨by decide +kernel, by decide +kernel⟩, by decide +kernel⟩
theorem mv_X12_feed : Cond.instanceMethod yX12_feed ∈ pj_T ∧ Cond.selects yX12_feed.cls yX12_feed yX12_feed ∈ pj_T := ⟨pj_tw7 (List.mem_of_getElem? (i := 119) rfl) rfl, pj_tw7 (List.mem_of_getElem? (i := 120) rfl) rfl⟩
theorem mf_X12_four : pj_MF yX12_four cX12_four 3 none 1 := ⟨pj_tw7 (List.mem_of_getElem? (i := 125) rfl) rfl, pj_tw1 (List.mem_of_getElem? (i := 16) rfl) rfl, ⟨by decide +kernel, by decide +kernel⟩, by decide +kernel⟩
theorem mv_X12_four : Cond.instanceMethod yX12_four ∈ pj_T ∧ Cond.selects yX12_four.cls yX12_four yX12_four ∈ pj_T := ⟨pj_tw7 (List.mem_of_getElem? (i := 124) rfl) rfl, pj_inT (List.mem_append_left _ (List.mem_of_getElem? (i := 61) rfl)) rfl⟩
theorem mf_X12_byteAt : pj_MF yX12_byteAt cX12_byteAt 2 (some .int) 1 := ⟨pj_tw7 (List.mem_of_getElem? (i := 145) rfl) rfl, pj_tw1 (List.mem_of_getElem? (i := 16) rfl) rfl, ⟨by decide +kernel, by decide +kernel⟩, by decide +kernel⟩
theorem mv_X12_byteAt : Cond.instanceMethod yX12_byteAt ∈ pj_T ∧ Cond.selects yX12_byteAt.cls yX12_byteAt yX12_byteAt ∈ pj_T := ⟨pj_tw7 (List.mem_of_getElem? (i := 144) rfl) rfl, pj_inT (List.mem_append_left _ (List.mem_of_getElem? (i := 64) rfl)) rfl⟩
theorem mf_X12_isSmall : pj_MF yX12_isSmall cX12_isSmall 1 (some .boolean) 1 := ⟨pj_tw7 (List.mem_of_getElem? (i := 148) rfl) rfl, pj_tw1 (List.mem_of_getElem? (i := 16) rfl) rfl, ⟨by decide +kernel, by decide +kernel⟩, by decide +kernel⟩
theorem ms_X12_isSmall : Cond.static yX12_isSmall ∈ pj_T := pj_tw7 (List.mem_of_getElem? (i := 147) rfl) rfl
theorem mf_X12_isDigit : pj_MF yX12_isDigit cX12_isDigit 1 (some .boolean) 1 := ⟨pj_tw7 (List.mem_of_getElem? (i := 151) rfl) rfl, pj_tw1 (List.mem_of_getElem? (i := 16) rfl) rfl, ⟨by decide +kernel, by decide +kernel⟩, by decide +kernel⟩
theorem ms_X12_isDigit : Cond.static yX12_isDigit ∈ pj_T := pj_tw7 (List.mem_of_getElem? (i := 150) rfl) rfl
theorem mf_X12_ahead : pj_MF yX12_ahead cX12_ahead 2 none 0 := ⟨pj_tw7 (List.mem_of_getElem? (i := 141) rfl) rfl, pj_tw1 (List.mem_of_getElem? (i := 16) rfl) rfl, ⟨by decide +kernel, by decide +kernel⟩, by decide +kernel⟩
theorem mv_X12_ahead : Cond.instanceMethod yX12_ahead ∈ pj_T ∧ Cond.selects yX12_ahead.cls yX12_ahead yX12_ahead ∈ pj_T := ⟨pj_tw7 (List.mem_of_getElem? (i := 140) rfl) rfl, pj_inT (List.mem_append_left _ (List.mem_of_getElem? (i := 63) rfl)) rfl⟩
theorem mf_X12_isSign : pj_MF yX12_isSign cX12_isSign 2 (some .boolean) 1 := ⟨pj_tw7 (List.mem_of_getElem? (i := 188) rfl) rfl, pj_tw1 (List.mem_of_getElem? (i := 16) rfl) rfl, ⟨by decide +kernel, by decide +kernel⟩, by decide +kernel⟩
theorem mv_X12_isSign : Cond.instanceMethod yX12_isSign ∈ pj_T ∧ Cond.selects yX12_isSign.cls yX12_isSign yX12_isSign ∈ pj_T := ⟨pj_tw7 (List.mem_of_getElem? (i := 187) rfl) rfl, pj_inT (List.mem_append_left _ (List.mem_of_getElem? (i := 72) rfl)) rfl⟩
theorem mf_X12_inWords : pj_MF yX12_inWords cX12_inWords 7 (some .int) 1 := ⟨pj_tw7 (List.mem_of_getElem? (i := 170) rfl) rfl, pj_tw1 (List.mem_of_getElem? (i := 16) rfl) rfl, ⟨by decide +kernel, by decide +kernel⟩, by decide +kernel⟩
theorem mv_X12_inWords : Cond.instanceMethod yX12_inWords ∈ pj_T ∧ Cond.selects yX12_inWords.cls yX12_inWords yX12_inWords ∈ pj_T := ⟨pj_tw7 (List.mem_of_getElem? (i := 169) rfl) rfl, pj_inT (List.mem_append_left _ (List.mem_of_getElem? (i := 68) rfl)) rfl⟩
theorem mf_X12_fails : pj_MF yX12_fails cX12_fails 2 (some .boolean) 1 := ⟨pj_tw7 (List.mem_of_getElem? (i := 176) rfl) rfl, pj_tw1 (List.mem_of_getElem? (i := 16) rfl) rfl, ⟨by decide +kernel, by decide +kernel⟩, by decide +kernel⟩
theorem mv_X12_fails : Cond.instanceMethod yX12_fails ∈ pj_T ∧ Cond.selects yX12_fails.cls yX12_fails yX12_fails ∈ pj_T := ⟨pj_tw7 (List.mem_of_getElem? (i := 175) rfl) rfl, pj_inT (List.mem_append_left _ (List.mem_of_getElem? (i := 69) rfl)) rfl⟩
theorem mf_X12_begins : pj_MF yX12_begins cX12_begins 4 (some .boolean) 2 := ⟨pj_tw7 (List.mem_of_getElem? (i := 137) rfl) rfl, pj_tw1 (List.mem_of_getElem? (i := 16) rfl) rfl, ⟨by decide +kernel, by decide +kernel⟩, by decide +kernel⟩
theorem mv_X12_begins : Cond.instanceMethod yX12_begins ∈ pj_T ∧ Cond.selects yX12_begins.cls yX12_begins yX12_begins ∈ pj_T := ⟨pj_tw7 (List.mem_of_getElem? (i := 136) rfl) rfl, pj_inT (List.mem_append_left _ (List.mem_of_getElem? (i := 62) rfl)) rfl⟩
theorem mf_X12_wantSign : pj_MF yX12_wantSign cX12_wantSign 2 (some .boolean) 1 := ⟨pj_tw7 (List.mem_of_getElem? (i := 184) rfl) rfl, pj_tw1 (List.mem_of_getElem? (i := 16) rfl) rfl, ⟨by decide +kernel, by decide +kernel⟩, by decide +kernel⟩
theorem mv_X12_wantSign : Cond.instanceMethod yX12_wantSign ∈ pj_T ∧ Cond.selects yX12_wantSign.cls yX12_wantSign yX12_wantSign ∈ pj_T := ⟨pj_tw7 (List.mem_of_getElem? (i := 183) rfl) rfl, pj_inT (List.mem_append_left _ (List.mem_of_getElem? (i := 71) rfl)) rfl⟩
theorem mf_X12_wantWord : pj_MF yX12_wantWord cX12_wantWord 3 (some .boolean) 2 := ⟨pj_tw7 (List.mem_of_getElem? (i := 166) rfl) rfl, pj_tw1 (List.mem_of_getElem? (i := 16) rfl) rfl, ⟨by decide +kernel, by decide +kernel⟩, by decide +kernel⟩
theorem mv_X12_wantWord : Cond.instanceMethod yX12_wantWord ∈ pj_T ∧ Cond.selects yX12_wantWord.cls yX12_wantWord yX12_wantWord ∈ pj_T := ⟨pj_tw7 (List.mem_of_getElem? (i := 165) rfl) rfl, pj_inT (List.mem_append_left _ (List.mem_of_getElem? (i := 67) rfl)) rfl⟩
theorem mf_X12_number : pj_MF yX12_number cX12_number 4 (some .boolean) 3 := ⟨pj_tw7 (List.mem_of_getElem? (i := 180) rfl) rfl, pj_tw1 (List.mem_of_getElem? (i := 16) rfl) rfl, ⟨by decide +kernel, by decide +kernel⟩, by decide +kernel⟩
theorem mv_X12_number : Cond.instanceMethod yX12_number ∈ pj_T ∧ Cond.selects yX12_number.cls yX12_number yX12_number ∈ pj_T := ⟨pj_tw7 (List.mem_of_getElem? (i := 179) rfl) rfl, pj_inT (List.mem_append_left _ (List.mem_of_getElem? (i := 70) rfl)) rfl⟩
theorem mf_X12_isName : pj_MF yX12_isName cX12_isName 2 (some .boolean) 1 := ⟨pj_tw7 (List.mem_of_getElem? (i := 204) rfl) rfl, pj_tw1 (List.mem_of_getElem? (i := 16) rfl) rfl, ⟨by decide +kernel, by decide +kernel⟩, by decide +kernel⟩
theorem mv_X12_isName : Cond.instanceMethod yX12_isName ∈ pj_T ∧ Cond.selects yX12_isName.cls yX12_isName yX12_isName ∈ pj_T := ⟨pj_tw7 (List.mem_of_getElem? (i := 203) rfl) rfl, pj_inT (List.mem_append_left _ (List.mem_of_getElem? (i := 76) rfl)) rfl⟩
theorem mf_X12_nameHere : pj_MF yX12_nameHere cX12_nameHere 4 (some .long) 0 := ⟨pj_tw7 (List.mem_of_getElem? (i := 212) rfl) rfl, pj_tw1 (List.mem_of_getElem? (i := 16) rfl) rfl, ⟨by decide +kernel, by decide +kernel⟩, by decide +kernel⟩
theorem mv_X12_nameHere : Cond.instanceMethod yX12_nameHere ∈ pj_T ∧ Cond.selects yX12_nameHere.cls yX12_nameHere yX12_nameHere ∈ pj_T := ⟨pj_tw7 (List.mem_of_getElem? (i := 211) rfl) rfl, pj_inT (List.mem_append_left _ (List.mem_of_getElem? (i := 78) rfl)) rfl⟩
theorem mf_X12_findHere : pj_MF yX12_findHere cX12_findHere 4 (some .int) 2 := ⟨pj_tw7 (List.mem_of_getElem? (i := 208) rfl) rfl, pj_tw1 (List.mem_of_getElem? (i := 16) rfl) rfl, ⟨by decide +kernel, by decide +kernel⟩, by decide +kernel⟩
theorem mv_X12_findHere : Cond.instanceMethod yX12_findHere ∈ pj_T ∧ Cond.selects yX12_findHere.cls yX12_findHere yX12_findHere ∈ pj_T := ⟨pj_tw7 (List.mem_of_getElem? (i := 207) rfl) rfl, pj_inT (List.mem_append_left _ (List.mem_of_getElem? (i := 77) rfl)) rfl⟩
theorem mf_X12_fault : pj_MF yX12_fault cX12_fault 2 (some .int) 1 := ⟨pj_tw7 (List.mem_of_getElem? (i := 129) rfl) rfl, pj_tw1 (List.mem_of_getElem? (i := 16) rfl) rfl, ⟨by decide +kernel, by decide +kernel⟩, by decide +kernel⟩
theorem mv_X12_fault : Cond.instanceMethod yX12_fault ∈ pj_T ∧ Cond.selects yX12_fault.cls yX12_fault yX12_fault ∈ pj_T := ⟨pj_tw7 (List.mem_of_getElem? (i := 127) rfl) rfl, pj_tw7 (List.mem_of_getElem? (i := 128) rfl) rfl⟩
theorem mf_X12_taken : pj_MF yX12_taken cX12_taken 2 (some .int) 1 := ⟨pj_tw8 (List.mem_of_getElem? (i := 6) rfl) rfl, pj_tw1 (List.mem_of_getElem? (i := 16) rfl) rfl, ⟨by decide +kernel, by decide +kernel⟩, by decide +kernel⟩
theorem mv_X12_taken : Cond.instanceMethod yX12_taken ∈ pj_T ∧ Cond.selects yX12_taken.cls yX12_taken yX12_taken ∈ pj_T := ⟨pj_tw8 (List.mem_of_getElem? (i := 5) rfl) rfl, pj_inT (List.mem_append_left _ (List.mem_of_getElem? (i := 85) rfl)) rfl⟩
theorem mf_X12_findRow : pj_MF yX12_findRow cX12_findRow 2 (some .int) 2 := ⟨pj_tw7 (List.mem_of_getElem? (i := 223) rfl) rfl, pj_tw1 (List.mem_of_getElem? (i := 16) rfl) rfl, ⟨by decide +kernel, by decide +kernel⟩, by decide +kernel⟩
theorem ms_X12_findRow : Cond.static yX12_findRow ∈ pj_T := pj_tw7 (List.mem_of_getElem? (i := 222) rfl) rfl
theorem mf_X12_pebbleRow : pj_MF yX12_pebbleRow cX12_pebbleRow 3 (some .int) 3 := ⟨pj_tw7 (List.mem_of_getElem? (i := 238) rfl) rfl, pj_tw1 (List.mem_of_getElem? (i := 16) rfl) rfl, ⟨by decide +kernel, by decide +kernel⟩, by decide +kernel⟩
theorem ms_X12_pebbleRow : Cond.static yX12_pebbleRow ∈ pj_T := pj_tw7 (List.mem_of_getElem? (i := 237) rfl) rfl
theorem mf_X12_comes : pj_MF yX12_comes cX12_comes 6 none 4 := ⟨pj_tw7 (List.mem_of_getElem? (i := 235) rfl) rfl, pj_tw1 (List.mem_of_getElem? (i := 16) rfl) rfl, ⟨by decide +kernel, by decide +kernel⟩, by decide +kernel⟩
theorem mv_X12_comes : Cond.instanceMethod yX12_comes ∈ pj_T ∧ Cond.selects yX12_comes.cls yX12_comes yX12_comes ∈ pj_T := ⟨pj_tw7 (List.mem_of_getElem? (i := 234) rfl) rfl, pj_inT (List.mem_append_left _ (List.mem_of_getElem? (i := 83) rfl)) rfl⟩
theorem mf_X12_goes : pj_MF yX12_goes cX12_goes 5 none 2 := ⟨pj_tw8 (List.mem_of_getElem? (i := 138) rfl) rfl, pj_tw1 (List.mem_of_getElem? (i := 16) rfl) rfl, ⟨by decide +kernel, by decide +kernel⟩, by decide +kernel⟩
theorem mv_X12_goes : Cond.instanceMethod yX12_goes ∈ pj_T ∧ Cond.selects yX12_goes.cls yX12_goes yX12_goes ∈ pj_T := ⟨pj_tw8 (List.mem_of_getElem? (i := 137) rfl) rfl, pj_inT (List.mem_append_left _ (List.mem_of_getElem? (i := 107) rfl)) rfl⟩
theorem mf_X12_newOne : pj_MF yX12_newOne cX12_newOne 4 (some .boolean) 3 := ⟨pj_tw7 (List.mem_of_getElem? (i := 200) rfl) rfl, pj_tw1 (List.mem_of_getElem? (i := 16) rfl) rfl, ⟨by decide +kernel, by decide +kernel⟩, by decide +kernel⟩
theorem mv_X12_newOne : Cond.instanceMethod yX12_newOne ∈ pj_T ∧ Cond.selects yX12_newOne.cls yX12_newOne yX12_newOne ∈ pj_T := ⟨pj_tw7 (List.mem_of_getElem? (i := 199) rfl) rfl, pj_inT (List.mem_append_left _ (List.mem_of_getElem? (i := 75) rfl)) rfl⟩
theorem mf_X12_oldOne : pj_MF yX12_oldOne cX12_oldOne 4 (some .boolean) 3 := ⟨pj_tw7 (List.mem_of_getElem? (i := 231) rfl) rfl, pj_tw1 (List.mem_of_getElem? (i := 16) rfl) rfl, ⟨by decide +kernel, by decide +kernel⟩, by decide +kernel⟩
theorem mv_X12_oldOne : Cond.instanceMethod yX12_oldOne ∈ pj_T ∧ Cond.selects yX12_oldOne.cls yX12_oldOne yX12_oldOne ∈ pj_T := ⟨pj_tw7 (List.mem_of_getElem? (i := 230) rfl) rfl, pj_inT (List.mem_append_left _ (List.mem_of_getElem? (i := 82) rfl)) rfl⟩
theorem mf_X12_first : pj_MF yX12_first cX12_first 1 (some .boolean) 0 := ⟨pj_tw7 (List.mem_of_getElem? (i := 161) rfl) rfl, pj_tw1 (List.mem_of_getElem? (i := 16) rfl) rfl, ⟨by decide +kernel, by decide +kernel⟩, by decide +kernel⟩
theorem mv_X12_first : Cond.instanceMethod yX12_first ∈ pj_T ∧ Cond.selects yX12_first.cls yX12_first yX12_first ∈ pj_T := ⟨pj_tw7 (List.mem_of_getElem? (i := 160) rfl) rfl, pj_inT (List.mem_append_left _ (List.mem_of_getElem? (i := 66) rfl)) rfl⟩
theorem mf_X12_atCell : pj_MF yX12_atCell cX12_atCell 2 (some .boolean) 1 := ⟨pj_tw7 (List.mem_of_getElem? (i := 216) rfl) rfl, pj_tw1 (List.mem_of_getElem? (i := 16) rfl) rfl, ⟨by decide +kernel, by decide +kernel⟩, by decide +kernel⟩
theorem mv_X12_atCell : Cond.instanceMethod yX12_atCell ∈ pj_T ∧ Cond.selects yX12_atCell.cls yX12_atCell yX12_atCell ∈ pj_T := ⟨pj_tw7 (List.mem_of_getElem? (i := 215) rfl) rfl, pj_inT (List.mem_append_left _ (List.mem_of_getElem? (i := 79) rfl)) rfl⟩
theorem mf_X12_aFinder : pj_MF yX12_aFinder cX12_aFinder 2 (some .boolean) 0 := ⟨pj_tw7 (List.mem_of_getElem? (i := 196) rfl) rfl, pj_tw1 (List.mem_of_getElem? (i := 16) rfl) rfl, ⟨by decide +kernel, by decide +kernel⟩, by decide +kernel⟩
theorem mv_X12_aFinder : Cond.instanceMethod yX12_aFinder ∈ pj_T ∧ Cond.selects yX12_aFinder.cls yX12_aFinder yX12_aFinder ∈ pj_T := ⟨pj_tw7 (List.mem_of_getElem? (i := 195) rfl) rfl, pj_inT (List.mem_append_left _ (List.mem_of_getElem? (i := 74) rfl)) rfl⟩
theorem mf_X12_aFind : pj_MF yX12_aFind cX12_aFind 2 (some .boolean) 0 := ⟨pj_tw7 (List.mem_of_getElem? (i := 220) rfl) rfl, pj_tw1 (List.mem_of_getElem? (i := 16) rfl) rfl, ⟨by decide +kernel, by decide +kernel⟩, by decide +kernel⟩
theorem mv_X12_aFind : Cond.instanceMethod yX12_aFind ∈ pj_T ∧ Cond.selects yX12_aFind.cls yX12_aFind yX12_aFind ∈ pj_T := ⟨pj_tw7 (List.mem_of_getElem? (i := 219) rfl) rfl, pj_inT (List.mem_append_left _ (List.mem_of_getElem? (i := 80) rfl)) rfl⟩
theorem mf_X12_aPebble : pj_MF yX12_aPebble cX12_aPebble 1 (some .boolean) 0 := ⟨pj_tw7 (List.mem_of_getElem? (i := 227) rfl) rfl, pj_tw1 (List.mem_of_getElem? (i := 16) rfl) rfl, ⟨by decide +kernel, by decide +kernel⟩, by decide +kernel⟩
theorem mv_X12_aPebble : Cond.instanceMethod yX12_aPebble ∈ pj_T ∧ Cond.selects yX12_aPebble.cls yX12_aPebble yX12_aPebble ∈ pj_T := ⟨pj_tw7 (List.mem_of_getElem? (i := 226) rfl) rfl, pj_inT (List.mem_append_left _ (List.mem_of_getElem? (i := 81) rfl)) rfl⟩
theorem mf_X12_aDuel : pj_MF yX12_aDuel cX12_aDuel 2 (some .boolean) 0 := ⟨pj_tw8 (List.mem_of_getElem? (i := 2) rfl) rfl, pj_tw1 (List.mem_of_getElem? (i := 16) rfl) rfl, ⟨by decide +kernel, by decide +kernel⟩, by decide +kernel⟩
theorem mv_X12_aDuel : Cond.instanceMethod yX12_aDuel ∈ pj_T ∧ Cond.selects yX12_aDuel.cls yX12_aDuel yX12_aDuel ∈ pj_T := ⟨pj_tw8 (List.mem_of_getElem? (i := 1) rfl) rfl, pj_inT (List.mem_append_left _ (List.mem_of_getElem? (i := 84) rfl)) rfl⟩
theorem mf_X12_beachPart : pj_MF yX12_beachPart cX12_beachPart 2 (some .boolean) 0 := ⟨pj_tw7 (List.mem_of_getElem? (i := 192) rfl) rfl, pj_tw1 (List.mem_of_getElem? (i := 16) rfl) rfl, ⟨by decide +kernel, by decide +kernel⟩, by decide +kernel⟩
theorem mv_X12_beachPart : Cond.instanceMethod yX12_beachPart ∈ pj_T ∧ Cond.selects yX12_beachPart.cls yX12_beachPart yX12_beachPart ∈ pj_T := ⟨pj_tw7 (List.mem_of_getElem? (i := 191) rfl) rfl, pj_inT (List.mem_append_left _ (List.mem_of_getElem? (i := 73) rfl)) rfl⟩
theorem mf_X12_beach : pj_MF yX12_beach cX12_beach 4 (some .int) 1 := ⟨pj_tw7 (List.mem_of_getElem? (i := 133) rfl) rfl, pj_tw1 (List.mem_of_getElem? (i := 16) rfl) rfl, ⟨by decide +kernel, by decide +kernel⟩, by decide +kernel⟩
theorem mv_X12_beach : Cond.instanceMethod yX12_beach ∈ pj_T ∧ Cond.selects yX12_beach.cls yX12_beach yX12_beach ∈ pj_T := ⟨pj_tw7 (List.mem_of_getElem? (i := 131) rfl) rfl, pj_tw7 (List.mem_of_getElem? (i := 132) rfl) rfl⟩
theorem mf_X12_finderTo : pj_MF yX12_finderTo cX12_finderTo 2 (some .boolean) 1 := ⟨pj_tw8 (List.mem_of_getElem? (i := 26) rfl) rfl, pj_tw1 (List.mem_of_getElem? (i := 16) rfl) rfl, ⟨by decide +kernel, by decide +kernel⟩, by decide +kernel⟩
theorem mv_X12_finderTo : Cond.instanceMethod yX12_finderTo ∈ pj_T ∧ Cond.selects yX12_finderTo.cls yX12_finderTo yX12_finderTo ∈ pj_T := ⟨pj_tw8 (List.mem_of_getElem? (i := 25) rfl) rfl, pj_inT (List.mem_append_left _ (List.mem_of_getElem? (i := 89) rfl)) rfl⟩
theorem mf_X12_findTo : pj_MF yX12_findTo cX12_findTo 2 (some .boolean) 1 := ⟨pj_tw8 (List.mem_of_getElem? (i := 30) rfl) rfl, pj_tw1 (List.mem_of_getElem? (i := 16) rfl) rfl, ⟨by decide +kernel, by decide +kernel⟩, by decide +kernel⟩
theorem mv_X12_findTo : Cond.instanceMethod yX12_findTo ∈ pj_T ∧ Cond.selects yX12_findTo.cls yX12_findTo yX12_findTo ∈ pj_T := ⟨pj_tw8 (List.mem_of_getElem? (i := 29) rfl) rfl, pj_inT (List.mem_append_left _ (List.mem_of_getElem? (i := 90) rfl)) rfl⟩
theorem mf_X12_test : pj_MF yX12_test cX12_test 3 (some .boolean) 1 := ⟨pj_tw8 (List.mem_of_getElem? (i := 34) rfl) rfl, pj_tw1 (List.mem_of_getElem? (i := 16) rfl) rfl, ⟨by decide +kernel, by decide +kernel⟩, by decide +kernel⟩
theorem mv_X12_test : Cond.instanceMethod yX12_test ∈ pj_T ∧ Cond.selects yX12_test.cls yX12_test yX12_test ∈ pj_T := ⟨pj_tw8 (List.mem_of_getElem? (i := 33) rfl) rfl, pj_inT (List.mem_append_left _ (List.mem_of_getElem? (i := 91) rfl)) rfl⟩
theorem mf_X12_dayOrder : pj_MF yX12_dayOrder cX12_dayOrder 3 (some .boolean) 2 := ⟨pj_tw8 (List.mem_of_getElem? (i := 22) rfl) rfl, pj_tw1 (List.mem_of_getElem? (i := 16) rfl) rfl, ⟨by decide +kernel, by decide +kernel⟩, by decide +kernel⟩
theorem mv_X12_dayOrder : Cond.instanceMethod yX12_dayOrder ∈ pj_T ∧ Cond.selects yX12_dayOrder.cls yX12_dayOrder yX12_dayOrder ∈ pj_T := ⟨pj_tw8 (List.mem_of_getElem? (i := 21) rfl) rfl, pj_inT (List.mem_append_left _ (List.mem_of_getElem? (i := 88) rfl)) rfl⟩
theorem mf_X12_dayStep : pj_MF yX12_dayStep cX12_dayStep 6 (some .boolean) 0 := ⟨pj_tw8 (List.mem_of_getElem? (i := 18) rfl) rfl, pj_tw1 (List.mem_of_getElem? (i := 16) rfl) rfl, ⟨by decide +kernel, by decide +kernel⟩, by decide +kernel⟩
theorem mv_X12_dayStep : Cond.instanceMethod yX12_dayStep ∈ pj_T ∧ Cond.selects yX12_dayStep.cls yX12_dayStep yX12_dayStep ∈ pj_T := ⟨pj_tw8 (List.mem_of_getElem? (i := 17) rfl) rfl, pj_inT (List.mem_append_left _ (List.mem_of_getElem? (i := 87) rfl)) rfl⟩
theorem mf_X12_days : pj_MF yX12_days cX12_days 4 (some .int) 1 := ⟨pj_tw8 (List.mem_of_getElem? (i := 14) rfl) rfl, pj_tw1 (List.mem_of_getElem? (i := 16) rfl) rfl, ⟨by decide +kernel, by decide +kernel⟩, by decide +kernel⟩
theorem mv_X12_days : Cond.instanceMethod yX12_days ∈ pj_T ∧ Cond.selects yX12_days.cls yX12_days yX12_days ∈ pj_T := ⟨pj_tw8 (List.mem_of_getElem? (i := 12) rfl) rfl, pj_tw8 (List.mem_of_getElem? (i := 13) rfl) rfl⟩
theorem mf_X12_finderRow : pj_MF yX12_finderRow cX12_finderRow 1 (some .int) 1 := ⟨pj_tw8 (List.mem_of_getElem? (i := 49) rfl) rfl, pj_tw1 (List.mem_of_getElem? (i := 16) rfl) rfl, ⟨by decide +kernel, by decide +kernel⟩, by decide +kernel⟩
theorem ms_X12_finderRow : Cond.static yX12_finderRow ∈ pj_T := pj_tw8 (List.mem_of_getElem? (i := 48) rfl) rfl
theorem mf_X12_isFinder : pj_MF yX12_isFinder cX12_isFinder 2 (some .boolean) 1 := ⟨pj_tw8 (List.mem_of_getElem? (i := 46) rfl) rfl, pj_tw1 (List.mem_of_getElem? (i := 16) rfl) rfl, ⟨by decide +kernel, by decide +kernel⟩, by decide +kernel⟩
theorem mv_X12_isFinder : Cond.instanceMethod yX12_isFinder ∈ pj_T ∧ Cond.selects yX12_isFinder.cls yX12_isFinder yX12_isFinder ∈ pj_T := ⟨pj_tw8 (List.mem_of_getElem? (i := 45) rfl) rfl, pj_inT (List.mem_append_left _ (List.mem_of_getElem? (i := 92) rfl)) rfl⟩
theorem mf_X12_isFind : pj_MF yX12_isFind cX12_isFind 2 (some .boolean) 1 := ⟨pj_tw8 (List.mem_of_getElem? (i := 57) rfl) rfl, pj_tw1 (List.mem_of_getElem? (i := 16) rfl) rfl, ⟨by decide +kernel, by decide +kernel⟩, by decide +kernel⟩
theorem mv_X12_isFind : Cond.instanceMethod yX12_isFind ∈ pj_T ∧ Cond.selects yX12_isFind.cls yX12_isFind yX12_isFind ∈ pj_T := ⟨pj_tw8 (List.mem_of_getElem? (i := 56) rfl) rfl, pj_inT (List.mem_append_left _ (List.mem_of_getElem? (i := 93) rfl)) rfl⟩
theorem mf_X12_isThere : pj_MF yX12_isThere cX12_isThere 2 (some .boolean) 1 := ⟨pj_tw8 (List.mem_of_getElem? (i := 106) rfl) rfl, pj_tw1 (List.mem_of_getElem? (i := 16) rfl) rfl, ⟨by decide +kernel, by decide +kernel⟩, by decide +kernel⟩
theorem mv_X12_isThere : Cond.instanceMethod yX12_isThere ∈ pj_T ∧ Cond.selects yX12_isThere.cls yX12_isThere yX12_isThere ∈ pj_T := ⟨pj_tw8 (List.mem_of_getElem? (i := 105) rfl) rfl, pj_inT (List.mem_append_left _ (List.mem_of_getElem? (i := 100) rfl)) rfl⟩
theorem mf_X12_manyOn : pj_MF yX12_manyOn cX12_manyOn 2 (some .int) 1 := ⟨pj_tw8 (List.mem_of_getElem? (i := 65) rfl) rfl, pj_tw1 (List.mem_of_getElem? (i := 16) rfl) rfl, ⟨by decide +kernel, by decide +kernel⟩, by decide +kernel⟩
theorem mv_X12_manyOn : Cond.instanceMethod yX12_manyOn ∈ pj_T ∧ Cond.selects yX12_manyOn.cls yX12_manyOn yX12_manyOn ∈ pj_T := ⟨pj_tw8 (List.mem_of_getElem? (i := 64) rfl) rfl, pj_inT (List.mem_append_left _ (List.mem_of_getElem? (i := 94) rfl)) rfl⟩
theorem mf_X12_whoAt : pj_MF yX12_whoAt cX12_whoAt 3 (some .int) 2 := ⟨pj_tw8 (List.mem_of_getElem? (i := 126) rfl) rfl, pj_tw1 (List.mem_of_getElem? (i := 16) rfl) rfl, ⟨by decide +kernel, by decide +kernel⟩, by decide +kernel⟩
theorem mv_X12_whoAt : Cond.instanceMethod yX12_whoAt ∈ pj_T ∧ Cond.selects yX12_whoAt.cls yX12_whoAt yX12_whoAt ∈ pj_T := ⟨pj_tw8 (List.mem_of_getElem? (i := 125) rfl) rfl, pj_inT (List.mem_append_left _ (List.mem_of_getElem? (i := 104) rfl)) rfl⟩
theorem mf_X12_minuteAt : pj_MF yX12_minuteAt cX12_minuteAt 3 (some .int) 2 := ⟨pj_tw8 (List.mem_of_getElem? (i := 134) rfl) rfl, pj_tw1 (List.mem_of_getElem? (i := 16) rfl) rfl, ⟨by decide +kernel, by decide +kernel⟩, by decide +kernel⟩
theorem mv_X12_minuteAt : Cond.instanceMethod yX12_minuteAt ∈ pj_T ∧ Cond.selects yX12_minuteAt.cls yX12_minuteAt yX12_minuteAt ∈ pj_T := ⟨pj_tw8 (List.mem_of_getElem? (i := 133) rfl) rfl, pj_inT (List.mem_append_left _ (List.mem_of_getElem? (i := 106) rfl)) rfl⟩
theorem mf_X12_wrongFind : pj_MF yX12_wrongFind cX12_wrongFind 2 (some .int) 1 := ⟨pj_tw8 (List.mem_of_getElem? (i := 167) rfl) rfl, pj_tw1 (List.mem_of_getElem? (i := 16) rfl) rfl, ⟨by decide +kernel, by decide +kernel⟩, by decide +kernel⟩
theorem mv_X12_wrongFind : Cond.instanceMethod yX12_wrongFind ∈ pj_T ∧ Cond.selects yX12_wrongFind.cls yX12_wrongFind yX12_wrongFind ∈ pj_T := ⟨pj_tw8 (List.mem_of_getElem? (i := 166) rfl) rfl, pj_inT (List.mem_append_left _ (List.mem_of_getElem? (i := 111) rfl)) rfl⟩
theorem mf_X12_told : pj_MF yX12_told cX12_told 2 (some .int) 1 := ⟨pj_tw8 (List.mem_of_getElem? (i := 38) rfl) rfl, pj_tw1 (List.mem_of_getElem? (i := 16) rfl) rfl, ⟨by decide +kernel, by decide +kernel⟩, by decide +kernel⟩
theorem mv_X12_told : Cond.instanceMethod yX12_told ∈ pj_T ∧ Cond.selects yX12_told.cls yX12_told yX12_told ∈ pj_T := ⟨pj_tw8 (List.mem_of_getElem? (i := 36) rfl) rfl, pj_tw8 (List.mem_of_getElem? (i := 37) rfl) rfl⟩
theorem mf_X12_finder : pj_MF yX12_finder cX12_finder 3 (some .int) 2 := ⟨pj_tw8 (List.mem_of_getElem? (i := 42) rfl) rfl, pj_tw1 (List.mem_of_getElem? (i := 16) rfl) rfl, ⟨by decide +kernel, by decide +kernel⟩, by decide +kernel⟩
theorem mv_X12_finder : Cond.instanceMethod yX12_finder ∈ pj_T ∧ Cond.selects yX12_finder.cls yX12_finder yX12_finder ∈ pj_T := ⟨pj_tw8 (List.mem_of_getElem? (i := 40) rfl) rfl, pj_tw8 (List.mem_of_getElem? (i := 41) rfl) rfl⟩
theorem mf_X12_find : pj_MF yX12_find cX12_find 3 (some .int) 2 := ⟨pj_tw8 (List.mem_of_getElem? (i := 53) rfl) rfl, pj_tw1 (List.mem_of_getElem? (i := 16) rfl) rfl, ⟨by decide +kernel, by decide +kernel⟩, by decide +kernel⟩
theorem mv_X12_find : Cond.instanceMethod yX12_find ∈ pj_T ∧ Cond.selects yX12_find.cls yX12_find yX12_find ∈ pj_T := ⟨pj_tw8 (List.mem_of_getElem? (i := 51) rfl) rfl, pj_tw8 (List.mem_of_getElem? (i := 52) rfl) rfl⟩
theorem mf_X12_pebble : pj_MF yX12_pebble cX12_pebble 4 (some .int) 3 := ⟨pj_tw8 (List.mem_of_getElem? (i := 61) rfl) rfl, pj_tw1 (List.mem_of_getElem? (i := 16) rfl) rfl, ⟨by decide +kernel, by decide +kernel⟩, by decide +kernel⟩
theorem mv_X12_pebble : Cond.instanceMethod yX12_pebble ∈ pj_T ∧ Cond.selects yX12_pebble.cls yX12_pebble yX12_pebble ∈ pj_T := ⟨pj_tw8 (List.mem_of_getElem? (i := 59) rfl) rfl, pj_tw8 (List.mem_of_getElem? (i := 60) rfl) rfl⟩
theorem mf_X12_stepsTo : pj_MF yX12_stepsTo cX12_stepsTo 3 (some .int) 2 := ⟨pj_tw8 (List.mem_of_getElem? (i := 80) rfl) rfl, pj_tw1 (List.mem_of_getElem? (i := 16) rfl) rfl, ⟨by decide +kernel, by decide +kernel⟩, by decide +kernel⟩
theorem mv_X12_stepsTo : Cond.instanceMethod yX12_stepsTo ∈ pj_T ∧ Cond.selects yX12_stepsTo.cls yX12_stepsTo yX12_stepsTo ∈ pj_T := ⟨pj_tw8 (List.mem_of_getElem? (i := 79) rfl) rfl, pj_inT (List.mem_append_left _ (List.mem_of_getElem? (i := 96) rfl)) rfl⟩
theorem mf_X12_mayTo : pj_MF yX12_mayTo cX12_mayTo 3 (some .boolean) 2 := ⟨pj_tw8 (List.mem_of_getElem? (i := 85) rfl) rfl, pj_tw1 (List.mem_of_getElem? (i := 16) rfl) rfl, ⟨by decide +kernel, by decide +kernel⟩, by decide +kernel⟩
theorem mv_X12_mayTo : Cond.instanceMethod yX12_mayTo ∈ pj_T ∧ Cond.selects yX12_mayTo.cls yX12_mayTo yX12_mayTo ∈ pj_T := ⟨pj_tw8 (List.mem_of_getElem? (i := 84) rfl) rfl, pj_inT (List.mem_append_left _ (List.mem_of_getElem? (i := 97) rfl)) rfl⟩
theorem mf_X12_went : pj_MF yX12_went cX12_went 3 (some .boolean) 2 := ⟨pj_tw8 (List.mem_of_getElem? (i := 76) rfl) rfl, pj_tw1 (List.mem_of_getElem? (i := 16) rfl) rfl, ⟨by decide +kernel, by decide +kernel⟩, by decide +kernel⟩
theorem mv_X12_went : Cond.instanceMethod yX12_went ∈ pj_T ∧ Cond.selects yX12_went.cls yX12_went yX12_went ∈ pj_T := ⟨pj_tw8 (List.mem_of_getElem? (i := 75) rfl) rfl, pj_inT (List.mem_append_left _ (List.mem_of_getElem? (i := 95) rfl)) rfl⟩
theorem mf_X12_go : pj_MF yX12_go cX12_go 3 (some .int) 2 := ⟨pj_tw8 (List.mem_of_getElem? (i := 69) rfl) rfl, pj_tw1 (List.mem_of_getElem? (i := 16) rfl) rfl, ⟨by decide +kernel, by decide +kernel⟩, by decide +kernel⟩
theorem mv_X12_go : Cond.instanceMethod yX12_go ∈ pj_T ∧ Cond.selects yX12_go.cls yX12_go yX12_go ∈ pj_T := ⟨pj_tw8 (List.mem_of_getElem? (i := 67) rfl) rfl, pj_tw8 (List.mem_of_getElem? (i := 68) rfl) rfl⟩
theorem mf_X12_waited : pj_MF yX12_waited cX12_waited 3 (some .boolean) 2 := ⟨pj_tw8 (List.mem_of_getElem? (i := 94) rfl) rfl, pj_tw1 (List.mem_of_getElem? (i := 16) rfl) rfl, ⟨by decide +kernel, by decide +kernel⟩, by decide +kernel⟩
theorem mv_X12_waited : Cond.instanceMethod yX12_waited ∈ pj_T ∧ Cond.selects yX12_waited.cls yX12_waited yX12_waited ∈ pj_T := ⟨pj_tw8 (List.mem_of_getElem? (i := 93) rfl) rfl, pj_inT (List.mem_append_left _ (List.mem_of_getElem? (i := 98) rfl)) rfl⟩
theorem mf_X12_pass : pj_MF yX12_pass cX12_pass 3 (some .int) 2 := ⟨pj_tw8 (List.mem_of_getElem? (i := 89) rfl) rfl, pj_tw1 (List.mem_of_getElem? (i := 16) rfl) rfl, ⟨by decide +kernel, by decide +kernel⟩, by decide +kernel⟩
theorem mv_X12_pass : Cond.instanceMethod yX12_pass ∈ pj_T ∧ Cond.selects yX12_pass.cls yX12_pass yX12_pass ∈ pj_T := ⟨pj_tw8 (List.mem_of_getElem? (i := 87) rfl) rfl, pj_tw8 (List.mem_of_getElem? (i := 88) rfl) rfl⟩
theorem mf_X12_wrongSet : pj_MF yX12_wrongSet cX12_wrongSet 3 (some .int) 2 := ⟨pj_tw8 (List.mem_of_getElem? (i := 102) rfl) rfl, pj_tw1 (List.mem_of_getElem? (i := 16) rfl) rfl, ⟨by decide +kernel, by decide +kernel⟩, by decide +kernel⟩
theorem mv_X12_wrongSet : Cond.instanceMethod yX12_wrongSet ∈ pj_T ∧ Cond.selects yX12_wrongSet.cls yX12_wrongSet yX12_wrongSet ∈ pj_T := ⟨pj_tw8 (List.mem_of_getElem? (i := 101) rfl) rfl, pj_inT (List.mem_append_left _ (List.mem_of_getElem? (i := 99) rfl)) rfl⟩
theorem mf_X12_sets : pj_MF yX12_sets cX12_sets 3 none 2 := ⟨pj_tw8 (List.mem_of_getElem? (i := 110) rfl) rfl, pj_tw1 (List.mem_of_getElem? (i := 16) rfl) rfl, ⟨by decide +kernel, by decide +kernel⟩, by decide +kernel⟩
theorem mv_X12_sets : Cond.instanceMethod yX12_sets ∈ pj_T ∧ Cond.selects yX12_sets.cls yX12_sets yX12_sets ∈ pj_T := ⟨pj_tw8 (List.mem_of_getElem? (i := 109) rfl) rfl, pj_inT (List.mem_append_left _ (List.mem_of_getElem? (i := 101) rfl)) rfl⟩
theorem mf_X12_set : pj_MF yX12_set cX12_set 4 (some .int) 2 := ⟨pj_tw8 (List.mem_of_getElem? (i := 98) rfl) rfl, pj_tw1 (List.mem_of_getElem? (i := 16) rfl) rfl, ⟨by decide +kernel, by decide +kernel⟩, by decide +kernel⟩
theorem mv_X12_set : Cond.instanceMethod yX12_set ∈ pj_T ∧ Cond.selects yX12_set.cls yX12_set yX12_set ∈ pj_T := ⟨pj_tw8 (List.mem_of_getElem? (i := 96) rfl) rfl, pj_tw8 (List.mem_of_getElem? (i := 97) rfl) rfl⟩
theorem mf_X12_ownOn : pj_MF yX12_ownOn cX12_ownOn 4 (some .int) 2 := ⟨pj_tw8 (List.mem_of_getElem? (i := 122) rfl) rfl, pj_tw1 (List.mem_of_getElem? (i := 16) rfl) rfl, ⟨by decide +kernel, by decide +kernel⟩, by decide +kernel⟩
theorem mv_X12_ownOn : Cond.instanceMethod yX12_ownOn ∈ pj_T ∧ Cond.selects yX12_ownOn.cls yX12_ownOn yX12_ownOn ∈ pj_T := ⟨pj_tw8 (List.mem_of_getElem? (i := 121) rfl) rfl, pj_inT (List.mem_append_left _ (List.mem_of_getElem? (i := 103) rfl)) rfl⟩
theorem mf_X12_wrongLift : pj_MF yX12_wrongLift cX12_wrongLift 3 (some .int) 2 := ⟨pj_tw8 (List.mem_of_getElem? (i := 118) rfl) rfl, pj_tw1 (List.mem_of_getElem? (i := 16) rfl) rfl, ⟨by decide +kernel, by decide +kernel⟩, by decide +kernel⟩
theorem mv_X12_wrongLift : Cond.instanceMethod yX12_wrongLift ∈ pj_T ∧ Cond.selects yX12_wrongLift.cls yX12_wrongLift yX12_wrongLift ∈ pj_T := ⟨pj_tw8 (List.mem_of_getElem? (i := 117) rfl) rfl, pj_inT (List.mem_append_left _ (List.mem_of_getElem? (i := 102) rfl)) rfl⟩
theorem mf_X12_lifts : pj_MF yX12_lifts cX12_lifts 5 (some .int) 2 := ⟨pj_tw8 (List.mem_of_getElem? (i := 130) rfl) rfl, pj_tw1 (List.mem_of_getElem? (i := 16) rfl) rfl, ⟨by decide +kernel, by decide +kernel⟩, by decide +kernel⟩
theorem mv_X12_lifts : Cond.instanceMethod yX12_lifts ∈ pj_T ∧ Cond.selects yX12_lifts.cls yX12_lifts yX12_lifts ∈ pj_T := ⟨pj_tw8 (List.mem_of_getElem? (i := 129) rfl) rfl, pj_inT (List.mem_append_left _ (List.mem_of_getElem? (i := 105) rfl)) rfl⟩
theorem mf_X12_lift : pj_MF yX12_lift cX12_lift 4 (some .int) 2 := ⟨pj_tw8 (List.mem_of_getElem? (i := 114) rfl) rfl, pj_tw1 (List.mem_of_getElem? (i := 16) rfl) rfl, ⟨by decide +kernel, by decide +kernel⟩, by decide +kernel⟩
theorem mv_X12_lift : Cond.instanceMethod yX12_lift ∈ pj_T ∧ Cond.selects yX12_lift.cls yX12_lift yX12_lift ∈ pj_T := ⟨pj_tw8 (List.mem_of_getElem? (i := 112) rfl) rfl, pj_tw8 (List.mem_of_getElem? (i := 113) rfl) rfl⟩
theorem mf_X12_wrongGull : pj_MF yX12_wrongGull cX12_wrongGull 3 (some .int) 2 := ⟨pj_tw8 (List.mem_of_getElem? (i := 146) rfl) rfl, pj_tw1 (List.mem_of_getElem? (i := 16) rfl) rfl, ⟨by decide +kernel, by decide +kernel⟩, by decide +kernel⟩
theorem mv_X12_wrongGull : Cond.instanceMethod yX12_wrongGull ∈ pj_T ∧ Cond.selects yX12_wrongGull.cls yX12_wrongGull yX12_wrongGull ∈ pj_T := ⟨pj_tw8 (List.mem_of_getElem? (i := 145) rfl) rfl, pj_inT (List.mem_append_left _ (List.mem_of_getElem? (i := 108) rfl)) rfl⟩
theorem mf_X12_carries : pj_MF yX12_carries cX12_carries 6 (some .int) 2 := ⟨pj_tw8 (List.mem_of_getElem? (i := 150) rfl) rfl, pj_tw1 (List.mem_of_getElem? (i := 16) rfl) rfl, ⟨by decide +kernel, by decide +kernel⟩, by decide +kernel⟩
theorem mv_X12_carries : Cond.instanceMethod yX12_carries ∈ pj_T ∧ Cond.selects yX12_carries.cls yX12_carries yX12_carries ∈ pj_T := ⟨pj_tw8 (List.mem_of_getElem? (i := 149) rfl) rfl, pj_inT (List.mem_append_left _ (List.mem_of_getElem? (i := 109) rfl)) rfl⟩
theorem mf_X12_gull : pj_MF yX12_gull cX12_gull 4 (some .int) 2 := ⟨pj_tw8 (List.mem_of_getElem? (i := 142) rfl) rfl, pj_tw1 (List.mem_of_getElem? (i := 16) rfl) rfl, ⟨by decide +kernel, by decide +kernel⟩, by decide +kernel⟩
theorem mv_X12_gull : Cond.instanceMethod yX12_gull ∈ pj_T ∧ Cond.selects yX12_gull.cls yX12_gull yX12_gull ∈ pj_T := ⟨pj_tw8 (List.mem_of_getElem? (i := 140) rfl) rfl, pj_tw8 (List.mem_of_getElem? (i := 141) rfl) rfl⟩
theorem mf_X12_washes : pj_MF yX12_washes cX12_washes 4 (some .int) 1 := ⟨pj_tw8 (List.mem_of_getElem? (i := 159) rfl) rfl, pj_tw1 (List.mem_of_getElem? (i := 16) rfl) rfl, ⟨by decide +kernel, by decide +kernel⟩, by decide +kernel⟩
theorem mv_X12_washes : Cond.instanceMethod yX12_washes ∈ pj_T ∧ Cond.selects yX12_washes.cls yX12_washes yX12_washes ∈ pj_T := ⟨pj_tw8 (List.mem_of_getElem? (i := 158) rfl) rfl, pj_inT (List.mem_append_left _ (List.mem_of_getElem? (i := 110) rfl)) rfl⟩
theorem mf_X12_wave : pj_MF yX12_wave cX12_wave 2 (some .int) 1 := ⟨pj_tw8 (List.mem_of_getElem? (i := 154) rfl) rfl, pj_tw1 (List.mem_of_getElem? (i := 16) rfl) rfl, ⟨by decide +kernel, by decide +kernel⟩, by decide +kernel⟩
theorem mv_X12_wave : Cond.instanceMethod yX12_wave ∈ pj_T ∧ Cond.selects yX12_wave.cls yX12_wave yX12_wave ∈ pj_T := ⟨pj_tw8 (List.mem_of_getElem? (i := 152) rfl) rfl, pj_tw8 (List.mem_of_getElem? (i := 153) rfl) rfl⟩
theorem mf_X12_lastOn : pj_MF yX12_lastOn cX12_lastOn 4 (some .int) 1 := ⟨pj_tw8 (List.mem_of_getElem? (i := 171) rfl) rfl, pj_tw1 (List.mem_of_getElem? (i := 16) rfl) rfl, ⟨by decide +kernel, by decide +kernel⟩, by decide +kernel⟩
theorem mv_X12_lastOn : Cond.instanceMethod yX12_lastOn ∈ pj_T ∧ Cond.selects yX12_lastOn.cls yX12_lastOn yX12_lastOn ∈ pj_T := ⟨pj_tw8 (List.mem_of_getElem? (i := 170) rfl) rfl, pj_inT (List.mem_append_left _ (List.mem_of_getElem? (i := 112) rfl)) rfl⟩
theorem mf_X12_bits : pj_MF yX12_bits cX12_bits 3 (some .int) 1 := ⟨pj_tw8 (List.mem_of_getElem? (i := 182) rfl) rfl, pj_tw1 (List.mem_of_getElem? (i := 16) rfl) rfl, ⟨by decide +kernel, by decide +kernel⟩, by decide +kernel⟩
theorem ms_X12_bits : Cond.static yX12_bits ∈ pj_T := pj_tw8 (List.mem_of_getElem? (i := 181) rfl) rfl
theorem mf_X12_ownersOf : pj_MF yX12_ownersOf cX12_ownersOf 5 (some .int) 1 := ⟨pj_tw8 (List.mem_of_getElem? (i := 179) rfl) rfl, pj_tw1 (List.mem_of_getElem? (i := 16) rfl) rfl, ⟨by decide +kernel, by decide +kernel⟩, by decide +kernel⟩
theorem mv_X12_ownersOf : Cond.instanceMethod yX12_ownersOf ∈ pj_T ∧ Cond.selects yX12_ownersOf.cls yX12_ownersOf yX12_ownersOf ∈ pj_T := ⟨pj_tw8 (List.mem_of_getElem? (i := 178) rfl) rfl, pj_inT (List.mem_append_left _ (List.mem_of_getElem? (i := 113) rfl)) rfl⟩
theorem mf_X12_shareOf : pj_MF yX12_shareOf cX12_shareOf 4 (some .int) 2 := ⟨pj_tw8 (List.mem_of_getElem? (i := 194) rfl) rfl, pj_tw1 (List.mem_of_getElem? (i := 16) rfl) rfl, ⟨by decide +kernel, by decide +kernel⟩, by decide +kernel⟩
theorem mv_X12_shareOf : Cond.instanceMethod yX12_shareOf ∈ pj_T ∧ Cond.selects yX12_shareOf.cls yX12_shareOf yX12_shareOf ∈ pj_T := ⟨pj_tw8 (List.mem_of_getElem? (i := 193) rfl) rfl, pj_inT (List.mem_append_left _ (List.mem_of_getElem? (i := 115) rfl)) rfl⟩
theorem mf_X12_leadOf : pj_MF yX12_leadOf cX12_leadOf 4 (some .int) 1 := ⟨pj_tw8 (List.mem_of_getElem? (i := 190) rfl) rfl, pj_tw1 (List.mem_of_getElem? (i := 16) rfl) rfl, ⟨by decide +kernel, by decide +kernel⟩, by decide +kernel⟩
theorem mv_X12_leadOf : Cond.instanceMethod yX12_leadOf ∈ pj_T ∧ Cond.selects yX12_leadOf.cls yX12_leadOf yX12_leadOf ∈ pj_T := ⟨pj_tw8 (List.mem_of_getElem? (i := 189) rfl) rfl, pj_inT (List.mem_append_left _ (List.mem_of_getElem? (i := 114) rfl)) rfl⟩
theorem mf_X12_last : pj_MF yX12_last cX12_last 3 (some .int) 1 := ⟨pj_tw8 (List.mem_of_getElem? (i := 163) rfl) rfl, pj_tw1 (List.mem_of_getElem? (i := 16) rfl) rfl, ⟨by decide +kernel, by decide +kernel⟩, by decide +kernel⟩
theorem mv_X12_last : Cond.instanceMethod yX12_last ∈ pj_T ∧ Cond.selects yX12_last.cls yX12_last yX12_last ∈ pj_T := ⟨pj_tw8 (List.mem_of_getElem? (i := 161) rfl) rfl, pj_tw8 (List.mem_of_getElem? (i := 162) rfl) rfl⟩
theorem mf_X12_whose : pj_MF yX12_whose cX12_whose 3 (some .int) 1 := ⟨pj_tw8 (List.mem_of_getElem? (i := 175) rfl) rfl, pj_tw1 (List.mem_of_getElem? (i := 16) rfl) rfl, ⟨by decide +kernel, by decide +kernel⟩, by decide +kernel⟩
theorem mv_X12_whose : Cond.instanceMethod yX12_whose ∈ pj_T ∧ Cond.selects yX12_whose.cls yX12_whose yX12_whose ∈ pj_T := ⟨pj_tw8 (List.mem_of_getElem? (i := 173) rfl) rfl, pj_tw8 (List.mem_of_getElem? (i := 174) rfl) rfl⟩
theorem mf_X12_leads : pj_MF yX12_leads cX12_leads 2 (some .int) 1 := ⟨pj_tw8 (List.mem_of_getElem? (i := 186) rfl) rfl, pj_tw1 (List.mem_of_getElem? (i := 16) rfl) rfl, ⟨by decide +kernel, by decide +kernel⟩, by decide +kernel⟩
theorem mv_X12_leads : Cond.instanceMethod yX12_leads ∈ pj_T ∧ Cond.selects yX12_leads.cls yX12_leads yX12_leads ∈ pj_T := ⟨pj_tw8 (List.mem_of_getElem? (i := 184) rfl) rfl, pj_tw8 (List.mem_of_getElem? (i := 185) rfl) rfl⟩
theorem mf_X12_atRank : pj_MF yX12_atRank cX12_atRank 5 (some .int) 1 := ⟨pj_tw8 (List.mem_of_getElem? (i := 202) rfl) rfl, pj_tw1 (List.mem_of_getElem? (i := 16) rfl) rfl, ⟨by decide +kernel, by decide +kernel⟩, by decide +kernel⟩
theorem mv_X12_atRank : Cond.instanceMethod yX12_atRank ∈ pj_T ∧ Cond.selects yX12_atRank.cls yX12_atRank yX12_atRank ∈ pj_T := ⟨pj_tw8 (List.mem_of_getElem? (i := 201) rfl) rfl, pj_inT (List.mem_append_left _ (List.mem_of_getElem? (i := 116) rfl)) rfl⟩
theorem mf_X12_leader : pj_MF yX12_leader cX12_leader 1 (some .int) 0 := ⟨pj_tw8 (List.mem_of_getElem? (i := 198) rfl) rfl, pj_tw1 (List.mem_of_getElem? (i := 16) rfl) rfl, ⟨by decide +kernel, by decide +kernel⟩, by decide +kernel⟩
theorem mv_X12_leader : Cond.instanceMethod yX12_leader ∈ pj_T ∧ Cond.selects yX12_leader.cls yX12_leader yX12_leader ∈ pj_T := ⟨pj_tw8 (List.mem_of_getElem? (i := 196) rfl) rfl, pj_tw8 (List.mem_of_getElem? (i := 197) rfl) rfl⟩
theorem mf_X12_ranked : pj_MF yX12_ranked cX12_ranked 2 (some .int) 1 := ⟨pj_tw8 (List.mem_of_getElem? (i := 210) rfl) rfl, pj_tw1 (List.mem_of_getElem? (i := 16) rfl) rfl, ⟨by decide +kernel, by decide +kernel⟩, by decide +kernel⟩
theorem mv_X12_ranked : Cond.instanceMethod yX12_ranked ∈ pj_T ∧ Cond.selects yX12_ranked.cls yX12_ranked yX12_ranked ∈ pj_T := ⟨pj_tw8 (List.mem_of_getElem? (i := 208) rfl) rfl, pj_tw8 (List.mem_of_getElem? (i := 209) rfl) rfl⟩
theorem mf_X12_duels : pj_MF yX12_duels cX12_duels 3 (some .int) 0 := ⟨pj_tw8 (List.mem_of_getElem? (i := 214) rfl) rfl, pj_tw1 (List.mem_of_getElem? (i := 16) rfl) rfl, ⟨by decide +kernel, by decide +kernel⟩, by decide +kernel⟩
theorem mv_X12_duels : Cond.instanceMethod yX12_duels ∈ pj_T ∧ Cond.selects yX12_duels.cls yX12_duels yX12_duels ∈ pj_T := ⟨pj_tw8 (List.mem_of_getElem? (i := 212) rfl) rfl, pj_tw8 (List.mem_of_getElem? (i := 213) rfl) rfl⟩
theorem mf_X12_needs : pj_MF yX12_needs cX12_needs 4 (some .int) 1 := ⟨pj_tw8 (List.mem_of_getElem? (i := 218) rfl) rfl, pj_tw1 (List.mem_of_getElem? (i := 16) rfl) rfl, ⟨by decide +kernel, by decide +kernel⟩, by decide +kernel⟩
theorem mv_X12_needs : Cond.instanceMethod yX12_needs ∈ pj_T ∧ Cond.selects yX12_needs.cls yX12_needs yX12_needs ∈ pj_T := ⟨pj_tw8 (List.mem_of_getElem? (i := 216) rfl) rfl, pj_tw8 (List.mem_of_getElem? (i := 217) rfl) rfl⟩
theorem mf_X12_ownMany : pj_MF yX12_ownMany cX12_ownMany 5 (some .int) 2 := ⟨pj_tw8 (List.mem_of_getElem? (i := 230) rfl) rfl, pj_tw1 (List.mem_of_getElem? (i := 16) rfl) rfl, ⟨by decide +kernel, by decide +kernel⟩, by decide +kernel⟩
theorem mv_X12_ownMany : Cond.instanceMethod yX12_ownMany ∈ pj_T ∧ Cond.selects yX12_ownMany.cls yX12_ownMany yX12_ownMany ∈ pj_T := ⟨pj_tw8 (List.mem_of_getElem? (i := 229) rfl) rfl, pj_inT (List.mem_append_left _ (List.mem_of_getElem? (i := 119) rfl)) rfl⟩
theorem mf_X12_strewn : pj_MF yX12_strewn cX12_strewn 2 (some .int) 1 := ⟨pj_tw8 (List.mem_of_getElem? (i := 222) rfl) rfl, pj_tw1 (List.mem_of_getElem? (i := 16) rfl) rfl, ⟨by decide +kernel, by decide +kernel⟩, by decide +kernel⟩
theorem mv_X12_strewn : Cond.instanceMethod yX12_strewn ∈ pj_T ∧ Cond.selects yX12_strewn.cls yX12_strewn yX12_strewn ∈ pj_T := ⟨pj_tw8 (List.mem_of_getElem? (i := 220) rfl) rfl, pj_tw8 (List.mem_of_getElem? (i := 221) rfl) rfl⟩
theorem mf_X12_lies : pj_MF yX12_lies cX12_lies 5 (some .int) 2 := ⟨pj_tw8 (List.mem_of_getElem? (i := 234) rfl) rfl, pj_tw1 (List.mem_of_getElem? (i := 16) rfl) rfl, ⟨by decide +kernel, by decide +kernel⟩, by decide +kernel⟩
theorem mv_X12_lies : Cond.instanceMethod yX12_lies ∈ pj_T ∧ Cond.selects yX12_lies.cls yX12_lies yX12_lies ∈ pj_T := ⟨pj_tw8 (List.mem_of_getElem? (i := 232) rfl) rfl, pj_tw8 (List.mem_of_getElem? (i := 233) rfl) rfl⟩
theorem mf_X12_rivals : pj_MF yX12_rivals cX12_rivals 5 (some .int) 2 := ⟨pj_tw8 (List.mem_of_getElem? (i := 238) rfl) rfl, pj_tw1 (List.mem_of_getElem? (i := 16) rfl) rfl, ⟨by decide +kernel, by decide +kernel⟩, by decide +kernel⟩
theorem mv_X12_rivals : Cond.instanceMethod yX12_rivals ∈ pj_T ∧ Cond.selects yX12_rivals.cls yX12_rivals yX12_rivals ∈ pj_T := ⟨pj_tw8 (List.mem_of_getElem? (i := 236) rfl) rfl, pj_tw8 (List.mem_of_getElem? (i := 237) rfl) rfl⟩
theorem mf_X12_richest : pj_MF yX12_richest cX12_richest 3 (some .int) 0 := ⟨pj_tw9 (List.mem_of_getElem? (i := 2) rfl) rfl, pj_tw1 (List.mem_of_getElem? (i := 16) rfl) rfl, ⟨by decide +kernel, by decide +kernel⟩, by decide +kernel⟩
theorem mv_X12_richest : Cond.instanceMethod yX12_richest ∈ pj_T ∧ Cond.selects yX12_richest.cls yX12_richest yX12_richest ∈ pj_T := ⟨pj_tw9 (List.mem_of_getElem? (i := 0) rfl) rfl, pj_tw9 (List.mem_of_getElem? (i := 1) rfl) rfl⟩
theorem mf_X12_wrongLast : pj_MF yX12_wrongLast cX12_wrongLast 2 (some .int) 1 := ⟨pj_tw9 (List.mem_of_getElem? (i := 10) rfl) rfl, pj_tw1 (List.mem_of_getElem? (i := 16) rfl) rfl, ⟨by decide +kernel, by decide +kernel⟩, by decide +kernel⟩
theorem mv_X12_wrongLast : Cond.instanceMethod yX12_wrongLast ∈ pj_T ∧ Cond.selects yX12_wrongLast.cls yX12_wrongLast yX12_wrongLast ∈ pj_T := ⟨pj_tw9 (List.mem_of_getElem? (i := 9) rfl) rfl, pj_inT (List.mem_append_left _ (List.mem_of_getElem? (i := 120) rfl)) rfl⟩
theorem mf_X12_leftOn : pj_MF yX12_leftOn cX12_leftOn 2 (some .int) 1 := ⟨pj_tw9 (List.mem_of_getElem? (i := 14) rfl) rfl, pj_tw1 (List.mem_of_getElem? (i := 16) rfl) rfl, ⟨by decide +kernel, by decide +kernel⟩, by decide +kernel⟩
theorem mv_X12_leftOn : Cond.instanceMethod yX12_leftOn ∈ pj_T ∧ Cond.selects yX12_leftOn.cls yX12_leftOn yX12_leftOn ∈ pj_T := ⟨pj_tw9 (List.mem_of_getElem? (i := 13) rfl) rfl, pj_inT (List.mem_append_left _ (List.mem_of_getElem? (i := 121) rfl)) rfl⟩
theorem mf_X12_left : pj_MF yX12_left cX12_left 3 (some .int) 1 := ⟨pj_tw9 (List.mem_of_getElem? (i := 6) rfl) rfl, pj_tw1 (List.mem_of_getElem? (i := 16) rfl) rfl, ⟨by decide +kernel, by decide +kernel⟩, by decide +kernel⟩
theorem mv_X12_left : Cond.instanceMethod yX12_left ∈ pj_T ∧ Cond.selects yX12_left.cls yX12_left yX12_left ∈ pj_T := ⟨pj_tw9 (List.mem_of_getElem? (i := 4) rfl) rfl, pj_tw9 (List.mem_of_getElem? (i := 5) rfl) rfl⟩
theorem mf_X12_tideIn : pj_MF yX12_tideIn cX12_tideIn 2 (some .int) 1 := ⟨pj_tw9 (List.mem_of_getElem? (i := 18) rfl) rfl, pj_tw1 (List.mem_of_getElem? (i := 16) rfl) rfl, ⟨by decide +kernel, by decide +kernel⟩, by decide +kernel⟩
theorem mv_X12_tideIn : Cond.instanceMethod yX12_tideIn ∈ pj_T ∧ Cond.selects yX12_tideIn.cls yX12_tideIn yX12_tideIn ∈ pj_T := ⟨pj_tw9 (List.mem_of_getElem? (i := 16) rfl) rfl, pj_tw9 (List.mem_of_getElem? (i := 17) rfl) rfl⟩
theorem mf_X12_latest : pj_MF yX12_latest cX12_latest 3 (some .int) 0 := ⟨pj_tw9 (List.mem_of_getElem? (i := 24) rfl) rfl, pj_tw1 (List.mem_of_getElem? (i := 16) rfl) rfl, ⟨by decide +kernel, by decide +kernel⟩, by decide +kernel⟩
theorem mv_X12_latest : Cond.instanceMethod yX12_latest ∈ pj_T ∧ Cond.selects yX12_latest.cls yX12_latest yX12_latest ∈ pj_T := ⟨pj_tw9 (List.mem_of_getElem? (i := 22) rfl) rfl, pj_tw9 (List.mem_of_getElem? (i := 23) rfl) rfl⟩
theorem mf_X12_behind : pj_MF yX12_behind cX12_behind 2 (some .int) 1 := ⟨pj_tw9 (List.mem_of_getElem? (i := 28) rfl) rfl, pj_tw1 (List.mem_of_getElem? (i := 16) rfl) rfl, ⟨by decide +kernel, by decide +kernel⟩, by decide +kernel⟩
theorem mv_X12_behind : Cond.instanceMethod yX12_behind ∈ pj_T ∧ Cond.selects yX12_behind.cls yX12_behind yX12_behind ∈ pj_T := ⟨pj_tw9 (List.mem_of_getElem? (i := 26) rfl) rfl, pj_tw9 (List.mem_of_getElem? (i := 27) rfl) rfl⟩
theorem mf_X12_alone : pj_MF yX12_alone cX12_alone 5 (some .int) 0 := ⟨pj_tw9 (List.mem_of_getElem? (i := 32) rfl) rfl, pj_tw1 (List.mem_of_getElem? (i := 16) rfl) rfl, ⟨by decide +kernel, by decide +kernel⟩, by decide +kernel⟩
theorem mv_X12_alone : Cond.instanceMethod yX12_alone ∈ pj_T ∧ Cond.selects yX12_alone.cls yX12_alone yX12_alone ∈ pj_T := ⟨pj_tw9 (List.mem_of_getElem? (i := 30) rfl) rfl, pj_tw9 (List.mem_of_getElem? (i := 31) rfl) rfl⟩
theorem mf_X12_part : pj_MF yX12_part cX12_part 6 (some .int) 2 := ⟨pj_tw9 (List.mem_of_getElem? (i := 36) rfl) rfl, pj_tw1 (List.mem_of_getElem? (i := 16) rfl) rfl, ⟨by decide +kernel, by decide +kernel⟩, by decide +kernel⟩
theorem mv_X12_part : Cond.instanceMethod yX12_part ∈ pj_T ∧ Cond.selects yX12_part.cls yX12_part yX12_part ∈ pj_T := ⟨pj_tw9 (List.mem_of_getElem? (i := 34) rfl) rfl, pj_tw9 (List.mem_of_getElem? (i := 35) rfl) rfl⟩
theorem mf_X12_crowd : pj_MF yX12_crowd cX12_crowd 6 (some .int) 1 := ⟨pj_tw9 (List.mem_of_getElem? (i := 40) rfl) rfl, pj_tw1 (List.mem_of_getElem? (i := 16) rfl) rfl, ⟨by decide +kernel, by decide +kernel⟩, by decide +kernel⟩
theorem mv_X12_crowd : Cond.instanceMethod yX12_crowd ∈ pj_T ∧ Cond.selects yX12_crowd.cls yX12_crowd yX12_crowd ∈ pj_T := ⟨pj_tw9 (List.mem_of_getElem? (i := 38) rfl) rfl, pj_tw9 (List.mem_of_getElem? (i := 39) rfl) rfl⟩
theorem mf_X12_walk : pj_MF yX12_walk cX12_walk 3 (some .int) 2 := ⟨pj_tw9 (List.mem_of_getElem? (i := 44) rfl) rfl, pj_tw1 (List.mem_of_getElem? (i := 16) rfl) rfl, ⟨by decide +kernel, by decide +kernel⟩, by decide +kernel⟩
theorem mv_X12_walk : Cond.instanceMethod yX12_walk ∈ pj_T ∧ Cond.selects yX12_walk.cls yX12_walk yX12_walk ∈ pj_T := ⟨pj_tw9 (List.mem_of_getElem? (i := 42) rfl) rfl, pj_tw9 (List.mem_of_getElem? (i := 43) rfl) rfl⟩
theorem mf_X12_open : pj_MF yX12_open cX12_open 3 (some .int) 0 := ⟨pj_tw9 (List.mem_of_getElem? (i := 48) rfl) rfl, pj_tw1 (List.mem_of_getElem? (i := 16) rfl) rfl, ⟨by decide +kernel, by decide +kernel⟩, by decide +kernel⟩
theorem mv_X12_open : Cond.instanceMethod yX12_open ∈ pj_T ∧ Cond.selects yX12_open.cls yX12_open yX12_open ∈ pj_T := ⟨pj_tw9 (List.mem_of_getElem? (i := 46) rfl) rfl, pj_tw9 (List.mem_of_getElem? (i := 47) rfl) rfl⟩
theorem mf_X12_farthest : pj_MF yX12_farthest cX12_farthest 6 (some .int) 1 := ⟨pj_tw9 (List.mem_of_getElem? (i := 52) rfl) rfl, pj_tw1 (List.mem_of_getElem? (i := 16) rfl) rfl, ⟨by decide +kernel, by decide +kernel⟩, by decide +kernel⟩
theorem mv_X12_farthest : Cond.instanceMethod yX12_farthest ∈ pj_T ∧ Cond.selects yX12_farthest.cls yX12_farthest yX12_farthest ∈ pj_T := ⟨pj_tw9 (List.mem_of_getElem? (i := 50) rfl) rfl, pj_tw9 (List.mem_of_getElem? (i := 51) rfl) rfl⟩
theorem mf_X12_time : pj_MF yX12_time cX12_time 2 (some .int) 1 := ⟨pj_tw9 (List.mem_of_getElem? (i := 56) rfl) rfl, pj_tw1 (List.mem_of_getElem? (i := 16) rfl) rfl, ⟨by decide +kernel, by decide +kernel⟩, by decide +kernel⟩
theorem mv_X12_time : Cond.instanceMethod yX12_time ∈ pj_T ∧ Cond.selects yX12_time.cls yX12_time yX12_time ∈ pj_T := ⟨pj_tw9 (List.mem_of_getElem? (i := 54) rfl) rfl, pj_tw9 (List.mem_of_getElem? (i := 55) rfl) rfl⟩
theorem mf_X12_tally : pj_MF yX12_tally cX12_tally 3 (some .int) 2 := ⟨pj_tw9 (List.mem_of_getElem? (i := 60) rfl) rfl, pj_tw1 (List.mem_of_getElem? (i := 16) rfl) rfl, ⟨by decide +kernel, by decide +kernel⟩, by decide +kernel⟩
theorem mv_X12_tally : Cond.instanceMethod yX12_tally ∈ pj_T ∧ Cond.selects yX12_tally.cls yX12_tally yX12_tally ∈ pj_T := ⟨pj_tw9 (List.mem_of_getElem? (i := 58) rfl) rfl, pj_tw9 (List.mem_of_getElem? (i := 59) rfl) rfl⟩
theorem mf_X12_strewnOf : pj_MF yX12_strewnOf cX12_strewnOf 4 (some .int) 1 := ⟨pj_tw8 (List.mem_of_getElem? (i := 226) rfl) rfl, pj_tw1 (List.mem_of_getElem? (i := 16) rfl) rfl, ⟨by decide +kernel, by decide +kernel⟩, by decide +kernel⟩
theorem mv_X12_strewnOf : Cond.instanceMethod yX12_strewnOf ∈ pj_T ∧ Cond.selects yX12_strewnOf.cls yX12_strewnOf yX12_strewnOf ∈ pj_T := ⟨pj_tw8 (List.mem_of_getElem? (i := 225) rfl) rfl, pj_inT (List.mem_append_left _ (List.mem_of_getElem? (i := 118) rfl)) rfl⟩
theorem mf_X12_busiest : pj_MF yX12_busiest cX12_busiest 3 (some .int) 0 := ⟨pj_tw9 (List.mem_of_getElem? (i := 64) rfl) rfl, pj_tw1 (List.mem_of_getElem? (i := 16) rfl) rfl, ⟨by decide +kernel, by decide +kernel⟩, by decide +kernel⟩
theorem mv_X12_busiest : Cond.instanceMethod yX12_busiest ∈ pj_T ∧ Cond.selects yX12_busiest.cls yX12_busiest yX12_busiest ∈ pj_T := ⟨pj_tw9 (List.mem_of_getElem? (i := 62) rfl) rfl, pj_tw9 (List.mem_of_getElem? (i := 63) rfl) rfl⟩
theorem mf_X12_both : pj_MF yX12_both cX12_both 4 (some .int) 3 := ⟨pj_tw9 (List.mem_of_getElem? (i := 68) rfl) rfl, pj_tw1 (List.mem_of_getElem? (i := 16) rfl) rfl, ⟨by decide +kernel, by decide +kernel⟩, by decide +kernel⟩
theorem mv_X12_both : Cond.instanceMethod yX12_both ∈ pj_T ∧ Cond.selects yX12_both.cls yX12_both yX12_both ∈ pj_T := ⟨pj_tw9 (List.mem_of_getElem? (i := 66) rfl) rfl, pj_tw9 (List.mem_of_getElem? (i := 67) rfl) rfl⟩
theorem mf_X12_floods : pj_MF yX12_floods cX12_floods 4 none 0 := ⟨pj_tw9 (List.mem_of_getElem? (i := 80) rfl) rfl, pj_tw1 (List.mem_of_getElem? (i := 16) rfl) rfl, ⟨by decide +kernel, by decide +kernel⟩, by decide +kernel⟩
theorem mv_X12_floods : Cond.instanceMethod yX12_floods ∈ pj_T ∧ Cond.selects yX12_floods.cls yX12_floods yX12_floods ∈ pj_T := ⟨pj_tw9 (List.mem_of_getElem? (i := 79) rfl) rfl, pj_inT (List.mem_append_left _ (List.mem_of_getElem? (i := 123) rfl)) rfl⟩
theorem mf_X12_tide : pj_MF yX12_tide cX12_tide 1 (some .int) 0 := ⟨pj_tw9 (List.mem_of_getElem? (i := 76) rfl) rfl, pj_tw1 (List.mem_of_getElem? (i := 16) rfl) rfl, ⟨by decide +kernel, by decide +kernel⟩, by decide +kernel⟩
theorem mv_X12_tide : Cond.instanceMethod yX12_tide ∈ pj_T ∧ Cond.selects yX12_tide.cls yX12_tide yX12_tide ∈ pj_T := ⟨pj_tw9 (List.mem_of_getElem? (i := 74) rfl) rfl, pj_tw9 (List.mem_of_getElem? (i := 75) rfl) rfl⟩
theorem mf_X12_dawns : pj_MF yX12_dawns cX12_dawns 1 none 0 := ⟨pj_tw9 (List.mem_of_getElem? (i := 88) rfl) rfl, pj_tw1 (List.mem_of_getElem? (i := 16) rfl) rfl, ⟨by decide +kernel, by decide +kernel⟩, by decide +kernel⟩
theorem mv_X12_dawns : Cond.instanceMethod yX12_dawns ∈ pj_T ∧ Cond.selects yX12_dawns.cls yX12_dawns yX12_dawns ∈ pj_T := ⟨pj_tw9 (List.mem_of_getElem? (i := 87) rfl) rfl, pj_inT (List.mem_append_left _ (List.mem_of_getElem? (i := 124) rfl)) rfl⟩
theorem mf_X12_dawn : pj_MF yX12_dawn cX12_dawn 1 (some .int) 0 := ⟨pj_tw9 (List.mem_of_getElem? (i := 84) rfl) rfl, pj_tw1 (List.mem_of_getElem? (i := 16) rfl) rfl, ⟨by decide +kernel, by decide +kernel⟩, by decide +kernel⟩
theorem mv_X12_dawn : Cond.instanceMethod yX12_dawn ∈ pj_T ∧ Cond.selects yX12_dawn.cls yX12_dawn yX12_dawn ∈ pj_T := ⟨pj_tw9 (List.mem_of_getElem? (i := 82) rfl) rfl, pj_tw9 (List.mem_of_getElem? (i := 83) rfl) rfl⟩
theorem mf_X12_behindOthers : pj_MF yX12_behindOthers cX12_behindOthers 5 (some .int) 2 := ⟨pj_tw9 (List.mem_of_getElem? (i := 100) rfl) rfl, pj_tw1 (List.mem_of_getElem? (i := 16) rfl) rfl, ⟨by decide +kernel, by decide +kernel⟩, by decide +kernel⟩
theorem mv_X12_behindOthers : Cond.instanceMethod yX12_behindOthers ∈ pj_T ∧ Cond.selects yX12_behindOthers.cls yX12_behindOthers yX12_behindOthers ∈ pj_T := ⟨pj_tw9 (List.mem_of_getElem? (i := 99) rfl) rfl, pj_inT (List.mem_append_left _ (List.mem_of_getElem? (i := 126) rfl)) rfl⟩
theorem mf_X12_soonestOf : pj_MF yX12_soonestOf cX12_soonestOf 4 (some .int) 2 := ⟨pj_tw9 (List.mem_of_getElem? (i := 96) rfl) rfl, pj_tw1 (List.mem_of_getElem? (i := 16) rfl) rfl, ⟨by decide +kernel, by decide +kernel⟩, by decide +kernel⟩
theorem mv_X12_soonestOf : Cond.instanceMethod yX12_soonestOf ∈ pj_T ∧ Cond.selects yX12_soonestOf.cls yX12_soonestOf yX12_soonestOf ∈ pj_T := ⟨pj_tw9 (List.mem_of_getElem? (i := 95) rfl) rfl, pj_inT (List.mem_append_left _ (List.mem_of_getElem? (i := 125) rfl)) rfl⟩
theorem mf_X12_soonest : pj_MF yX12_soonest cX12_soonest 3 (some .int) 2 := ⟨pj_tw9 (List.mem_of_getElem? (i := 92) rfl) rfl, pj_tw1 (List.mem_of_getElem? (i := 16) rfl) rfl, ⟨by decide +kernel, by decide +kernel⟩, by decide +kernel⟩
theorem mv_X12_soonest : Cond.instanceMethod yX12_soonest ∈ pj_T ∧ Cond.selects yX12_soonest.cls yX12_soonest yX12_soonest ∈ pj_T := ⟨pj_tw9 (List.mem_of_getElem? (i := 90) rfl) rfl, pj_tw9 (List.mem_of_getElem? (i := 91) rfl) rfl⟩
theorem mf_X12_threatTo : pj_MF yX12_threatTo cX12_threatTo 4 (some .int) 1 := ⟨pj_tw9 (List.mem_of_getElem? (i := 108) rfl) rfl, pj_tw1 (List.mem_of_getElem? (i := 16) rfl) rfl, ⟨by decide +kernel, by decide +kernel⟩, by decide +kernel⟩
theorem mv_X12_threatTo : Cond.instanceMethod yX12_threatTo ∈ pj_T ∧ Cond.selects yX12_threatTo.cls yX12_threatTo yX12_threatTo ∈ pj_T := ⟨pj_tw9 (List.mem_of_getElem? (i := 107) rfl) rfl, pj_inT (List.mem_append_left _ (List.mem_of_getElem? (i := 127) rfl)) rfl⟩
theorem mf_X12_threat : pj_MF yX12_threat cX12_threat 3 (some .int) 1 := ⟨pj_tw9 (List.mem_of_getElem? (i := 104) rfl) rfl, pj_tw1 (List.mem_of_getElem? (i := 16) rfl) rfl, ⟨by decide +kernel, by decide +kernel⟩, by decide +kernel⟩
theorem mv_X12_threat : Cond.instanceMethod yX12_threat ∈ pj_T ∧ Cond.selects yX12_threat.cls yX12_threat yX12_threat ∈ pj_T := ⟨pj_tw9 (List.mem_of_getElem? (i := 102) rfl) rfl, pj_tw9 (List.mem_of_getElem? (i := 103) rfl) rfl⟩
theorem mf_X12_safe : pj_MF yX12_safe cX12_safe 4 (some .int) 1 := ⟨pj_tw9 (List.mem_of_getElem? (i := 112) rfl) rfl, pj_tw1 (List.mem_of_getElem? (i := 16) rfl) rfl, ⟨by decide +kernel, by decide +kernel⟩, by decide +kernel⟩
theorem mv_X12_safe : Cond.instanceMethod yX12_safe ∈ pj_T ∧ Cond.selects yX12_safe.cls yX12_safe yX12_safe ∈ pj_T := ⟨pj_tw9 (List.mem_of_getElem? (i := 110) rfl) rfl, pj_tw9 (List.mem_of_getElem? (i := 111) rfl) rfl⟩
theorem mf_X12_gain : pj_MF yX12_gain cX12_gain 3 (some .int) 2 := ⟨pj_tw9 (List.mem_of_getElem? (i := 116) rfl) rfl, pj_tw1 (List.mem_of_getElem? (i := 16) rfl) rfl, ⟨by decide +kernel, by decide +kernel⟩, by decide +kernel⟩
theorem mv_X12_gain : Cond.instanceMethod yX12_gain ∈ pj_T ∧ Cond.selects yX12_gain.cls yX12_gain yX12_gain ∈ pj_T := ⟨pj_tw9 (List.mem_of_getElem? (i := 114) rfl) rfl, pj_tw9 (List.mem_of_getElem? (i := 115) rfl) rfl⟩
theorem mf_X12_rounds : pj_MF yX12_rounds cX12_rounds 12 (some .int) 2 := ⟨pj_tw9 (List.mem_of_getElem? (i := 124) rfl) rfl, pj_tw1 (List.mem_of_getElem? (i := 16) rfl) rfl, ⟨by decide +kernel, by decide +kernel⟩, by decide +kernel⟩
theorem mv_X12_rounds : Cond.instanceMethod yX12_rounds ∈ pj_T ∧ Cond.selects yX12_rounds.cls yX12_rounds yX12_rounds ∈ pj_T := ⟨pj_tw9 (List.mem_of_getElem? (i := 123) rfl) rfl, pj_inT (List.mem_append_left _ (List.mem_of_getElem? (i := 128) rfl)) rfl⟩
theorem mf_X12_best : pj_MF yX12_best cX12_best 4 (some .int) 1 := ⟨pj_tw9 (List.mem_of_getElem? (i := 120) rfl) rfl, pj_tw1 (List.mem_of_getElem? (i := 16) rfl) rfl, ⟨by decide +kernel, by decide +kernel⟩, by decide +kernel⟩
theorem mv_X12_best : Cond.instanceMethod yX12_best ∈ pj_T ∧ Cond.selects yX12_best.cls yX12_best yX12_best ∈ pj_T := ⟨pj_tw9 (List.mem_of_getElem? (i := 118) rfl) rfl, pj_tw9 (List.mem_of_getElem? (i := 119) rfl) rfl⟩
theorem mf_X12_bestAt : pj_MF yX12_bestAt cX12_bestAt 2 (some .int) 1 := ⟨pj_tw9 (List.mem_of_getElem? (i := 128) rfl) rfl, pj_tw1 (List.mem_of_getElem? (i := 16) rfl) rfl, ⟨by decide +kernel, by decide +kernel⟩, by decide +kernel⟩
theorem mv_X12_bestAt : Cond.instanceMethod yX12_bestAt ∈ pj_T ∧ Cond.selects yX12_bestAt.cls yX12_bestAt yX12_bestAt ∈ pj_T := ⟨pj_tw9 (List.mem_of_getElem? (i := 126) rfl) rfl, pj_tw9 (List.mem_of_getElem? (i := 127) rfl) rfl⟩
theorem mf_X12_lateness : pj_MF yX12_lateness cX12_lateness 3 (some .int) 2 := ⟨pj_tw9 (List.mem_of_getElem? (i := 132) rfl) rfl, pj_tw1 (List.mem_of_getElem? (i := 16) rfl) rfl, ⟨by decide +kernel, by decide +kernel⟩, by decide +kernel⟩
theorem mv_X12_lateness : Cond.instanceMethod yX12_lateness ∈ pj_T ∧ Cond.selects yX12_lateness.cls yX12_lateness yX12_lateness ∈ pj_T := ⟨pj_tw9 (List.mem_of_getElem? (i := 130) rfl) rfl, pj_tw9 (List.mem_of_getElem? (i := 131) rfl) rfl⟩
theorem mf_X12_seenBy : pj_MF yX12_seenBy cX12_seenBy 5 (some .int) 2 := ⟨pj_tw9 (List.mem_of_getElem? (i := 72) rfl) rfl, pj_tw1 (List.mem_of_getElem? (i := 16) rfl) rfl, ⟨by decide +kernel, by decide +kernel⟩, by decide +kernel⟩
theorem mv_X12_seenBy : Cond.instanceMethod yX12_seenBy ∈ pj_T ∧ Cond.selects yX12_seenBy.cls yX12_seenBy yX12_seenBy ∈ pj_T := ⟨pj_tw9 (List.mem_of_getElem? (i := 71) rfl) rfl, pj_inT (List.mem_append_left _ (List.mem_of_getElem? (i := 122) rfl)) rfl⟩
theorem mf_X12_seen : pj_MF yX12_seen cX12_seen 3 (some .int) 2 := ⟨pj_tw9 (List.mem_of_getElem? (i := 136) rfl) rfl, pj_tw1 (List.mem_of_getElem? (i := 16) rfl) rfl, ⟨by decide +kernel, by decide +kernel⟩, by decide +kernel⟩
theorem mv_X12_seen : Cond.instanceMethod yX12_seen ∈ pj_T ∧ Cond.selects yX12_seen.cls yX12_seen yX12_seen ∈ pj_T := ⟨pj_tw9 (List.mem_of_getElem? (i := 134) rfl) rfl, pj_tw9 (List.mem_of_getElem? (i := 135) rfl) rfl⟩
theorem mf_X12_boyFrom : pj_MF yX12_boyFrom cX12_boyFrom 5 (some .int) 2 := ⟨pj_tw9 (List.mem_of_getElem? (i := 148) rfl) rfl, pj_tw1 (List.mem_of_getElem? (i := 16) rfl) rfl, ⟨by decide +kernel, by decide +kernel⟩, by decide +kernel⟩
theorem mv_X12_boyFrom : Cond.instanceMethod yX12_boyFrom ∈ pj_T ∧ Cond.selects yX12_boyFrom.cls yX12_boyFrom yX12_boyFrom ∈ pj_T := ⟨pj_tw9 (List.mem_of_getElem? (i := 147) rfl) rfl, pj_inT (List.mem_append_left _ (List.mem_of_getElem? (i := 130) rfl)) rfl⟩
theorem mf_X12_boy : pj_MF yX12_boy cX12_boy 5 (some .int) 2 := ⟨pj_tw9 (List.mem_of_getElem? (i := 144) rfl) rfl, pj_tw1 (List.mem_of_getElem? (i := 16) rfl) rfl, ⟨by decide +kernel, by decide +kernel⟩, by decide +kernel⟩
theorem mv_X12_boy : Cond.instanceMethod yX12_boy ∈ pj_T ∧ Cond.selects yX12_boy.cls yX12_boy yX12_boy ∈ pj_T := ⟨pj_tw9 (List.mem_of_getElem? (i := 143) rfl) rfl, pj_inT (List.mem_append_left _ (List.mem_of_getElem? (i := 129) rfl)) rfl⟩
theorem mf_X12_boys : pj_MF yX12_boys cX12_boys 3 (some .int) 1 := ⟨pj_tw9 (List.mem_of_getElem? (i := 140) rfl) rfl, pj_tw1 (List.mem_of_getElem? (i := 16) rfl) rfl, ⟨by decide +kernel, by decide +kernel⟩, by decide +kernel⟩
theorem mv_X12_boys : Cond.instanceMethod yX12_boys ∈ pj_T ∧ Cond.selects yX12_boys.cls yX12_boys yX12_boys ∈ pj_T := ⟨pj_tw9 (List.mem_of_getElem? (i := 138) rfl) rfl, pj_tw9 (List.mem_of_getElem? (i := 139) rfl) rfl⟩
theorem mf_X12_boyAt : pj_MF yX12_boyAt cX12_boyAt 3 (some .int) 2 := ⟨pj_tw9 (List.mem_of_getElem? (i := 152) rfl) rfl, pj_tw1 (List.mem_of_getElem? (i := 16) rfl) rfl, ⟨by decide +kernel, by decide +kernel⟩, by decide +kernel⟩
theorem mv_X12_boyAt : Cond.instanceMethod yX12_boyAt ∈ pj_T ∧ Cond.selects yX12_boyAt.cls yX12_boyAt yX12_boyAt ∈ pj_T := ⟨pj_tw9 (List.mem_of_getElem? (i := 150) rfl) rfl, pj_tw9 (List.mem_of_getElem? (i := 151) rfl) rfl⟩
theorem mf_X12_odds : pj_MF yX12_odds cX12_odds 10 (some .boolean) 3 := ⟨pj_tw9 (List.mem_of_getElem? (i := 156) rfl) rfl, pj_tw1 (List.mem_of_getElem? (i := 16) rfl) rfl, ⟨by decide +kernel, by decide +kernel⟩, by decide +kernel⟩
theorem mv_X12_odds : Cond.instanceMethod yX12_odds ∈ pj_T ∧ Cond.selects yX12_odds.cls yX12_odds yX12_odds ∈ pj_T := ⟨pj_tw9 (List.mem_of_getElem? (i := 154) rfl) rfl, pj_tw9 (List.mem_of_getElem? (i := 155) rfl) rfl⟩
theorem mf_X12_gulls : pj_MF yX12_gulls cX12_gulls 6 (some .int) 1 := ⟨pj_tw9 (List.mem_of_getElem? (i := 165) rfl) rfl, pj_tw1 (List.mem_of_getElem? (i := 16) rfl) rfl, ⟨by decide +kernel, by decide +kernel⟩, by decide +kernel⟩
theorem mv_X12_gulls : Cond.instanceMethod yX12_gulls ∈ pj_T ∧ Cond.selects yX12_gulls.cls yX12_gulls yX12_gulls ∈ pj_T := ⟨pj_tw9 (List.mem_of_getElem? (i := 163) rfl) rfl, pj_tw9 (List.mem_of_getElem? (i := 164) rfl) rfl⟩
theorem mf_X12_draw : pj_MF yX12_draw cX12_draw 2 (some .int) 1 := ⟨pj_tw9 (List.mem_of_getElem? (i := 187) rfl) rfl, pj_tw1 (List.mem_of_getElem? (i := 16) rfl) rfl, ⟨by decide +kernel, by decide +kernel⟩, by decide +kernel⟩
theorem mv_X12_draw : Cond.instanceMethod yX12_draw ∈ pj_T ∧ Cond.selects yX12_draw.cls yX12_draw yX12_draw ∈ pj_T := ⟨pj_tw9 (List.mem_of_getElem? (i := 186) rfl) rfl, pj_inT (List.mem_append_left _ (List.mem_of_getElem? (i := 135) rfl)) rfl⟩
theorem mf_X12_gullComes : pj_MF yX12_gullComes cX12_gullComes 4 none 1 := ⟨pj_tw9 (List.mem_of_getElem? (i := 183) rfl) rfl, pj_tw1 (List.mem_of_getElem? (i := 16) rfl) rfl, ⟨by decide +kernel, by decide +kernel⟩, by decide +kernel⟩
theorem mv_X12_gullComes : Cond.instanceMethod yX12_gullComes ∈ pj_T ∧ Cond.selects yX12_gullComes.cls yX12_gullComes yX12_gullComes ∈ pj_T := ⟨pj_tw9 (List.mem_of_getElem? (i := 182) rfl) rfl, pj_inT (List.mem_append_left _ (List.mem_of_getElem? (i := 134) rfl)) rfl⟩
theorem mf_X12_does : pj_MF yX12_does cX12_does 4 (some .boolean) 1 := ⟨pj_tw9 (List.mem_of_getElem? (i := 179) rfl) rfl, pj_tw1 (List.mem_of_getElem? (i := 16) rfl) rfl, ⟨by decide +kernel, by decide +kernel⟩, by decide +kernel⟩
theorem mv_X12_does : Cond.instanceMethod yX12_does ∈ pj_T ∧ Cond.selects yX12_does.cls yX12_does yX12_does ∈ pj_T := ⟨pj_tw9 (List.mem_of_getElem? (i := 178) rfl) rfl, pj_inT (List.mem_append_left _ (List.mem_of_getElem? (i := 133) rfl)) rfl⟩
theorem mf_X12_holds : pj_MF yX12_holds cX12_holds 6 (some .boolean) 1 := ⟨pj_tw9 (List.mem_of_getElem? (i := 192) rfl) rfl, pj_tw1 (List.mem_of_getElem? (i := 16) rfl) rfl, ⟨by decide +kernel, by decide +kernel⟩, by decide +kernel⟩
theorem mv_X12_holds : Cond.instanceMethod yX12_holds ∈ pj_T ∧ Cond.selects yX12_holds.cls yX12_holds yX12_holds ∈ pj_T := ⟨pj_tw9 (List.mem_of_getElem? (i := 191) rfl) rfl, pj_inT (List.mem_append_left _ (List.mem_of_getElem? (i := 136) rfl)) rfl⟩
theorem mf_X12_behindEnds : pj_MF yX12_behindEnds cX12_behindEnds 5 (some .int) 1 := ⟨pj_tw9 (List.mem_of_getElem? (i := 196) rfl) rfl, pj_tw1 (List.mem_of_getElem? (i := 16) rfl) rfl, ⟨by decide +kernel, by decide +kernel⟩, by decide +kernel⟩
theorem mv_X12_behindEnds : Cond.instanceMethod yX12_behindEnds ∈ pj_T ∧ Cond.selects yX12_behindEnds.cls yX12_behindEnds yX12_behindEnds ∈ pj_T := ⟨pj_tw9 (List.mem_of_getElem? (i := 195) rfl) rfl, pj_inT (List.mem_append_left _ (List.mem_of_getElem? (i := 137) rfl)) rfl⟩
theorem mf_X12_lives : pj_MF yX12_lives cX12_lives 4 none 1 := ⟨pj_tw9 (List.mem_of_getElem? (i := 175) rfl) rfl, pj_tw1 (List.mem_of_getElem? (i := 16) rfl) rfl, ⟨by decide +kernel, by decide +kernel⟩, by decide +kernel⟩
theorem mv_X12_lives : Cond.instanceMethod yX12_lives ∈ pj_T ∧ Cond.selects yX12_lives.cls yX12_lives yX12_lives ∈ pj_T := ⟨pj_tw9 (List.mem_of_getElem? (i := 174) rfl) rfl, pj_inT (List.mem_append_left _ (List.mem_of_getElem? (i := 132) rfl)) rfl⟩
theorem mf_X12_live : pj_MF yX12_live cX12_live 3 (some .int) 1 := ⟨pj_tw9 (List.mem_of_getElem? (i := 170) rfl) rfl, pj_tw1 (List.mem_of_getElem? (i := 16) rfl) rfl, ⟨by decide +kernel, by decide +kernel⟩, by decide +kernel⟩
theorem mv_X12_live : Cond.instanceMethod yX12_live ∈ pj_T ∧ Cond.selects yX12_live.cls yX12_live yX12_live ∈ pj_T := ⟨pj_tw9 (List.mem_of_getElem? (i := 168) rfl) rfl, pj_tw9 (List.mem_of_getElem? (i := 169) rfl) rfl⟩
theorem mf_X12_lived : pj_MF yX12_lived cX12_lived 2 (some .int) 1 := ⟨pj_tw9 (List.mem_of_getElem? (i := 200) rfl) rfl, pj_tw1 (List.mem_of_getElem? (i := 16) rfl) rfl, ⟨by decide +kernel, by decide +kernel⟩, by decide +kernel⟩
theorem mv_X12_lived : Cond.instanceMethod yX12_lived ∈ pj_T ∧ Cond.selects yX12_lived.cls yX12_lived yX12_lived ∈ pj_T := ⟨pj_tw9 (List.mem_of_getElem? (i := 198) rfl) rfl, pj_tw9 (List.mem_of_getElem? (i := 199) rfl) rfl⟩
theorem mf_X12_mean : pj_MF yX12_mean cX12_mean 8 (some .boolean) 3 := ⟨pj_tw9 (List.mem_of_getElem? (i := 204) rfl) rfl, pj_tw1 (List.mem_of_getElem? (i := 16) rfl) rfl, ⟨by decide +kernel, by decide +kernel⟩, by decide +kernel⟩
theorem mv_X12_mean : Cond.instanceMethod yX12_mean ∈ pj_T ∧ Cond.selects yX12_mean.cls yX12_mean yX12_mean ∈ pj_T := ⟨pj_tw9 (List.mem_of_getElem? (i := 202) rfl) rfl, pj_tw9 (List.mem_of_getElem? (i := 203) rfl) rfl⟩
theorem mf_X12_copies : pj_MF yX12_copies cX12_copies 4 none 2 := ⟨pj_tw9 (List.mem_of_getElem? (i := 213) rfl) rfl, pj_tw1 (List.mem_of_getElem? (i := 16) rfl) rfl, ⟨by decide +kernel, by decide +kernel⟩, by decide +kernel⟩
theorem mv_X12_copies : Cond.instanceMethod yX12_copies ∈ pj_T ∧ Cond.selects yX12_copies.cls yX12_copies yX12_copies ∈ pj_T := ⟨pj_tw9 (List.mem_of_getElem? (i := 212) rfl) rfl, pj_inT (List.mem_append_left _ (List.mem_of_getElem? (i := 138) rfl)) rfl⟩
theorem mf_X12_mark : pj_MF yX12_mark cX12_mark 1 (some .int) 0 := ⟨pj_tw9 (List.mem_of_getElem? (i := 209) rfl) rfl, pj_tw1 (List.mem_of_getElem? (i := 16) rfl) rfl, ⟨by decide +kernel, by decide +kernel⟩, by decide +kernel⟩
theorem mv_X12_mark : Cond.instanceMethod yX12_mark ∈ pj_T ∧ Cond.selects yX12_mark.cls yX12_mark yX12_mark ∈ pj_T := ⟨pj_tw9 (List.mem_of_getElem? (i := 207) rfl) rfl, pj_tw9 (List.mem_of_getElem? (i := 208) rfl) rfl⟩
theorem mf_X12_back : pj_MF yX12_back cX12_back 1 (some .int) 0 := ⟨pj_tw9 (List.mem_of_getElem? (i := 217) rfl) rfl, pj_tw1 (List.mem_of_getElem? (i := 16) rfl) rfl, ⟨by decide +kernel, by decide +kernel⟩, by decide +kernel⟩
theorem mv_X12_back : Cond.instanceMethod yX12_back ∈ pj_T ∧ Cond.selects yX12_back.cls yX12_back yX12_back ∈ pj_T := ⟨pj_tw9 (List.mem_of_getElem? (i := 215) rfl) rfl, pj_tw9 (List.mem_of_getElem? (i := 216) rfl) rfl⟩
theorem mf_J6_bitCount_0f7a4 : pj_MF yJ6_bitCount_0f7a4 cJ6_bitCount_0f7a4 1 (some .int) 1 := ⟨pj_tw5 (List.mem_of_getElem? (i := 1) rfl) rfl, pj_tw1 (List.mem_of_getElem? (i := 19) rfl) rfl, ⟨by decide +kernel, by decide +kernel⟩, by decide +kernel⟩
theorem ms_J6_bitCount_0f7a4 : Cond.static yJ6_bitCount_0f7a4 ∈ pj_T := pj_tw5 (List.mem_of_getElem? (i := 0) rfl) rfl
theorem mf_J9_abs_0f7a4 : pj_MF yJ9_abs_0f7a4 cJ9_abs_0f7a4 1 (some .int) 1 := ⟨pj_tw4 (List.mem_of_getElem? (i := 156) rfl) rfl, pj_tw1 (List.mem_of_getElem? (i := 18) rfl) rfl, ⟨by decide +kernel, by decide +kernel⟩, by decide +kernel⟩
theorem ms_J9_abs_0f7a4 : Cond.static yJ9_abs_0f7a4 ∈ pj_T := pj_tw4 (List.mem_of_getElem? (i := 155) rfl) rfl
theorem mf_J9_max_7cf53 : pj_MF yJ9_max_7cf53 cJ9_max_7cf53 2 (some .int) 2 := ⟨pj_tw5 (List.mem_of_getElem? (i := 29) rfl) rfl, pj_tw1 (List.mem_of_getElem? (i := 18) rfl) rfl, ⟨by decide +kernel, by decide +kernel⟩, by decide +kernel⟩
theorem ms_J9_max_7cf53 : Cond.static yJ9_max_7cf53 ∈ pj_T := pj_tw5 (List.mem_of_getElem? (i := 28) rfl) rfl
theorem mf_J9_min_7cf53 : pj_MF yJ9_min_7cf53 cJ9_min_7cf53 2 (some .int) 2 := ⟨pj_tw3 (List.mem_of_getElem? (i := 115) rfl) rfl, pj_tw1 (List.mem_of_getElem? (i := 18) rfl) rfl, ⟨by decide +kernel, by decide +kernel⟩, by decide +kernel⟩
theorem ms_J9_min_7cf53 : Cond.static yJ9_min_7cf53 ∈ pj_T := pj_tw3 (List.mem_of_getElem? (i := 114) rfl) rfl
theorem mf_J0_length_8abf5 : pj_MF yJ0_length_8abf5 cJ0_length_8abf5 1 (some .int) 0 := ⟨pj_tw1 (List.mem_of_getElem? (i := 40) rfl) rfl, pj_tw1 (List.mem_of_getElem? (i := 3) rfl) rfl, ⟨by decide +kernel, by decide +kernel⟩, by decide +kernel⟩
theorem mv_J0_length_8abf5 : Cond.instanceMethod yJ0_length_8abf5 ∈ pj_T ∧ Cond.selects yJ0_length_8abf5.cls yJ0_length_8abf5 yJ0_length_8abf5 ∈ pj_T := ⟨pj_tw1 (List.mem_of_getElem? (i := 38) rfl) rfl, pj_tw1 (List.mem_of_getElem? (i := 39) rfl) rfl⟩
theorem mf_J0_charAt_5068e : pj_MF yJ0_charAt_5068e cJ0_charAt_5068e 2 (some .char) 1 := ⟨pj_tw1 (List.mem_of_getElem? (i := 50) rfl) rfl, pj_tw1 (List.mem_of_getElem? (i := 3) rfl) rfl, ⟨by decide +kernel, by decide +kernel⟩, by decide +kernel⟩
theorem mv_J0_charAt_5068e : Cond.instanceMethod yJ0_charAt_5068e ∈ pj_T ∧ Cond.selects yJ0_charAt_5068e.cls yJ0_charAt_5068e yJ0_charAt_5068e ∈ pj_T := ⟨pj_tw1 (List.mem_of_getElem? (i := 48) rfl) rfl, pj_tw1 (List.mem_of_getElem? (i := 49) rfl) rfl⟩
theorem mf_J0_coder_7d493 : pj_MF yJ0_coder_7d493 cJ0_coder_7d493 1 (some .byte) 0 := ⟨pj_tw1 (List.mem_of_getElem? (i := 44) rfl) rfl, pj_tw1 (List.mem_of_getElem? (i := 3) rfl) rfl, ⟨by decide +kernel, by decide +kernel⟩, by decide +kernel⟩
theorem mv_J0_coder_7d493 : Cond.instanceMethod yJ0_coder_7d493 ∈ pj_T ∧ Cond.selects yJ0_coder_7d493.cls yJ0_coder_7d493 yJ0_coder_7d493 ∈ pj_T := ⟨pj_tw1 (List.mem_of_getElem? (i := 42) rfl) rfl, pj_tw1 (List.mem_of_getElem? (i := 43) rfl) rfl⟩
theorem mf_J0_isLatin1_aae02 : pj_MF yJ0_isLatin1_aae02 cJ0_isLatin1_aae02 1 (some .boolean) 0 := ⟨pj_tw1 (List.mem_of_getElem? (i := 54) rfl) rfl, pj_tw1 (List.mem_of_getElem? (i := 3) rfl) rfl, ⟨by decide +kernel, by decide +kernel⟩, by decide +kernel⟩
theorem mv_J0_isLatin1_aae02 : Cond.instanceMethod yJ0_isLatin1_aae02 ∈ pj_T ∧ Cond.selects yJ0_isLatin1_aae02.cls yJ0_isLatin1_aae02 yJ0_isLatin1_aae02 ∈ pj_T := ⟨pj_tw1 (List.mem_of_getElem? (i := 52) rfl) rfl, pj_tw1 (List.mem_of_getElem? (i := 53) rfl) rfl⟩
theorem mf_J0_checkIndex_df160 : pj_MF yJ0_checkIndex_df160 cJ0_checkIndex_df160 2 none 2 := ⟨pj_tw1 (List.mem_of_getElem? (i := 60) rfl) rfl, pj_tw1 (List.mem_of_getElem? (i := 3) rfl) rfl, ⟨by decide +kernel, by decide +kernel⟩, by decide +kernel⟩
theorem ms_J0_checkIndex_df160 : Cond.static yJ0_checkIndex_df160 ∈ pj_T := pj_tw1 (List.mem_of_getElem? (i := 59) rfl) rfl
theorem mf_J1_charAt_3b067 : pj_MF yJ1_charAt_3b067 cJ1_charAt_3b067 2 (some .char) 2 := ⟨pj_tw1 (List.mem_of_getElem? (i := 57) rfl) rfl, pj_tw1 (List.mem_of_getElem? (i := 4) rfl) rfl, ⟨by decide +kernel, by decide +kernel⟩, by decide +kernel⟩
theorem ms_J1_charAt_3b067 : Cond.static yJ1_charAt_3b067 ∈ pj_T := pj_tw1 (List.mem_of_getElem? (i := 56) rfl) rfl
theorem mf_J2_getChar_3b067 : pj_MF yJ2_getChar_3b067 cJ2_getChar_3b067 2 (some .char) 2 := ⟨pj_tw1 (List.mem_of_getElem? (i := 78) rfl) rfl, pj_tw1 (List.mem_of_getElem? (i := 6) rfl) rfl, ⟨by decide +kernel, by decide +kernel⟩, by decide +kernel⟩
theorem ms_J2_getChar_3b067 : Cond.static yJ2_getChar_3b067 ∈ pj_T := pj_tw1 (List.mem_of_getElem? (i := 77) rfl) rfl
theorem mf_J2_length_9d52b : pj_MF yJ2_length_9d52b cJ2_length_9d52b 1 (some .int) 1 := ⟨pj_tw1 (List.mem_of_getElem? (i := 74) rfl) rfl, pj_tw1 (List.mem_of_getElem? (i := 6) rfl) rfl, ⟨by decide +kernel, by decide +kernel⟩, by decide +kernel⟩
theorem ms_J2_length_9d52b : Cond.static yJ2_length_9d52b ∈ pj_T := pj_tw1 (List.mem_of_getElem? (i := 73) rfl) rfl
theorem mf_J2_charAt_3b067 : pj_MF yJ2_charAt_3b067 cJ2_charAt_3b067 2 (some .char) 2 := ⟨pj_tw1 (List.mem_of_getElem? (i := 68) rfl) rfl, pj_tw1 (List.mem_of_getElem? (i := 6) rfl) rfl, ⟨by decide +kernel, by decide +kernel⟩, by decide +kernel⟩
theorem ms_J2_charAt_3b067 : Cond.static yJ2_charAt_3b067 ∈ pj_T := pj_tw1 (List.mem_of_getElem? (i := 67) rfl) rfl
theorem mf_J2_checkIndex_2214a : pj_MF yJ2_checkIndex_2214a cJ2_checkIndex_2214a 2 none 2 := ⟨pj_tw1 (List.mem_of_getElem? (i := 71) rfl) rfl, pj_tw1 (List.mem_of_getElem? (i := 6) rfl) rfl, ⟨by decide +kernel, by decide +kernel⟩, by decide +kernel⟩
theorem ms_J2_checkIndex_2214a : Cond.static yJ2_checkIndex_2214a ∈ pj_T := pj_tw1 (List.mem_of_getElem? (i := 70) rfl) rfl
theorem mf_J3_checkIndex_8e157 : pj_MF yJ3_checkIndex_8e157 cJ3_checkIndex_8e157 3 (some .int) 3 := ⟨pj_tw1 (List.mem_of_getElem? (i := 65) rfl) rfl, pj_tw1 (List.mem_of_getElem? (i := 5) rfl) rfl, ⟨by decide +kernel, by decide +kernel⟩, by decide +kernel⟩
theorem ms_J3_checkIndex_8e157 : Cond.static yJ3_checkIndex_8e157 ∈ pj_T := pj_tw1 (List.mem_of_getElem? (i := 64) rfl) rfl
theorem fs_J0_38 : Cond.fieldLink RJ0 38 "java/lang/String" "COMPACT_STRINGS" "Z" ∈ pj_T := pj_tw1 (List.mem_of_getElem? (i := 45) rfl) rfl
theorem fs_J0_1053 : Cond.fieldLink RJ0 1053 "jdk/internal/util/Preconditions" "SIOOBE_FORMATTER" "Ljava/util/function/BiFunction;" ∈ pj_T := pj_tw1 (List.mem_of_getElem? (i := 61) rfl) rfl
theorem fs_J0_9 : Cond.fieldLink RJ0 9 "java/lang/String" "value" "[B" ∈ pj_T := pj_tw9 (List.mem_of_getElem? (i := 219) rfl) rfl
theorem fs_J0_15 : Cond.fieldLink RJ0 15 "java/lang/String" "coder" "B" ∈ pj_T := pj_tw9 (List.mem_of_getElem? (i := 220) rfl) rfl
theorem mo_I : Cond.instanceMethod objectInit ∈ pj_T := pj_tw1 (List.mem_of_getElem? (i := 26) rfl) rfl
theorem mo_C : Cond.code objectInit ⟨#[0xb1]⟩ 1 none ∈ pj_T := pj_tw1 (List.mem_of_getElem? (i := 27) rfl) rfl
theorem mo_A : Cond.native arraycopyName ∈ pj_T ∧ Cond.static arraycopyName ∈ pj_T ∧ Cond.initialized "java/lang/System" ∈ pj_T := ⟨pj_tw3 (List.mem_of_getElem? (i := 92) rfl) rfl, pj_tw3 (List.mem_of_getElem? (i := 91) rfl) rfl, pj_tw1 (List.mem_of_getElem? (i := 17) rfl) rfl⟩
theorem kc_10 : 10 ≤ 10 ∧ pj_so 10 = 0 ∧ ∃ T N, pj_cl[pj_ci 10]? = some (RX11, T, N) := ⟨by decide, rfl, _, _, rfl⟩
theorem kn_10 : Cond.instantiable RX11 (pj_sz 10) ∈ pj_T ∧ Cond.initialized RX11 ∈ pj_T := ⟨pj_tw1 (List.mem_of_getElem? (i := 21) rfl) rfl, pj_tw1 (List.mem_of_getElem? (i := 1) rfl) rfl⟩
theorem kt_10 : ∀ j, j < pj_sz 10 → ∃ ty, parseFieldDescriptor (TX11 j).2.2.1 = some ty ∧ pj_ty (pj_tg 10 j) ty := fun j hj => ⟨_, tyX11_ok j hj, pj_tyb_ok ((by decide : ∀ j, j < 18 → pj_tyb (pj_tg 10 j) (tyX11 j) = true) j hj)⟩
theorem kc_12 : 10 ≤ 12 ∧ pj_so 12 = 0 ∧ ∃ T N, pj_cl[pj_ci 12]? = some (RX7, T, N) := ⟨by decide, rfl, _, _, rfl⟩
theorem kn_12 : Cond.instantiable RX7 (pj_sz 12) ∈ pj_T ∧ Cond.initialized RX7 ∈ pj_T := ⟨pj_tw1 (List.mem_of_getElem? (i := 31) rfl) rfl, pj_tw1 (List.mem_of_getElem? (i := 2) rfl) rfl⟩
theorem kt_12 : ∀ j, j < pj_sz 12 → ∃ ty, parseFieldDescriptor (TX7 j).2.2.1 = some ty ∧ pj_ty (pj_tg 12 j) ty := fun j hj => ⟨_, tyX7_ok j hj, pj_tyb_ok ((by decide : ∀ j, j < 12 → pj_tyb (pj_tg 12 j) (tyX7 j) = true) j hj)⟩
theorem kc_13 : 10 ≤ 13 ∧ pj_so 13 = 0 ∧ ∃ T N, pj_cl[pj_ci 13]? = some (RX1, T, N) := ⟨by decide, rfl, _, _, rfl⟩
theorem kn_13 : Cond.instantiable RX1 (pj_sz 13) ∈ pj_T ∧ Cond.initialized RX1 ∈ pj_T := ⟨pj_tw1 (List.mem_of_getElem? (i := 133) rfl) rfl, pj_tw1 (List.mem_of_getElem? (i := 7) rfl) rfl⟩
theorem kt_13 : ∀ j, j < pj_sz 13 → ∃ ty, parseFieldDescriptor (TX1 j).2.2.1 = some ty ∧ pj_ty (pj_tg 13 j) ty := fun j hj => ⟨_, tyX1_ok j hj, pj_tyb_ok ((by decide : ∀ j, j < 3 → pj_tyb (pj_tg 13 j) (tyX1 j) = true) j hj)⟩
theorem kc_14 : 10 ≤ 14 ∧ pj_so 14 = 0 ∧ ∃ T N, pj_cl[pj_ci 14]? = some (RX3, T, N) := ⟨by decide, rfl, _, _, rfl⟩
theorem kn_14 : Cond.instantiable RX3 (pj_sz 14) ∈ pj_T ∧ Cond.initialized RX3 ∈ pj_T := ⟨pj_tw1 (List.mem_of_getElem? (i := 149) rfl) rfl, pj_tw1 (List.mem_of_getElem? (i := 8) rfl) rfl⟩
theorem kt_14 : ∀ j, j < pj_sz 14 → ∃ ty, parseFieldDescriptor (TX3 j).2.2.1 = some ty ∧ pj_ty (pj_tg 14 j) ty := fun j hj => ⟨_, tyX3_ok j hj, pj_tyb_ok ((by decide : ∀ j, j < 5 → pj_tyb (pj_tg 14 j) (tyX3 j) = true) j hj)⟩
theorem kc_17 : 10 ≤ 17 ∧ pj_so 17 = 0 ∧ ∃ T N, pj_cl[pj_ci 17]? = some (RX8, T, N) := ⟨by decide, rfl, _, _, rfl⟩
theorem kn_17 : Cond.instantiable RX8 (pj_sz 17) ∈ pj_T ∧ Cond.initialized RX8 ∈ pj_T := ⟨pj_tw1 (List.mem_of_getElem? (i := 175) rfl) rfl, pj_tw1 (List.mem_of_getElem? (i := 9) rfl) rfl⟩
theorem kt_17 : ∀ j, j < pj_sz 17 → ∃ ty, parseFieldDescriptor (TX8 j).2.2.1 = some ty ∧ pj_ty (pj_tg 17 j) ty := fun j hj => ⟨_, tyX8_ok j hj, pj_tyb_ok ((by decide : ∀ j, j < 11 → pj_tyb (pj_tg 17 j) (tyX8 j) = true) j hj)⟩
theorem kc_18 : 10 ≤ 18 ∧ pj_so 18 = 0 ∧ ∃ T N, pj_cl[pj_ci 18]? = some (RX6, T, N) := ⟨by decide, rfl, _, _, rfl⟩
theorem kn_18 : Cond.instantiable RX6 (pj_sz 18) ∈ pj_T ∧ Cond.initialized RX6 ∈ pj_T := ⟨pj_tw1 (List.mem_of_getElem? (i := 217) rfl) rfl, pj_tw1 (List.mem_of_getElem? (i := 10) rfl) rfl⟩
theorem kt_18 : ∀ j, j < pj_sz 18 → ∃ ty, parseFieldDescriptor (TX6 j).2.2.1 = some ty ∧ pj_ty (pj_tg 18 j) ty := fun j hj => ⟨_, tyX6_ok j hj, pj_tyb_ok ((by decide : ∀ j, j < 5 → pj_tyb (pj_tg 18 j) (tyX6 j) = true) j hj)⟩
theorem kc_19 : 10 ≤ 19 ∧ pj_so 19 = 0 ∧ ∃ T N, pj_cl[pj_ci 19]? = some (RX0, T, N) := ⟨by decide, rfl, _, _, rfl⟩
theorem kn_19 : Cond.instantiable RX0 (pj_sz 19) ∈ pj_T ∧ Cond.initialized RX0 ∈ pj_T := ⟨pj_tw1 (List.mem_of_getElem? (i := 239) rfl) rfl, pj_tw1 (List.mem_of_getElem? (i := 11) rfl) rfl⟩
theorem kt_19 : ∀ j, j < pj_sz 19 → ∃ ty, parseFieldDescriptor (TX0 j).2.2.1 = some ty ∧ pj_ty (pj_tg 19 j) ty := fun j hj => ⟨_, tyX0_ok j hj, pj_tyb_ok ((by decide : ∀ j, j < 10 → pj_tyb (pj_tg 19 j) (tyX0 j) = true) j hj)⟩
theorem kc_22 : 10 ≤ 22 ∧ pj_so 22 = 0 ∧ ∃ T N, pj_cl[pj_ci 22]? = some (RX5, T, N) := ⟨by decide, rfl, _, _, rfl⟩
theorem kn_22 : Cond.instantiable RX5 (pj_sz 22) ∈ pj_T ∧ Cond.initialized RX5 ∈ pj_T := ⟨pj_tw2 (List.mem_of_getElem? (i := 8) rfl) rfl, pj_tw1 (List.mem_of_getElem? (i := 12) rfl) rfl⟩
theorem kt_22 : ∀ j, j < pj_sz 22 → ∃ ty, parseFieldDescriptor (TX5 j).2.2.1 = some ty ∧ pj_ty (pj_tg 22 j) ty := fun j hj => ⟨_, tyX5_ok j hj, pj_tyb_ok ((by decide : ∀ j, j < 6 → pj_tyb (pj_tg 22 j) (tyX5 j) = true) j hj)⟩
theorem kc_23 : 10 ≤ 23 ∧ pj_so 23 = 0 ∧ ∃ T N, pj_cl[pj_ci 23]? = some (RX4, T, N) := ⟨by decide, rfl, _, _, rfl⟩
theorem kn_23 : Cond.instantiable RX4 (pj_sz 23) ∈ pj_T ∧ Cond.initialized RX4 ∈ pj_T := ⟨pj_tw2 (List.mem_of_getElem? (i := 47) rfl) rfl, pj_tw1 (List.mem_of_getElem? (i := 13) rfl) rfl⟩
theorem kt_23 : ∀ j, j < pj_sz 23 → ∃ ty, parseFieldDescriptor (TX4 j).2.2.1 = some ty ∧ pj_ty (pj_tg 23 j) ty := fun j hj => ⟨_, tyX4_ok j hj, pj_tyb_ok ((by decide : ∀ j, j < 7 → pj_tyb (pj_tg 23 j) (tyX4 j) = true) j hj)⟩
theorem kc_24 : 10 ≤ 24 ∧ pj_so 24 = 0 ∧ ∃ T N, pj_cl[pj_ci 24]? = some (RX2, T, N) := ⟨by decide, rfl, _, _, rfl⟩
theorem kn_24 : Cond.instantiable RX2 (pj_sz 24) ∈ pj_T ∧ Cond.initialized RX2 ∈ pj_T := ⟨pj_tw2 (List.mem_of_getElem? (i := 148) rfl) rfl, pj_tw1 (List.mem_of_getElem? (i := 14) rfl) rfl⟩
theorem kt_24 : ∀ j, j < pj_sz 24 → ∃ ty, parseFieldDescriptor (TX2 j).2.2.1 = some ty ∧ pj_ty (pj_tg 24 j) ty := fun j hj => ⟨_, tyX2_ok j hj, pj_tyb_ok ((by decide : ∀ j, j < 8 → pj_tyb (pj_tg 24 j) (tyX2 j) = true) j hj)⟩
theorem kc_25 : 10 ≤ 25 ∧ pj_so 25 = 0 ∧ ∃ T N, pj_cl[pj_ci 25]? = some (RX9, T, N) := ⟨by decide, rfl, _, _, rfl⟩
theorem kn_25 : Cond.instantiable RX9 (pj_sz 25) ∈ pj_T ∧ Cond.initialized RX9 ∈ pj_T := ⟨pj_tw2 (List.mem_of_getElem? (i := 189) rfl) rfl, pj_tw1 (List.mem_of_getElem? (i := 15) rfl) rfl⟩
theorem kt_25 : ∀ j, j < pj_sz 25 → ∃ ty, parseFieldDescriptor (TX9 j).2.2.1 = some ty ∧ pj_ty (pj_tg 25 j) ty := fun j hj => ⟨_, tyX9_ok j hj, pj_tyb_ok ((by decide : ∀ j, j < 4 → pj_tyb (pj_tg 25 j) (tyX9 j) = true) j hj)⟩
theorem kc_26 : 10 ≤ 26 ∧ pj_so 26 = 0 ∧ ∃ T N, pj_cl[pj_ci 26]? = some (RX12, T, N) := ⟨by decide, rfl, _, _, rfl⟩
theorem kn_26 : Cond.instantiable RX12 (pj_sz 26) ∈ pj_T ∧ Cond.initialized RX12 ∈ pj_T := ⟨pj_tw6 (List.mem_of_getElem? (i := 191) rfl) rfl, pj_tw1 (List.mem_of_getElem? (i := 16) rfl) rfl⟩
theorem kt_26 : ∀ j, j < pj_sz 26 → ∃ ty, parseFieldDescriptor (TX12 j).2.2.1 = some ty ∧ pj_ty (pj_tg 26 j) ty := fun j hj => ⟨_, tyX12_ok j hj, pj_tyb_ok ((by decide : ∀ j, j < 38 → pj_tyb (pj_tg 26 j) (tyX12 j) = true) j hj)⟩
theorem kb_30 : pj_BA 30 := ⟨by decide, rfl, rfl, fun _ => rfl, fun _ _ => rfl⟩
theorem ki_31 : pj_IA 31 := ⟨by decide, rfl, rfl, fun _ => rfl, fun _ _ => rfl⟩
theorem ki_32 : pj_IA 32 := ⟨by decide, rfl, rfl, fun _ => rfl, fun _ _ => rfl⟩
theorem kl_33 : pj_LA 33 := ⟨by decide, rfl, rfl, fun _ => rfl, fun _ _ => rfl⟩
theorem kl_34 : pj_LA 34 := ⟨by decide, rfl, rfl, fun _ => rfl, fun _ _ => rfl⟩
theorem ki_35 : pj_IA 35 := ⟨by decide, rfl, rfl, fun _ => rfl, fun _ _ => rfl⟩
theorem ki_36 : pj_IA 36 := ⟨by decide, rfl, rfl, fun _ => rfl, fun _ _ => rfl⟩
theorem ki_37 : pj_IA 37 := ⟨by decide, rfl, rfl, fun _ => rfl, fun _ _ => rfl⟩
theorem ki_38 : pj_IA 38 := ⟨by decide, rfl, rfl, fun _ => rfl, fun _ _ => rfl⟩
theorem ki_39 : pj_IA 39 := ⟨by decide, rfl, rfl, fun _ => rfl, fun _ _ => rfl⟩
theorem ki_40 : pj_IA 40 := ⟨by decide, rfl, rfl, fun _ => rfl, fun _ _ => rfl⟩
theorem ki_41 : pj_IA 41 := ⟨by decide, rfl, rfl, fun _ => rfl, fun _ _ => rfl⟩
theorem ki_42 : pj_IA 42 := ⟨by decide, rfl, rfl, fun _ => rfl, fun _ _ => rfl⟩
theorem ki_43 : pj_IA 43 := ⟨by decide, rfl, rfl, fun _ => rfl, fun _ _ => rfl⟩
theorem ki_44 : pj_IA 44 := ⟨by decide, rfl, rfl, fun _ => rfl, fun _ _ => rfl⟩
theorem ki_45 : pj_IA 45 := ⟨by decide, rfl, rfl, fun _ => rfl, fun _ _ => rfl⟩
theorem ki_46 : pj_IA 46 := ⟨by decide, rfl, rfl, fun _ => rfl, fun _ _ => rfl⟩
theorem ki_47 : pj_IA 47 := ⟨by decide, rfl, rfl, fun _ => rfl, fun _ _ => rfl⟩
theorem ki_48 : pj_IA 48 := ⟨by decide, rfl, rfl, fun _ => rfl, fun _ _ => rfl⟩
theorem ki_49 : pj_IA 49 := ⟨by decide, rfl, rfl, fun _ => rfl, fun _ _ => rfl⟩
theorem ki_50 : pj_IA 50 := ⟨by decide, rfl, rfl, fun _ => rfl, fun _ _ => rfl⟩
theorem ki_51 : pj_IA 51 := ⟨by decide, rfl, rfl, fun _ => rfl, fun _ _ => rfl⟩
theorem kl_52 : pj_LA 52 := ⟨by decide, rfl, rfl, fun _ => rfl, fun _ _ => rfl⟩
theorem ki_60 : pj_IA 60 := ⟨by decide, rfl, rfl, fun _ => rfl, fun _ _ => rfl⟩
theorem kl_61 : pj_LA 61 := ⟨by decide, rfl, rfl, fun _ => rfl, fun _ _ => rfl⟩
theorem ki_62 : pj_IA 62 := ⟨by decide, rfl, rfl, fun _ => rfl, fun _ _ => rfl⟩
theorem ki_63 : pj_IA 63 := ⟨by decide, rfl, rfl, fun _ => rfl, fun _ _ => rfl⟩
theorem kl_64 : pj_LA 64 := ⟨by decide, rfl, rfl, fun _ => rfl, fun _ _ => rfl⟩
theorem kb_65 : pj_BA 65 := ⟨by decide, rfl, rfl, fun _ => rfl, fun _ _ => rfl⟩
theorem kb_66 : pj_BA 66 := ⟨by decide, rfl, rfl, fun _ => rfl, fun _ _ => rfl⟩
theorem ki_67 : pj_IA 67 := ⟨by decide, rfl, rfl, fun _ => rfl, fun _ _ => rfl⟩
theorem ki_68 : pj_IA 68 := ⟨by decide, rfl, rfl, fun _ => rfl, fun _ _ => rfl⟩
theorem ki_69 : pj_IA 69 := ⟨by decide, rfl, rfl, fun _ => rfl, fun _ _ => rfl⟩
theorem ki_70 : pj_IA 70 := ⟨by decide, rfl, rfl, fun _ => rfl, fun _ _ => rfl⟩
theorem ki_71 : pj_IA 71 := ⟨by decide, rfl, rfl, fun _ => rfl, fun _ _ => rfl⟩
theorem ki_72 : pj_IA 72 := ⟨by decide, rfl, rfl, fun _ => rfl, fun _ _ => rfl⟩
theorem ki_73 : pj_IA 73 := ⟨by decide, rfl, rfl, fun _ => rfl, fun _ _ => rfl⟩
theorem ki_74 : pj_IA 74 := ⟨by decide, rfl, rfl, fun _ => rfl, fun _ _ => rfl⟩
theorem mo_int : Cond.arrayClass .int ∈ pj_T := pj_tw1 (List.mem_of_getElem? (i := 130) rfl) rfl
theorem mo_byte : Cond.arrayClass .byte ∈ pj_T := pj_tw1 (List.mem_of_getElem? (i := 129) rfl) rfl
theorem mo_long : Cond.arrayClass .long ∈ pj_T := pj_tw1 (List.mem_of_getElem? (i := 131) rfl) rfl
