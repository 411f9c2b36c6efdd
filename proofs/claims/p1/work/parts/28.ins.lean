/-! Every instruction of the table is what the bytes say, and its entry what the words say. -/
set_option maxRecDepth 100000 in
theorem rz_R0_0 : rz_rng 0 0 80 = true := by decide +kernel
set_option maxRecDepth 100000 in
theorem rz_R0_1 : rz_rng 0 80 80 = true := by decide +kernel
set_option maxRecDepth 100000 in
theorem rz_R0_2 : rz_rng 0 160 80 = true := by decide +kernel
set_option maxRecDepth 100000 in
theorem rz_R0_3 : rz_rng 0 240 80 = true := by decide +kernel
set_option maxRecDepth 100000 in
theorem rz_R0_4 : rz_rng 0 320 80 = true := by decide +kernel
set_option maxRecDepth 100000 in
theorem rz_R0_5 : rz_rng 0 400 80 = true := by decide +kernel
set_option maxRecDepth 100000 in
theorem rz_R0_6 : rz_rng 0 480 80 = true := by decide +kernel
set_option maxRecDepth 100000 in
theorem rz_R0_7 : rz_rng 0 560 80 = true := by decide +kernel
set_option maxRecDepth 100000 in
theorem rz_R0_8 : rz_rng 0 640 80 = true := by decide +kernel
set_option maxRecDepth 100000 in
theorem rz_R0_9 : rz_rng 0 720 80 = true := by decide +kernel
set_option maxRecDepth 100000 in
theorem rz_R0_10 : rz_rng 0 800 80 = true := by decide +kernel
set_option maxRecDepth 100000 in
theorem rz_R0_11 : rz_rng 0 880 80 = true := by decide +kernel
set_option maxRecDepth 100000 in
theorem rz_R0_12 : rz_rng 0 960 80 = true := by decide +kernel
set_option maxRecDepth 100000 in
theorem rz_R0_13 : rz_rng 0 1040 80 = true := by decide +kernel
set_option maxRecDepth 100000 in
theorem rz_R0_14 : rz_rng 0 1120 80 = true := by decide +kernel
set_option maxRecDepth 100000 in
theorem rz_R0_15 : rz_rng 0 1200 80 = true := by decide +kernel
set_option maxRecDepth 100000 in
theorem rz_R0_16 : rz_rng 0 1280 80 = true := by decide +kernel
set_option maxRecDepth 100000 in
theorem rz_R0_17 : rz_rng 0 1360 80 = true := by decide +kernel
set_option maxRecDepth 100000 in
theorem rz_R0_18 : rz_rng 0 1440 80 = true := by decide +kernel
set_option maxRecDepth 100000 in
theorem rz_R0_19 : rz_rng 0 1520 80 = true := by decide +kernel
set_option maxRecDepth 100000 in
theorem rz_R0_20 : rz_rng 0 1600 24 = true := by decide +kernel
theorem rz_ok0 {pc : Nat} {q : rz_I} (h : pc < 1624) (hq : rz_code 0 pc = some q) : rz_okI 0 pc q = true := by
  rcases Nat.lt_or_ge pc 80 with c0 | c0
  · exact rz_rngS rz_R0_0 (by omega) (by omega) hq
  rcases Nat.lt_or_ge pc 160 with c1 | c1
  · exact rz_rngS rz_R0_1 (by omega) (by omega) hq
  rcases Nat.lt_or_ge pc 240 with c2 | c2
  · exact rz_rngS rz_R0_2 (by omega) (by omega) hq
  rcases Nat.lt_or_ge pc 320 with c3 | c3
  · exact rz_rngS rz_R0_3 (by omega) (by omega) hq
  rcases Nat.lt_or_ge pc 400 with c4 | c4
  · exact rz_rngS rz_R0_4 (by omega) (by omega) hq
  rcases Nat.lt_or_ge pc 480 with c5 | c5
  · exact rz_rngS rz_R0_5 (by omega) (by omega) hq
  rcases Nat.lt_or_ge pc 560 with c6 | c6
  · exact rz_rngS rz_R0_6 (by omega) (by omega) hq
  rcases Nat.lt_or_ge pc 640 with c7 | c7
  · exact rz_rngS rz_R0_7 (by omega) (by omega) hq
  rcases Nat.lt_or_ge pc 720 with c8 | c8
  · exact rz_rngS rz_R0_8 (by omega) (by omega) hq
  rcases Nat.lt_or_ge pc 800 with c9 | c9
  · exact rz_rngS rz_R0_9 (by omega) (by omega) hq
  rcases Nat.lt_or_ge pc 880 with c10 | c10
  · exact rz_rngS rz_R0_10 (by omega) (by omega) hq
  rcases Nat.lt_or_ge pc 960 with c11 | c11
  · exact rz_rngS rz_R0_11 (by omega) (by omega) hq
  rcases Nat.lt_or_ge pc 1040 with c12 | c12
  · exact rz_rngS rz_R0_12 (by omega) (by omega) hq
  rcases Nat.lt_or_ge pc 1120 with c13 | c13
  · exact rz_rngS rz_R0_13 (by omega) (by omega) hq
  rcases Nat.lt_or_ge pc 1200 with c14 | c14
  · exact rz_rngS rz_R0_14 (by omega) (by omega) hq
  rcases Nat.lt_or_ge pc 1280 with c15 | c15
  · exact rz_rngS rz_R0_15 (by omega) (by omega) hq
  rcases Nat.lt_or_ge pc 1360 with c16 | c16
  · exact rz_rngS rz_R0_16 (by omega) (by omega) hq
  rcases Nat.lt_or_ge pc 1440 with c17 | c17
  · exact rz_rngS rz_R0_17 (by omega) (by omega) hq
  rcases Nat.lt_or_ge pc 1520 with c18 | c18
  · exact rz_rngS rz_R0_18 (by omega) (by omega) hq
  rcases Nat.lt_or_ge pc 1600 with c19 | c19
  · exact rz_rngS rz_R0_19 (by omega) (by omega) hq
  exact rz_rngS rz_R0_20 (by omega) (by omega) hq
set_option maxRecDepth 100000 in
theorem rz_R1_0 : rz_rng 1 0 11 = true := by decide +kernel
theorem rz_ok1 {pc : Nat} {q : rz_I} (h : pc < 11) (hq : rz_code 1 pc = some q) : rz_okI 1 pc q = true := by
  exact rz_rngS rz_R1_0 (by omega) (by omega) hq
set_option maxRecDepth 100000 in
theorem rz_R2_0 : rz_rng 2 0 11 = true := by decide +kernel
theorem rz_ok2 {pc : Nat} {q : rz_I} (h : pc < 11) (hq : rz_code 2 pc = some q) : rz_okI 2 pc q = true := by
  exact rz_rngS rz_R2_0 (by omega) (by omega) hq
set_option maxRecDepth 100000 in
theorem rz_R3_0 : rz_rng 3 0 12 = true := by decide +kernel
theorem rz_ok3 {pc : Nat} {q : rz_I} (h : pc < 12) (hq : rz_code 3 pc = some q) : rz_okI 3 pc q = true := by
  exact rz_rngS rz_R3_0 (by omega) (by omega) hq
set_option maxRecDepth 100000 in
theorem rz_R4_0 : rz_rng 4 0 19 = true := by decide +kernel
theorem rz_ok4 {pc : Nat} {q : rz_I} (h : pc < 19) (hq : rz_code 4 pc = some q) : rz_okI 4 pc q = true := by
  exact rz_rngS rz_R4_0 (by omega) (by omega) hq
set_option maxRecDepth 100000 in
theorem rz_R5_0 : rz_rng 5 0 24 = true := by decide +kernel
theorem rz_ok5 {pc : Nat} {q : rz_I} (h : pc < 24) (hq : rz_code 5 pc = some q) : rz_okI 5 pc q = true := by
  exact rz_rngS rz_R5_0 (by omega) (by omega) hq
set_option maxRecDepth 100000 in
theorem rz_R6_0 : rz_rng 6 0 14 = true := by decide +kernel
theorem rz_ok6 {pc : Nat} {q : rz_I} (h : pc < 14) (hq : rz_code 6 pc = some q) : rz_okI 6 pc q = true := by
  exact rz_rngS rz_R6_0 (by omega) (by omega) hq
set_option maxRecDepth 100000 in
theorem rz_R7_0 : rz_rng 7 0 16 = true := by decide +kernel
theorem rz_ok7 {pc : Nat} {q : rz_I} (h : pc < 16) (hq : rz_code 7 pc = some q) : rz_okI 7 pc q = true := by
  exact rz_rngS rz_R7_0 (by omega) (by omega) hq
set_option maxRecDepth 100000 in
theorem rz_R8_0 : rz_rng 8 0 17 = true := by decide +kernel
theorem rz_ok8 {pc : Nat} {q : rz_I} (h : pc < 17) (hq : rz_code 8 pc = some q) : rz_okI 8 pc q = true := by
  exact rz_rngS rz_R8_0 (by omega) (by omega) hq
set_option maxRecDepth 100000 in
theorem rz_R9_0 : rz_rng 9 0 20 = true := by decide +kernel
theorem rz_ok9 {pc : Nat} {q : rz_I} (h : pc < 20) (hq : rz_code 9 pc = some q) : rz_okI 9 pc q = true := by
  exact rz_rngS rz_R9_0 (by omega) (by omega) hq
set_option maxRecDepth 100000 in
theorem rz_R10_0 : rz_rng 10 0 17 = true := by decide +kernel
theorem rz_ok10 {pc : Nat} {q : rz_I} (h : pc < 17) (hq : rz_code 10 pc = some q) : rz_okI 10 pc q = true := by
  exact rz_rngS rz_R10_0 (by omega) (by omega) hq
set_option maxRecDepth 100000 in
theorem rz_R11_0 : rz_rng 11 0 15 = true := by decide +kernel
theorem rz_ok11 {pc : Nat} {q : rz_I} (h : pc < 15) (hq : rz_code 11 pc = some q) : rz_okI 11 pc q = true := by
  exact rz_rngS rz_R11_0 (by omega) (by omega) hq
set_option maxRecDepth 100000 in
theorem rz_R12_0 : rz_rng 12 0 19 = true := by decide +kernel
theorem rz_ok12 {pc : Nat} {q : rz_I} (h : pc < 19) (hq : rz_code 12 pc = some q) : rz_okI 12 pc q = true := by
  exact rz_rngS rz_R12_0 (by omega) (by omega) hq
set_option maxRecDepth 100000 in
theorem rz_R13_0 : rz_rng 13 0 19 = true := by decide +kernel
theorem rz_ok13 {pc : Nat} {q : rz_I} (h : pc < 19) (hq : rz_code 13 pc = some q) : rz_okI 13 pc q = true := by
  exact rz_rngS rz_R13_0 (by omega) (by omega) hq
set_option maxRecDepth 100000 in
theorem rz_R14_0 : rz_rng 14 0 23 = true := by decide +kernel
theorem rz_ok14 {pc : Nat} {q : rz_I} (h : pc < 23) (hq : rz_code 14 pc = some q) : rz_okI 14 pc q = true := by
  exact rz_rngS rz_R14_0 (by omega) (by omega) hq
set_option maxRecDepth 100000 in
theorem rz_R15_0 : rz_rng 15 0 27 = true := by decide +kernel
theorem rz_ok15 {pc : Nat} {q : rz_I} (h : pc < 27) (hq : rz_code 15 pc = some q) : rz_okI 15 pc q = true := by
  exact rz_rngS rz_R15_0 (by omega) (by omega) hq
set_option maxRecDepth 100000 in
theorem rz_R16_0 : rz_rng 16 0 16 = true := by decide +kernel
theorem rz_ok16 {pc : Nat} {q : rz_I} (h : pc < 16) (hq : rz_code 16 pc = some q) : rz_okI 16 pc q = true := by
  exact rz_rngS rz_R16_0 (by omega) (by omega) hq
set_option maxRecDepth 100000 in
theorem rz_R17_0 : rz_rng 17 0 15 = true := by decide +kernel
theorem rz_ok17 {pc : Nat} {q : rz_I} (h : pc < 15) (hq : rz_code 17 pc = some q) : rz_okI 17 pc q = true := by
  exact rz_rngS rz_R17_0 (by omega) (by omega) hq
set_option maxRecDepth 100000 in
theorem rz_R18_0 : rz_rng 18 0 17 = true := by decide +kernel
theorem rz_ok18 {pc : Nat} {q : rz_I} (h : pc < 17) (hq : rz_code 18 pc = some q) : rz_okI 18 pc q = true := by
  exact rz_rngS rz_R18_0 (by omega) (by omega) hq
set_option maxRecDepth 100000 in
theorem rz_R19_0 : rz_rng 19 0 19 = true := by decide +kernel
theorem rz_ok19 {pc : Nat} {q : rz_I} (h : pc < 19) (hq : rz_code 19 pc = some q) : rz_okI 19 pc q = true := by
  exact rz_rngS rz_R19_0 (by omega) (by omega) hq
set_option maxRecDepth 100000 in
theorem rz_R20_0 : rz_rng 20 0 19 = true := by decide +kernel
theorem rz_ok20 {pc : Nat} {q : rz_I} (h : pc < 19) (hq : rz_code 20 pc = some q) : rz_okI 20 pc q = true := by
  exact rz_rngS rz_R20_0 (by omega) (by omega) hq
set_option maxRecDepth 100000 in
theorem rz_R21_0 : rz_rng 21 0 15 = true := by decide +kernel
theorem rz_ok21 {pc : Nat} {q : rz_I} (h : pc < 15) (hq : rz_code 21 pc = some q) : rz_okI 21 pc q = true := by
  exact rz_rngS rz_R21_0 (by omega) (by omega) hq
set_option maxRecDepth 100000 in
theorem rz_R22_0 : rz_rng 22 0 18 = true := by decide +kernel
theorem rz_ok22 {pc : Nat} {q : rz_I} (h : pc < 18) (hq : rz_code 22 pc = some q) : rz_okI 22 pc q = true := by
  exact rz_rngS rz_R22_0 (by omega) (by omega) hq
set_option maxRecDepth 100000 in
theorem rz_R23_0 : rz_rng 23 0 17 = true := by decide +kernel
theorem rz_ok23 {pc : Nat} {q : rz_I} (h : pc < 17) (hq : rz_code 23 pc = some q) : rz_okI 23 pc q = true := by
  exact rz_rngS rz_R23_0 (by omega) (by omega) hq
set_option maxRecDepth 100000 in
theorem rz_R24_0 : rz_rng 24 0 17 = true := by decide +kernel
theorem rz_ok24 {pc : Nat} {q : rz_I} (h : pc < 17) (hq : rz_code 24 pc = some q) : rz_okI 24 pc q = true := by
  exact rz_rngS rz_R24_0 (by omega) (by omega) hq
set_option maxRecDepth 100000 in
theorem rz_R25_0 : rz_rng 25 0 41 = true := by decide +kernel
theorem rz_ok25 {pc : Nat} {q : rz_I} (h : pc < 41) (hq : rz_code 25 pc = some q) : rz_okI 25 pc q = true := by
  exact rz_rngS rz_R25_0 (by omega) (by omega) hq
set_option maxRecDepth 100000 in
theorem rz_R26_0 : rz_rng 26 0 91 = true := by decide +kernel
theorem rz_ok26 {pc : Nat} {q : rz_I} (h : pc < 91) (hq : rz_code 26 pc = some q) : rz_okI 26 pc q = true := by
  exact rz_rngS rz_R26_0 (by omega) (by omega) hq
set_option maxRecDepth 100000 in
theorem rz_R27_0 : rz_rng 27 0 63 = true := by decide +kernel
theorem rz_ok27 {pc : Nat} {q : rz_I} (h : pc < 63) (hq : rz_code 27 pc = some q) : rz_okI 27 pc q = true := by
  exact rz_rngS rz_R27_0 (by omega) (by omega) hq
set_option maxRecDepth 100000 in
theorem rz_R28_0 : rz_rng 28 0 17 = true := by decide +kernel
theorem rz_ok28 {pc : Nat} {q : rz_I} (h : pc < 17) (hq : rz_code 28 pc = some q) : rz_okI 28 pc q = true := by
  exact rz_rngS rz_R28_0 (by omega) (by omega) hq
set_option maxRecDepth 100000 in
theorem rz_R29_0 : rz_rng 29 0 120 = true := by decide +kernel
set_option maxRecDepth 100000 in
theorem rz_R29_1 : rz_rng 29 120 1 = true := by decide +kernel
theorem rz_ok29 {pc : Nat} {q : rz_I} (h : pc < 121) (hq : rz_code 29 pc = some q) : rz_okI 29 pc q = true := by
  rcases Nat.lt_or_ge pc 120 with c0 | c0
  · exact rz_rngS rz_R29_0 (by omega) (by omega) hq
  exact rz_rngS rz_R29_1 (by omega) (by omega) hq
set_option maxRecDepth 100000 in
theorem rz_R30_0 : rz_rng 30 0 16 = true := by decide +kernel
theorem rz_ok30 {pc : Nat} {q : rz_I} (h : pc < 16) (hq : rz_code 30 pc = some q) : rz_okI 30 pc q = true := by
  exact rz_rngS rz_R30_0 (by omega) (by omega) hq
set_option maxRecDepth 100000 in
theorem rz_R31_0 : rz_rng 31 0 53 = true := by decide +kernel
theorem rz_ok31 {pc : Nat} {q : rz_I} (h : pc < 53) (hq : rz_code 31 pc = some q) : rz_okI 31 pc q = true := by
  exact rz_rngS rz_R31_0 (by omega) (by omega) hq
set_option maxRecDepth 100000 in
theorem rz_R32_0 : rz_rng 32 0 106 = true := by decide +kernel
theorem rz_ok32 {pc : Nat} {q : rz_I} (h : pc < 106) (hq : rz_code 32 pc = some q) : rz_okI 32 pc q = true := by
  exact rz_rngS rz_R32_0 (by omega) (by omega) hq
set_option maxRecDepth 100000 in
theorem rz_R33_0 : rz_rng 33 0 120 = true := by decide +kernel
set_option maxRecDepth 100000 in
theorem rz_R33_1 : rz_rng 33 120 78 = true := by decide +kernel
theorem rz_ok33 {pc : Nat} {q : rz_I} (h : pc < 198) (hq : rz_code 33 pc = some q) : rz_okI 33 pc q = true := by
  rcases Nat.lt_or_ge pc 120 with c0 | c0
  · exact rz_rngS rz_R33_0 (by omega) (by omega) hq
  exact rz_rngS rz_R33_1 (by omega) (by omega) hq
set_option maxRecDepth 100000 in
theorem rz_R34_0 : rz_rng 34 0 13 = true := by decide +kernel
theorem rz_ok34 {pc : Nat} {q : rz_I} (h : pc < 13) (hq : rz_code 34 pc = some q) : rz_okI 34 pc q = true := by
  exact rz_rngS rz_R34_0 (by omega) (by omega) hq
set_option maxRecDepth 100000 in
theorem rz_R35_0 : rz_rng 35 0 19 = true := by decide +kernel
theorem rz_ok35 {pc : Nat} {q : rz_I} (h : pc < 19) (hq : rz_code 35 pc = some q) : rz_okI 35 pc q = true := by
  exact rz_rngS rz_R35_0 (by omega) (by omega) hq
set_option maxRecDepth 100000 in
theorem rz_R36_0 : rz_rng 36 0 95 = true := by decide +kernel
theorem rz_ok36 {pc : Nat} {q : rz_I} (h : pc < 95) (hq : rz_code 36 pc = some q) : rz_okI 36 pc q = true := by
  exact rz_rngS rz_R36_0 (by omega) (by omega) hq
set_option maxRecDepth 100000 in
theorem rz_R37_0 : rz_rng 37 0 114 = true := by decide +kernel
theorem rz_ok37 {pc : Nat} {q : rz_I} (h : pc < 114) (hq : rz_code 37 pc = some q) : rz_okI 37 pc q = true := by
  exact rz_rngS rz_R37_0 (by omega) (by omega) hq
set_option maxRecDepth 100000 in
theorem rz_R38_0 : rz_rng 38 0 19 = true := by decide +kernel
theorem rz_ok38 {pc : Nat} {q : rz_I} (h : pc < 19) (hq : rz_code 38 pc = some q) : rz_okI 38 pc q = true := by
  exact rz_rngS rz_R38_0 (by omega) (by omega) hq
set_option maxRecDepth 100000 in
theorem rz_R39_0 : rz_rng 39 0 66 = true := by decide +kernel
theorem rz_ok39 {pc : Nat} {q : rz_I} (h : pc < 66) (hq : rz_code 39 pc = some q) : rz_okI 39 pc q = true := by
  exact rz_rngS rz_R39_0 (by omega) (by omega) hq
set_option maxRecDepth 100000 in
theorem rz_R40_0 : rz_rng 40 0 55 = true := by decide +kernel
theorem rz_ok40 {pc : Nat} {q : rz_I} (h : pc < 55) (hq : rz_code 40 pc = some q) : rz_okI 40 pc q = true := by
  exact rz_rngS rz_R40_0 (by omega) (by omega) hq
set_option maxRecDepth 100000 in
theorem rz_R41_0 : rz_rng 41 0 59 = true := by decide +kernel
theorem rz_ok41 {pc : Nat} {q : rz_I} (h : pc < 59) (hq : rz_code 41 pc = some q) : rz_okI 41 pc q = true := by
  exact rz_rngS rz_R41_0 (by omega) (by omega) hq
set_option maxRecDepth 100000 in
theorem rz_R42_0 : rz_rng 42 0 30 = true := by decide +kernel
theorem rz_ok42 {pc : Nat} {q : rz_I} (h : pc < 30) (hq : rz_code 42 pc = some q) : rz_okI 42 pc q = true := by
  exact rz_rngS rz_R42_0 (by omega) (by omega) hq
set_option maxRecDepth 100000 in
theorem rz_R43_0 : rz_rng 43 0 13 = true := by decide +kernel
theorem rz_ok43 {pc : Nat} {q : rz_I} (h : pc < 13) (hq : rz_code 43 pc = some q) : rz_okI 43 pc q = true := by
  exact rz_rngS rz_R43_0 (by omega) (by omega) hq
set_option maxRecDepth 100000 in
theorem rz_R44_0 : rz_rng 44 0 33 = true := by decide +kernel
theorem rz_ok44 {pc : Nat} {q : rz_I} (h : pc < 33) (hq : rz_code 44 pc = some q) : rz_okI 44 pc q = true := by
  exact rz_rngS rz_R44_0 (by omega) (by omega) hq
set_option maxRecDepth 100000 in
theorem rz_R45_0 : rz_rng 45 0 60 = true := by decide +kernel
theorem rz_ok45 {pc : Nat} {q : rz_I} (h : pc < 60) (hq : rz_code 45 pc = some q) : rz_okI 45 pc q = true := by
  exact rz_rngS rz_R45_0 (by omega) (by omega) hq
set_option maxRecDepth 100000 in
theorem rz_R46_0 : rz_rng 46 0 28 = true := by decide +kernel
theorem rz_ok46 {pc : Nat} {q : rz_I} (h : pc < 28) (hq : rz_code 46 pc = some q) : rz_okI 46 pc q = true := by
  exact rz_rngS rz_R46_0 (by omega) (by omega) hq
set_option maxRecDepth 100000 in
theorem rz_R47_0 : rz_rng 47 0 13 = true := by decide +kernel
theorem rz_ok47 {pc : Nat} {q : rz_I} (h : pc < 13) (hq : rz_code 47 pc = some q) : rz_okI 47 pc q = true := by
  exact rz_rngS rz_R47_0 (by omega) (by omega) hq
set_option maxRecDepth 100000 in
theorem rz_R48_0 : rz_rng 48 0 56 = true := by decide +kernel
theorem rz_ok48 {pc : Nat} {q : rz_I} (h : pc < 56) (hq : rz_code 48 pc = some q) : rz_okI 48 pc q = true := by
  exact rz_rngS rz_R48_0 (by omega) (by omega) hq
set_option maxRecDepth 100000 in
theorem rz_R49_0 : rz_rng 49 0 31 = true := by decide +kernel
theorem rz_ok49 {pc : Nat} {q : rz_I} (h : pc < 31) (hq : rz_code 49 pc = some q) : rz_okI 49 pc q = true := by
  exact rz_rngS rz_R49_0 (by omega) (by omega) hq
set_option maxRecDepth 100000 in
theorem rz_R50_0 : rz_rng 50 0 81 = true := by decide +kernel
theorem rz_ok50 {pc : Nat} {q : rz_I} (h : pc < 81) (hq : rz_code 50 pc = some q) : rz_okI 50 pc q = true := by
  exact rz_rngS rz_R50_0 (by omega) (by omega) hq
set_option maxRecDepth 100000 in
theorem rz_R51_0 : rz_rng 51 0 7 = true := by decide +kernel
theorem rz_ok51 {pc : Nat} {q : rz_I} (h : pc < 7) (hq : rz_code 51 pc = some q) : rz_okI 51 pc q = true := by
  exact rz_rngS rz_R51_0 (by omega) (by omega) hq
set_option maxRecDepth 100000 in
theorem rz_R52_0 : rz_rng 52 0 89 = true := by decide +kernel
theorem rz_ok52 {pc : Nat} {q : rz_I} (h : pc < 89) (hq : rz_code 52 pc = some q) : rz_okI 52 pc q = true := by
  exact rz_rngS rz_R52_0 (by omega) (by omega) hq
set_option maxRecDepth 100000 in
theorem rz_R53_0 : rz_rng 53 0 65 = true := by decide +kernel
theorem rz_ok53 {pc : Nat} {q : rz_I} (h : pc < 65) (hq : rz_code 53 pc = some q) : rz_okI 53 pc q = true := by
  exact rz_rngS rz_R53_0 (by omega) (by omega) hq
set_option maxRecDepth 100000 in
theorem rz_R54_0 : rz_rng 54 0 31 = true := by decide +kernel
theorem rz_ok54 {pc : Nat} {q : rz_I} (h : pc < 31) (hq : rz_code 54 pc = some q) : rz_okI 54 pc q = true := by
  exact rz_rngS rz_R54_0 (by omega) (by omega) hq
set_option maxRecDepth 100000 in
theorem rz_R55_0 : rz_rng 55 0 120 = true := by decide +kernel
set_option maxRecDepth 100000 in
theorem rz_R55_1 : rz_rng 55 120 39 = true := by decide +kernel
theorem rz_ok55 {pc : Nat} {q : rz_I} (h : pc < 159) (hq : rz_code 55 pc = some q) : rz_okI 55 pc q = true := by
  rcases Nat.lt_or_ge pc 120 with c0 | c0
  · exact rz_rngS rz_R55_0 (by omega) (by omega) hq
  exact rz_rngS rz_R55_1 (by omega) (by omega) hq
set_option maxRecDepth 100000 in
theorem rz_R56_0 : rz_rng 56 0 91 = true := by decide +kernel
theorem rz_ok56 {pc : Nat} {q : rz_I} (h : pc < 91) (hq : rz_code 56 pc = some q) : rz_okI 56 pc q = true := by
  exact rz_rngS rz_R56_0 (by omega) (by omega) hq
set_option maxRecDepth 100000 in
theorem rz_R57_0 : rz_rng 57 0 41 = true := by decide +kernel
theorem rz_ok57 {pc : Nat} {q : rz_I} (h : pc < 41) (hq : rz_code 57 pc = some q) : rz_okI 57 pc q = true := by
  exact rz_rngS rz_R57_0 (by omega) (by omega) hq
set_option maxRecDepth 100000 in
theorem rz_R58_0 : rz_rng 58 0 68 = true := by decide +kernel
theorem rz_ok58 {pc : Nat} {q : rz_I} (h : pc < 68) (hq : rz_code 58 pc = some q) : rz_okI 58 pc q = true := by
  exact rz_rngS rz_R58_0 (by omega) (by omega) hq
set_option maxRecDepth 100000 in
theorem rz_R59_0 : rz_rng 59 0 41 = true := by decide +kernel
theorem rz_ok59 {pc : Nat} {q : rz_I} (h : pc < 41) (hq : rz_code 59 pc = some q) : rz_okI 59 pc q = true := by
  exact rz_rngS rz_R59_0 (by omega) (by omega) hq
set_option maxRecDepth 100000 in
theorem rz_R60_0 : rz_rng 60 0 76 = true := by decide +kernel
theorem rz_ok60 {pc : Nat} {q : rz_I} (h : pc < 76) (hq : rz_code 60 pc = some q) : rz_okI 60 pc q = true := by
  exact rz_rngS rz_R60_0 (by omega) (by omega) hq
set_option maxRecDepth 100000 in
theorem rz_R61_0 : rz_rng 61 0 18 = true := by decide +kernel
theorem rz_ok61 {pc : Nat} {q : rz_I} (h : pc < 18) (hq : rz_code 61 pc = some q) : rz_okI 61 pc q = true := by
  exact rz_rngS rz_R61_0 (by omega) (by omega) hq
set_option maxRecDepth 100000 in
theorem rz_R62_0 : rz_rng 62 0 120 = true := by decide +kernel
set_option maxRecDepth 100000 in
theorem rz_R62_1 : rz_rng 62 120 120 = true := by decide +kernel
set_option maxRecDepth 100000 in
theorem rz_R62_2 : rz_rng 62 240 120 = true := by decide +kernel
set_option maxRecDepth 100000 in
theorem rz_R62_3 : rz_rng 62 360 9 = true := by decide +kernel
theorem rz_ok62 {pc : Nat} {q : rz_I} (h : pc < 369) (hq : rz_code 62 pc = some q) : rz_okI 62 pc q = true := by
  rcases Nat.lt_or_ge pc 120 with c0 | c0
  · exact rz_rngS rz_R62_0 (by omega) (by omega) hq
  rcases Nat.lt_or_ge pc 240 with c1 | c1
  · exact rz_rngS rz_R62_1 (by omega) (by omega) hq
  rcases Nat.lt_or_ge pc 360 with c2 | c2
  · exact rz_rngS rz_R62_2 (by omega) (by omega) hq
  exact rz_rngS rz_R62_3 (by omega) (by omega) hq
set_option maxRecDepth 100000 in
theorem rz_R63_0 : rz_rng 63 0 18 = true := by decide +kernel
theorem rz_ok63 {pc : Nat} {q : rz_I} (h : pc < 18) (hq : rz_code 63 pc = some q) : rz_okI 63 pc q = true := by
  exact rz_rngS rz_R63_0 (by omega) (by omega) hq
set_option maxRecDepth 100000 in
theorem rz_R64_0 : rz_rng 64 0 99 = true := by decide +kernel
theorem rz_ok64 {pc : Nat} {q : rz_I} (h : pc < 99) (hq : rz_code 64 pc = some q) : rz_okI 64 pc q = true := by
  exact rz_rngS rz_R64_0 (by omega) (by omega) hq
set_option maxRecDepth 100000 in
theorem rz_R65_0 : rz_rng 65 0 57 = true := by decide +kernel
theorem rz_ok65 {pc : Nat} {q : rz_I} (h : pc < 57) (hq : rz_code 65 pc = some q) : rz_okI 65 pc q = true := by
  exact rz_rngS rz_R65_0 (by omega) (by omega) hq
set_option maxRecDepth 100000 in
theorem rz_R66_0 : rz_rng 66 0 47 = true := by decide +kernel
theorem rz_ok66 {pc : Nat} {q : rz_I} (h : pc < 47) (hq : rz_code 66 pc = some q) : rz_okI 66 pc q = true := by
  exact rz_rngS rz_R66_0 (by omega) (by omega) hq
set_option maxRecDepth 100000 in
theorem rz_R67_0 : rz_rng 67 0 110 = true := by decide +kernel
theorem rz_ok67 {pc : Nat} {q : rz_I} (h : pc < 110) (hq : rz_code 67 pc = some q) : rz_okI 67 pc q = true := by
  exact rz_rngS rz_R67_0 (by omega) (by omega) hq
set_option maxRecDepth 100000 in
theorem rz_R68_0 : rz_rng 68 0 18 = true := by decide +kernel
theorem rz_ok68 {pc : Nat} {q : rz_I} (h : pc < 18) (hq : rz_code 68 pc = some q) : rz_okI 68 pc q = true := by
  exact rz_rngS rz_R68_0 (by omega) (by omega) hq
set_option maxRecDepth 100000 in
theorem rz_R69_0 : rz_rng 69 0 28 = true := by decide +kernel
theorem rz_ok69 {pc : Nat} {q : rz_I} (h : pc < 28) (hq : rz_code 69 pc = some q) : rz_okI 69 pc q = true := by
  exact rz_rngS rz_R69_0 (by omega) (by omega) hq
set_option maxRecDepth 100000 in
theorem rz_R70_0 : rz_rng 70 0 56 = true := by decide +kernel
theorem rz_ok70 {pc : Nat} {q : rz_I} (h : pc < 56) (hq : rz_code 70 pc = some q) : rz_okI 70 pc q = true := by
  exact rz_rngS rz_R70_0 (by omega) (by omega) hq
set_option maxRecDepth 100000 in
theorem rz_R71_0 : rz_rng 71 0 29 = true := by decide +kernel
theorem rz_ok71 {pc : Nat} {q : rz_I} (h : pc < 29) (hq : rz_code 71 pc = some q) : rz_okI 71 pc q = true := by
  exact rz_rngS rz_R71_0 (by omega) (by omega) hq
set_option maxRecDepth 100000 in
theorem rz_R72_0 : rz_rng 72 0 89 = true := by decide +kernel
theorem rz_ok72 {pc : Nat} {q : rz_I} (h : pc < 89) (hq : rz_code 72 pc = some q) : rz_okI 72 pc q = true := by
  exact rz_rngS rz_R72_0 (by omega) (by omega) hq
set_option maxRecDepth 100000 in
theorem rz_R73_0 : rz_rng 73 0 43 = true := by decide +kernel
theorem rz_ok73 {pc : Nat} {q : rz_I} (h : pc < 43) (hq : rz_code 73 pc = some q) : rz_okI 73 pc q = true := by
  exact rz_rngS rz_R73_0 (by omega) (by omega) hq
set_option maxRecDepth 100000 in
theorem rz_R74_0 : rz_rng 74 0 18 = true := by decide +kernel
theorem rz_ok74 {pc : Nat} {q : rz_I} (h : pc < 18) (hq : rz_code 74 pc = some q) : rz_okI 74 pc q = true := by
  exact rz_rngS rz_R74_0 (by omega) (by omega) hq
set_option maxRecDepth 100000 in
theorem rz_R75_0 : rz_rng 75 0 30 = true := by decide +kernel
theorem rz_ok75 {pc : Nat} {q : rz_I} (h : pc < 30) (hq : rz_code 75 pc = some q) : rz_okI 75 pc q = true := by
  exact rz_rngS rz_R75_0 (by omega) (by omega) hq
set_option maxRecDepth 100000 in
theorem rz_R76_0 : rz_rng 76 0 60 = true := by decide +kernel
theorem rz_ok76 {pc : Nat} {q : rz_I} (h : pc < 60) (hq : rz_code 76 pc = some q) : rz_okI 76 pc q = true := by
  exact rz_rngS rz_R76_0 (by omega) (by omega) hq
set_option maxRecDepth 100000 in
theorem rz_R77_0 : rz_rng 77 0 60 = true := by decide +kernel
theorem rz_ok77 {pc : Nat} {q : rz_I} (h : pc < 60) (hq : rz_code 77 pc = some q) : rz_okI 77 pc q = true := by
  exact rz_rngS rz_R77_0 (by omega) (by omega) hq
set_option maxRecDepth 100000 in
theorem rz_R78_0 : rz_rng 78 0 40 = true := by decide +kernel
theorem rz_ok78 {pc : Nat} {q : rz_I} (h : pc < 40) (hq : rz_code 78 pc = some q) : rz_okI 78 pc q = true := by
  exact rz_rngS rz_R78_0 (by omega) (by omega) hq
set_option maxRecDepth 100000 in
theorem rz_R79_0 : rz_rng 79 0 78 = true := by decide +kernel
theorem rz_ok79 {pc : Nat} {q : rz_I} (h : pc < 78) (hq : rz_code 79 pc = some q) : rz_okI 79 pc q = true := by
  exact rz_rngS rz_R79_0 (by omega) (by omega) hq
set_option maxRecDepth 100000 in
theorem rz_R80_0 : rz_rng 80 0 27 = true := by decide +kernel
theorem rz_ok80 {pc : Nat} {q : rz_I} (h : pc < 27) (hq : rz_code 80 pc = some q) : rz_okI 80 pc q = true := by
  exact rz_rngS rz_R80_0 (by omega) (by omega) hq
set_option maxRecDepth 100000 in
theorem rz_R81_0 : rz_rng 81 0 47 = true := by decide +kernel
theorem rz_ok81 {pc : Nat} {q : rz_I} (h : pc < 47) (hq : rz_code 81 pc = some q) : rz_okI 81 pc q = true := by
  exact rz_rngS rz_R81_0 (by omega) (by omega) hq
set_option maxRecDepth 100000 in
theorem rz_R82_0 : rz_rng 82 0 28 = true := by decide +kernel
theorem rz_ok82 {pc : Nat} {q : rz_I} (h : pc < 28) (hq : rz_code 82 pc = some q) : rz_okI 82 pc q = true := by
  exact rz_rngS rz_R82_0 (by omega) (by omega) hq
set_option maxRecDepth 100000 in
theorem rz_R83_0 : rz_rng 83 0 5 = true := by decide +kernel
theorem rz_ok83 {pc : Nat} {q : rz_I} (h : pc < 5) (hq : rz_code 83 pc = some q) : rz_okI 83 pc q = true := by
  exact rz_rngS rz_R83_0 (by omega) (by omega) hq
set_option maxRecDepth 100000 in
theorem rz_R84_0 : rz_rng 84 0 120 = true := by decide +kernel
set_option maxRecDepth 100000 in
theorem rz_R84_1 : rz_rng 84 120 38 = true := by decide +kernel
theorem rz_ok84 {pc : Nat} {q : rz_I} (h : pc < 158) (hq : rz_code 84 pc = some q) : rz_okI 84 pc q = true := by
  rcases Nat.lt_or_ge pc 120 with c0 | c0
  · exact rz_rngS rz_R84_0 (by omega) (by omega) hq
  exact rz_rngS rz_R84_1 (by omega) (by omega) hq
set_option maxRecDepth 100000 in
theorem rz_R85_0 : rz_rng 85 0 14 = true := by decide +kernel
theorem rz_ok85 {pc : Nat} {q : rz_I} (h : pc < 14) (hq : rz_code 85 pc = some q) : rz_okI 85 pc q = true := by
  exact rz_rngS rz_R85_0 (by omega) (by omega) hq
set_option maxRecDepth 100000 in
theorem rz_R86_0 : rz_rng 86 0 65 = true := by decide +kernel
theorem rz_ok86 {pc : Nat} {q : rz_I} (h : pc < 65) (hq : rz_code 86 pc = some q) : rz_okI 86 pc q = true := by
  exact rz_rngS rz_R86_0 (by omega) (by omega) hq
set_option maxRecDepth 100000 in
theorem rz_R87_0 : rz_rng 87 0 53 = true := by decide +kernel
theorem rz_ok87 {pc : Nat} {q : rz_I} (h : pc < 53) (hq : rz_code 87 pc = some q) : rz_okI 87 pc q = true := by
  exact rz_rngS rz_R87_0 (by omega) (by omega) hq
set_option maxRecDepth 100000 in
theorem rz_R88_0 : rz_rng 88 0 90 = true := by decide +kernel
theorem rz_ok88 {pc : Nat} {q : rz_I} (h : pc < 90) (hq : rz_code 88 pc = some q) : rz_okI 88 pc q = true := by
  exact rz_rngS rz_R88_0 (by omega) (by omega) hq
set_option maxRecDepth 100000 in
theorem rz_R89_0 : rz_rng 89 0 40 = true := by decide +kernel
theorem rz_ok89 {pc : Nat} {q : rz_I} (h : pc < 40) (hq : rz_code 89 pc = some q) : rz_okI 89 pc q = true := by
  exact rz_rngS rz_R89_0 (by omega) (by omega) hq
set_option maxRecDepth 100000 in
theorem rz_R90_0 : rz_rng 90 0 56 = true := by decide +kernel
theorem rz_ok90 {pc : Nat} {q : rz_I} (h : pc < 56) (hq : rz_code 90 pc = some q) : rz_okI 90 pc q = true := by
  exact rz_rngS rz_R90_0 (by omega) (by omega) hq
set_option maxRecDepth 100000 in
theorem rz_R91_0 : rz_rng 91 0 54 = true := by decide +kernel
theorem rz_ok91 {pc : Nat} {q : rz_I} (h : pc < 54) (hq : rz_code 91 pc = some q) : rz_okI 91 pc q = true := by
  exact rz_rngS rz_R91_0 (by omega) (by omega) hq
set_option maxRecDepth 100000 in
theorem rz_R92_0 : rz_rng 92 0 42 = true := by decide +kernel
theorem rz_ok92 {pc : Nat} {q : rz_I} (h : pc < 42) (hq : rz_code 92 pc = some q) : rz_okI 92 pc q = true := by
  exact rz_rngS rz_R92_0 (by omega) (by omega) hq
set_option maxRecDepth 100000 in
theorem rz_R93_0 : rz_rng 93 0 94 = true := by decide +kernel
theorem rz_ok93 {pc : Nat} {q : rz_I} (h : pc < 94) (hq : rz_code 93 pc = some q) : rz_okI 93 pc q = true := by
  exact rz_rngS rz_R93_0 (by omega) (by omega) hq
set_option maxRecDepth 100000 in
theorem rz_R94_0 : rz_rng 94 0 19 = true := by decide +kernel
theorem rz_ok94 {pc : Nat} {q : rz_I} (h : pc < 19) (hq : rz_code 94 pc = some q) : rz_okI 94 pc q = true := by
  exact rz_rngS rz_R94_0 (by omega) (by omega) hq
set_option maxRecDepth 100000 in
theorem rz_R95_0 : rz_rng 95 0 20 = true := by decide +kernel
theorem rz_ok95 {pc : Nat} {q : rz_I} (h : pc < 20) (hq : rz_code 95 pc = some q) : rz_okI 95 pc q = true := by
  exact rz_rngS rz_R95_0 (by omega) (by omega) hq
set_option maxRecDepth 100000 in
theorem rz_R96_0 : rz_rng 96 0 41 = true := by decide +kernel
theorem rz_ok96 {pc : Nat} {q : rz_I} (h : pc < 41) (hq : rz_code 96 pc = some q) : rz_okI 96 pc q = true := by
  exact rz_rngS rz_R96_0 (by omega) (by omega) hq
set_option maxRecDepth 100000 in
theorem rz_R97_0 : rz_rng 97 0 47 = true := by decide +kernel
theorem rz_ok97 {pc : Nat} {q : rz_I} (h : pc < 47) (hq : rz_code 97 pc = some q) : rz_okI 97 pc q = true := by
  exact rz_rngS rz_R97_0 (by omega) (by omega) hq
set_option maxRecDepth 100000 in
theorem rz_R98_0 : rz_rng 98 0 24 = true := by decide +kernel
theorem rz_ok98 {pc : Nat} {q : rz_I} (h : pc < 24) (hq : rz_code 98 pc = some q) : rz_okI 98 pc q = true := by
  exact rz_rngS rz_R98_0 (by omega) (by omega) hq
set_option maxRecDepth 100000 in
theorem rz_R99_0 : rz_rng 99 0 11 = true := by decide +kernel
theorem rz_ok99 {pc : Nat} {q : rz_I} (h : pc < 11) (hq : rz_code 99 pc = some q) : rz_okI 99 pc q = true := by
  exact rz_rngS rz_R99_0 (by omega) (by omega) hq
set_option maxRecDepth 100000 in
theorem rz_R100_0 : rz_rng 100 0 90 = true := by decide +kernel
theorem rz_ok100 {pc : Nat} {q : rz_I} (h : pc < 90) (hq : rz_code 100 pc = some q) : rz_okI 100 pc q = true := by
  exact rz_rngS rz_R100_0 (by omega) (by omega) hq
set_option maxRecDepth 100000 in
theorem rz_R101_0 : rz_rng 101 0 31 = true := by decide +kernel
theorem rz_ok101 {pc : Nat} {q : rz_I} (h : pc < 31) (hq : rz_code 101 pc = some q) : rz_okI 101 pc q = true := by
  exact rz_rngS rz_R101_0 (by omega) (by omega) hq
set_option maxRecDepth 100000 in
theorem rz_R102_0 : rz_rng 102 0 33 = true := by decide +kernel
theorem rz_ok102 {pc : Nat} {q : rz_I} (h : pc < 33) (hq : rz_code 102 pc = some q) : rz_okI 102 pc q = true := by
  exact rz_rngS rz_R102_0 (by omega) (by omega) hq
set_option maxRecDepth 100000 in
theorem rz_R103_0 : rz_rng 103 0 34 = true := by decide +kernel
theorem rz_ok103 {pc : Nat} {q : rz_I} (h : pc < 34) (hq : rz_code 103 pc = some q) : rz_okI 103 pc q = true := by
  exact rz_rngS rz_R103_0 (by omega) (by omega) hq
set_option maxRecDepth 100000 in
theorem rz_R104_0 : rz_rng 104 0 31 = true := by decide +kernel
theorem rz_ok104 {pc : Nat} {q : rz_I} (h : pc < 31) (hq : rz_code 104 pc = some q) : rz_okI 104 pc q = true := by
  exact rz_rngS rz_R104_0 (by omega) (by omega) hq
set_option maxRecDepth 100000 in
theorem rz_R105_0 : rz_rng 105 0 56 = true := by decide +kernel
theorem rz_ok105 {pc : Nat} {q : rz_I} (h : pc < 56) (hq : rz_code 105 pc = some q) : rz_okI 105 pc q = true := by
  exact rz_rngS rz_R105_0 (by omega) (by omega) hq
set_option maxRecDepth 100000 in
theorem rz_R106_0 : rz_rng 106 0 116 = true := by decide +kernel
theorem rz_ok106 {pc : Nat} {q : rz_I} (h : pc < 116) (hq : rz_code 106 pc = some q) : rz_okI 106 pc q = true := by
  exact rz_rngS rz_R106_0 (by omega) (by omega) hq
set_option maxRecDepth 100000 in
theorem rz_R107_0 : rz_rng 107 0 51 = true := by decide +kernel
theorem rz_ok107 {pc : Nat} {q : rz_I} (h : pc < 51) (hq : rz_code 107 pc = some q) : rz_okI 107 pc q = true := by
  exact rz_rngS rz_R107_0 (by omega) (by omega) hq
theorem rz_codeS {m pc : Nat} {q : rz_I} (h : rz_code m pc = some q) : m < 108 ∧ pc < rz_sz m := by
  unfold rz_code at h
  obtain ⟨h1, -⟩ := rz_bif h
  rw [Bool.and_eq_true] at h1
  exact ⟨Nat.blt_eq.mp h1.1, Nat.blt_eq.mp h1.2⟩
set_option maxRecDepth 100000 in
theorem rz_okAll {m pc : Nat} {q : rz_I} (hq : rz_code m pc = some q) : rz_okI m pc q = true := by
  obtain ⟨h1, h2⟩ := rz_codeS hq
  match m, h1, h2, hq with
  | 0, _, h2, hq => exact rz_ok0 h2 hq
  | 1, _, h2, hq => exact rz_ok1 h2 hq
  | 2, _, h2, hq => exact rz_ok2 h2 hq
  | 3, _, h2, hq => exact rz_ok3 h2 hq
  | 4, _, h2, hq => exact rz_ok4 h2 hq
  | 5, _, h2, hq => exact rz_ok5 h2 hq
  | 6, _, h2, hq => exact rz_ok6 h2 hq
  | 7, _, h2, hq => exact rz_ok7 h2 hq
  | 8, _, h2, hq => exact rz_ok8 h2 hq
  | 9, _, h2, hq => exact rz_ok9 h2 hq
  | 10, _, h2, hq => exact rz_ok10 h2 hq
  | 11, _, h2, hq => exact rz_ok11 h2 hq
  | 12, _, h2, hq => exact rz_ok12 h2 hq
  | 13, _, h2, hq => exact rz_ok13 h2 hq
  | 14, _, h2, hq => exact rz_ok14 h2 hq
  | 15, _, h2, hq => exact rz_ok15 h2 hq
  | 16, _, h2, hq => exact rz_ok16 h2 hq
  | 17, _, h2, hq => exact rz_ok17 h2 hq
  | 18, _, h2, hq => exact rz_ok18 h2 hq
  | 19, _, h2, hq => exact rz_ok19 h2 hq
  | 20, _, h2, hq => exact rz_ok20 h2 hq
  | 21, _, h2, hq => exact rz_ok21 h2 hq
  | 22, _, h2, hq => exact rz_ok22 h2 hq
  | 23, _, h2, hq => exact rz_ok23 h2 hq
  | 24, _, h2, hq => exact rz_ok24 h2 hq
  | 25, _, h2, hq => exact rz_ok25 h2 hq
  | 26, _, h2, hq => exact rz_ok26 h2 hq
  | 27, _, h2, hq => exact rz_ok27 h2 hq
  | 28, _, h2, hq => exact rz_ok28 h2 hq
  | 29, _, h2, hq => exact rz_ok29 h2 hq
  | 30, _, h2, hq => exact rz_ok30 h2 hq
  | 31, _, h2, hq => exact rz_ok31 h2 hq
  | 32, _, h2, hq => exact rz_ok32 h2 hq
  | 33, _, h2, hq => exact rz_ok33 h2 hq
  | 34, _, h2, hq => exact rz_ok34 h2 hq
  | 35, _, h2, hq => exact rz_ok35 h2 hq
  | 36, _, h2, hq => exact rz_ok36 h2 hq
  | 37, _, h2, hq => exact rz_ok37 h2 hq
  | 38, _, h2, hq => exact rz_ok38 h2 hq
  | 39, _, h2, hq => exact rz_ok39 h2 hq
  | 40, _, h2, hq => exact rz_ok40 h2 hq
  | 41, _, h2, hq => exact rz_ok41 h2 hq
  | 42, _, h2, hq => exact rz_ok42 h2 hq
  | 43, _, h2, hq => exact rz_ok43 h2 hq
  | 44, _, h2, hq => exact rz_ok44 h2 hq
  | 45, _, h2, hq => exact rz_ok45 h2 hq
  | 46, _, h2, hq => exact rz_ok46 h2 hq
  | 47, _, h2, hq => exact rz_ok47 h2 hq
  | 48, _, h2, hq => exact rz_ok48 h2 hq
  | 49, _, h2, hq => exact rz_ok49 h2 hq
  | 50, _, h2, hq => exact rz_ok50 h2 hq
  | 51, _, h2, hq => exact rz_ok51 h2 hq
  | 52, _, h2, hq => exact rz_ok52 h2 hq
  | 53, _, h2, hq => exact rz_ok53 h2 hq
  | 54, _, h2, hq => exact rz_ok54 h2 hq
  | 55, _, h2, hq => exact rz_ok55 h2 hq
  | 56, _, h2, hq => exact rz_ok56 h2 hq
  | 57, _, h2, hq => exact rz_ok57 h2 hq
  | 58, _, h2, hq => exact rz_ok58 h2 hq
  | 59, _, h2, hq => exact rz_ok59 h2 hq
  | 60, _, h2, hq => exact rz_ok60 h2 hq
  | 61, _, h2, hq => exact rz_ok61 h2 hq
  | 62, _, h2, hq => exact rz_ok62 h2 hq
  | 63, _, h2, hq => exact rz_ok63 h2 hq
  | 64, _, h2, hq => exact rz_ok64 h2 hq
  | 65, _, h2, hq => exact rz_ok65 h2 hq
  | 66, _, h2, hq => exact rz_ok66 h2 hq
  | 67, _, h2, hq => exact rz_ok67 h2 hq
  | 68, _, h2, hq => exact rz_ok68 h2 hq
  | 69, _, h2, hq => exact rz_ok69 h2 hq
  | 70, _, h2, hq => exact rz_ok70 h2 hq
  | 71, _, h2, hq => exact rz_ok71 h2 hq
  | 72, _, h2, hq => exact rz_ok72 h2 hq
  | 73, _, h2, hq => exact rz_ok73 h2 hq
  | 74, _, h2, hq => exact rz_ok74 h2 hq
  | 75, _, h2, hq => exact rz_ok75 h2 hq
  | 76, _, h2, hq => exact rz_ok76 h2 hq
  | 77, _, h2, hq => exact rz_ok77 h2 hq
  | 78, _, h2, hq => exact rz_ok78 h2 hq
  | 79, _, h2, hq => exact rz_ok79 h2 hq
  | 80, _, h2, hq => exact rz_ok80 h2 hq
  | 81, _, h2, hq => exact rz_ok81 h2 hq
  | 82, _, h2, hq => exact rz_ok82 h2 hq
  | 83, _, h2, hq => exact rz_ok83 h2 hq
  | 84, _, h2, hq => exact rz_ok84 h2 hq
  | 85, _, h2, hq => exact rz_ok85 h2 hq
  | 86, _, h2, hq => exact rz_ok86 h2 hq
  | 87, _, h2, hq => exact rz_ok87 h2 hq
  | 88, _, h2, hq => exact rz_ok88 h2 hq
  | 89, _, h2, hq => exact rz_ok89 h2 hq
  | 90, _, h2, hq => exact rz_ok90 h2 hq
  | 91, _, h2, hq => exact rz_ok91 h2 hq
  | 92, _, h2, hq => exact rz_ok92 h2 hq
  | 93, _, h2, hq => exact rz_ok93 h2 hq
  | 94, _, h2, hq => exact rz_ok94 h2 hq
  | 95, _, h2, hq => exact rz_ok95 h2 hq
  | 96, _, h2, hq => exact rz_ok96 h2 hq
  | 97, _, h2, hq => exact rz_ok97 h2 hq
  | 98, _, h2, hq => exact rz_ok98 h2 hq
  | 99, _, h2, hq => exact rz_ok99 h2 hq
  | 100, _, h2, hq => exact rz_ok100 h2 hq
  | 101, _, h2, hq => exact rz_ok101 h2 hq
  | 102, _, h2, hq => exact rz_ok102 h2 hq
  | 103, _, h2, hq => exact rz_ok103 h2 hq
  | 104, _, h2, hq => exact rz_ok104 h2 hq
  | 105, _, h2, hq => exact rz_ok105 h2 hq
  | 106, _, h2, hq => exact rz_ok106 h2 hq
  | 107, _, h2, hq => exact rz_ok107 h2 hq
  | n + 108, h1, _, _ => exact absurd h1 (by omega)
