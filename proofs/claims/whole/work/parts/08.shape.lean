/-! the cells: of HeadRows 0 to 50, of the model 51 to 93, the law's out 94 -/
def shX : List SC := [.inr (11, [some 1, some 3, some 7, some 17, some 23, some 28, some 33, some 40, some 42, some 45]),
  .inr (2, [some 2, none, none]),
  .inl (.int, 192),
  .inr (5, [some 4, some 5, some 6, none]),
  .inl (.int, 412),
  .inl (.int, 412),
  .inl (.int, 221),
  .inr (6, [some 1, some 3, some 8, some 9, some 10, some 11, some 12, some 13, some 14, some 15, some 16, none, none]),
  .inl (.int, 192),
  .inl (.int, 24),
  .inl (.int, 24),
  .inl (.int, 192),
  .inl (.int, 192),
  .inl (.int, 24),
  .inl (.int, 24),
  .inl (.int, 24),
  .inl (.int, 192),
  .inr (8, [some 1, some 3, some 7, some 18, some 19, some 20, some 21, some 22, none, none, none]),
  .inl (.int, 192),
  .inl (.int, 192),
  .inl (.int, 192),
  .inl (.int, 192),
  .inl (.int, 192),
  .inr (3, [some 24, some 25, some 26, some 27, none]),
  .inl (.int, 60),
  .inl (.int, 60),
  .inl (.int, 60),
  .inl (.int, 60),
  .inr (0, [some 1, some 7, some 17, some 23, some 29, some 30, some 31, some 32, none, none]),
  .inl (.int, 192),
  .inl (.int, 192),
  .inl (.int, 192),
  .inl (.int, 9),
  .inr (1, [some 34, some 35, some 36, some 37, some 38, some 39, none, none]),
  .inl (.int, 3),
  .inl (.int, 3),
  .inl (.int, 8),
  .inl (.int, 8),
  .inl (.int, 8),
  .inl (.int, 8),
  .inr (9, [some 41, none, none, none, none, none]),
  .inl (.char, 1000),
  .inr (7, [some 40, some 43, some 44, none, none, none]),
  .inl (.int, 1000),
  .inl (.int, 4),
  .inr (4, [some 42, some 3, some 7, some 46, some 49, some 50, none, none, none]),
  .inr (10, [some 47, some 48, none, none, none, none, none, none, none]),
  .inl (.int, 413),
  .inl (.int, 413),
  .inl (.int, 84),
  .inl (.int, 84)]
def shM : List SC := [.inr (12, [none, some 52, none, none, some 53, some 54, some 55, none, none, some 56, none, some 57, some 58, some 59, some 60, none, none, none, none, none, some 61, some 62, none, some 63, some 64, some 65, some 66, none, some 67, some 68, some 69, some 70, some 71, some 72, none, some 73, some 74, none, none, some 75, some 76, some 77, some 78, none, some 79, some 80, some 81, some 82, some 83, some 84, some 85, some 86, some 87, some 88, none, some 89, none, some 90, some 91, some 92, none, some 93]),
  .inl (.int, 1000),
  .inl (.int, 1002),
  .inl (.int, 1002),
  .inl (.long, 1002),
  .inl (.long, 8),
  .inl (.int, 1100),
  .inl (.int, 1100),
  .inl (.int, 1100),
  .inl (.int, 1100),
  .inl (.int, 4100),
  .inl (.int, 4100),
  .inl (.int, 208),
  .inl (.int, 204),
  .inl (.int, 221),
  .inl (.boolean, 412),
  .inl (.int, 192),
  .inl (.int, 192),
  .inl (.int, 24),
  .inl (.int, 4608),
  .inl (.int, 24),
  .inl (.int, 24),
  .inl (.int, 84),
  .inl (.int, 84),
  .inl (.int, 192),
  .inl (.int, 192),
  .inl (.int, 192),
  .inl (.int, 192),
  .inl (.int, 60),
  .inl (.int, 60),
  .inl (.int, 60),
  .inl (.int, 60),
  .inl (.int, 192),
  .inl (.int, 576),
  .inl (.int, 192),
  .inl (.int, 3),
  .inl (.int, 3),
  .inl (.int, 60),
  .inl (.int, 3),
  .inl (.int, 8),
  .inl (.int, 8),
  .inl (.int, 8),
  .inl (.int, 3),
  .inl (.long, 1)]
def shF : List SC := shX ++ shM
theorem sx0 : shX[0]? = some (.inr (11, [some 1, some 3, some 7, some 17, some 23, some 28, some 33, some 40, some 42, some 45])) := rfl
theorem sx1 : shX[1]? = some (.inr (2, [some 2, none, none])) := rfl
theorem sx2 : shX[2]? = some (.inl (.int, 192)) := rfl
theorem sx3 : shX[3]? = some (.inr (5, [some 4, some 5, some 6, none])) := rfl
theorem sx4 : shX[4]? = some (.inl (.int, 412)) := rfl
theorem sx5 : shX[5]? = some (.inl (.int, 412)) := rfl
theorem sx6 : shX[6]? = some (.inl (.int, 221)) := rfl
theorem sx7 : shX[7]? = some (.inr (6, [some 1, some 3, some 8, some 9, some 10, some 11, some 12, some 13, some 14, some 15, some 16, none, none])) := rfl
theorem sx8 : shX[8]? = some (.inl (.int, 192)) := rfl
theorem sx9 : shX[9]? = some (.inl (.int, 24)) := rfl
theorem sx10 : shX[10]? = some (.inl (.int, 24)) := rfl
theorem sx11 : shX[11]? = some (.inl (.int, 192)) := rfl
theorem sx12 : shX[12]? = some (.inl (.int, 192)) := rfl
theorem sx13 : shX[13]? = some (.inl (.int, 24)) := rfl
theorem sx14 : shX[14]? = some (.inl (.int, 24)) := rfl
theorem sx15 : shX[15]? = some (.inl (.int, 24)) := rfl
theorem sx16 : shX[16]? = some (.inl (.int, 192)) := rfl
theorem sx17 : shX[17]? = some (.inr (8, [some 1, some 3, some 7, some 18, some 19, some 20, some 21, some 22, none, none, none])) := rfl
theorem sx18 : shX[18]? = some (.inl (.int, 192)) := rfl
theorem sx19 : shX[19]? = some (.inl (.int, 192)) := rfl
theorem sx20 : shX[20]? = some (.inl (.int, 192)) := rfl
theorem sx21 : shX[21]? = some (.inl (.int, 192)) := rfl
theorem sx22 : shX[22]? = some (.inl (.int, 192)) := rfl
theorem sx23 : shX[23]? = some (.inr (3, [some 24, some 25, some 26, some 27, none])) := rfl
theorem sx24 : shX[24]? = some (.inl (.int, 60)) := rfl
theorem sx25 : shX[25]? = some (.inl (.int, 60)) := rfl
theorem sx26 : shX[26]? = some (.inl (.int, 60)) := rfl
theorem sx27 : shX[27]? = some (.inl (.int, 60)) := rfl
theorem sx28 : shX[28]? = some (.inr (0, [some 1, some 7, some 17, some 23, some 29, some 30, some 31, some 32, none, none])) := rfl
theorem sx29 : shX[29]? = some (.inl (.int, 192)) := rfl
theorem sx30 : shX[30]? = some (.inl (.int, 192)) := rfl
theorem sx31 : shX[31]? = some (.inl (.int, 192)) := rfl
theorem sx32 : shX[32]? = some (.inl (.int, 9)) := rfl
theorem sx33 : shX[33]? = some (.inr (1, [some 34, some 35, some 36, some 37, some 38, some 39, none, none])) := rfl
theorem sx34 : shX[34]? = some (.inl (.int, 3)) := rfl
theorem sx35 : shX[35]? = some (.inl (.int, 3)) := rfl
theorem sx36 : shX[36]? = some (.inl (.int, 8)) := rfl
theorem sx37 : shX[37]? = some (.inl (.int, 8)) := rfl
theorem sx38 : shX[38]? = some (.inl (.int, 8)) := rfl
theorem sx39 : shX[39]? = some (.inl (.int, 8)) := rfl
theorem sx40 : shX[40]? = some (.inr (9, [some 41, none, none, none, none, none])) := rfl
theorem sx41 : shX[41]? = some (.inl (.char, 1000)) := rfl
theorem sx42 : shX[42]? = some (.inr (7, [some 40, some 43, some 44, none, none, none])) := rfl
theorem sx43 : shX[43]? = some (.inl (.int, 1000)) := rfl
theorem sx44 : shX[44]? = some (.inl (.int, 4)) := rfl
theorem sx45 : shX[45]? = some (.inr (4, [some 42, some 3, some 7, some 46, some 49, some 50, none, none, none])) := rfl
theorem sx46 : shX[46]? = some (.inr (10, [some 47, some 48, none, none, none, none, none, none, none])) := rfl
theorem sx47 : shX[47]? = some (.inl (.int, 413)) := rfl
theorem sx48 : shX[48]? = some (.inl (.int, 413)) := rfl
theorem sx49 : shX[49]? = some (.inl (.int, 84)) := rfl
theorem sx50 : shX[50]? = some (.inl (.int, 84)) := rfl
theorem sf51 : shF[51]? = some (.inr (12, [none, some 52, none, none, some 53, some 54, some 55, none, none, some 56, none, some 57, some 58, some 59, some 60, none, none, none, none, none, some 61, some 62, none, some 63, some 64, some 65, some 66, none, some 67, some 68, some 69, some 70, some 71, some 72, none, some 73, some 74, none, none, some 75, some 76, some 77, some 78, none, some 79, some 80, some 81, some 82, some 83, some 84, some 85, some 86, some 87, some 88, none, some 89, none, some 90, some 91, some 92, none, some 93])) := by decide +kernel
theorem sf52 : shF[52]? = some (.inl (.int, 1000)) := by decide +kernel
theorem sf53 : shF[53]? = some (.inl (.int, 1002)) := by decide +kernel
theorem sf54 : shF[54]? = some (.inl (.int, 1002)) := by decide +kernel
theorem sf55 : shF[55]? = some (.inl (.long, 1002)) := by decide +kernel
theorem sf56 : shF[56]? = some (.inl (.long, 8)) := by decide +kernel
theorem sf57 : shF[57]? = some (.inl (.int, 1100)) := by decide +kernel
theorem sf58 : shF[58]? = some (.inl (.int, 1100)) := by decide +kernel
theorem sf59 : shF[59]? = some (.inl (.int, 1100)) := by decide +kernel
theorem sf60 : shF[60]? = some (.inl (.int, 1100)) := by decide +kernel
theorem sf61 : shF[61]? = some (.inl (.int, 4100)) := by decide +kernel
theorem sf62 : shF[62]? = some (.inl (.int, 4100)) := by decide +kernel
theorem sf63 : shF[63]? = some (.inl (.int, 208)) := by decide +kernel
theorem sf64 : shF[64]? = some (.inl (.int, 204)) := by decide +kernel
theorem sf65 : shF[65]? = some (.inl (.int, 221)) := by decide +kernel
theorem sf66 : shF[66]? = some (.inl (.boolean, 412)) := by decide +kernel
theorem sf67 : shF[67]? = some (.inl (.int, 192)) := by decide +kernel
theorem sf68 : shF[68]? = some (.inl (.int, 192)) := by decide +kernel
theorem sf69 : shF[69]? = some (.inl (.int, 24)) := by decide +kernel
theorem sf70 : shF[70]? = some (.inl (.int, 4608)) := by decide +kernel
theorem sf71 : shF[71]? = some (.inl (.int, 24)) := by decide +kernel
theorem sf72 : shF[72]? = some (.inl (.int, 24)) := by decide +kernel
theorem sf73 : shF[73]? = some (.inl (.int, 84)) := by decide +kernel
theorem sf74 : shF[74]? = some (.inl (.int, 84)) := by decide +kernel
theorem sf75 : shF[75]? = some (.inl (.int, 192)) := by decide +kernel
theorem sf76 : shF[76]? = some (.inl (.int, 192)) := by decide +kernel
theorem sf77 : shF[77]? = some (.inl (.int, 192)) := by decide +kernel
theorem sf78 : shF[78]? = some (.inl (.int, 192)) := by decide +kernel
theorem sf79 : shF[79]? = some (.inl (.int, 60)) := by decide +kernel
theorem sf80 : shF[80]? = some (.inl (.int, 60)) := by decide +kernel
theorem sf81 : shF[81]? = some (.inl (.int, 60)) := by decide +kernel
theorem sf82 : shF[82]? = some (.inl (.int, 60)) := by decide +kernel
theorem sf83 : shF[83]? = some (.inl (.int, 192)) := by decide +kernel
theorem sf84 : shF[84]? = some (.inl (.int, 576)) := by decide +kernel
theorem sf85 : shF[85]? = some (.inl (.int, 192)) := by decide +kernel
theorem sf86 : shF[86]? = some (.inl (.int, 3)) := by decide +kernel
theorem sf87 : shF[87]? = some (.inl (.int, 3)) := by decide +kernel
theorem sf88 : shF[88]? = some (.inl (.int, 60)) := by decide +kernel
theorem sf89 : shF[89]? = some (.inl (.int, 3)) := by decide +kernel
theorem sf90 : shF[90]? = some (.inl (.int, 8)) := by decide +kernel
theorem sf91 : shF[91]? = some (.inl (.int, 8)) := by decide +kernel
theorem sf92 : shF[92]? = some (.inl (.int, 8)) := by decide +kernel
theorem sf93 : shF[93]? = some (.inl (.int, 3)) := by decide +kernel
theorem sf94 : shF[94]? = some (.inl (.long, 1)) := by decide +kernel
theorem rl_m2 : rng (-2) := by unfold rng; omega
theorem rl_m1 : rng (-1) := by unfold rng; omega
theorem rl_0 : rng 0 := by unfold rng; omega
theorem rl_1 : rng 1 := by unfold rng; omega
theorem rl_2 : rng 2 := by unfold rng; omega
theorem rl_3 : rng 3 := by unfold rng; omega
theorem rl_4 : rng 4 := by unfold rng; omega
theorem rl_5 : rng 5 := by unfold rng; omega
theorem rl_6 : rng 6 := by unfold rng; omega
theorem rl_7 : rng 7 := by unfold rng; omega
theorem rl_8 : rng 8 := by unfold rng; omega
theorem rl_9 : rng 9 := by unfold rng; omega
theorem rl_10 : rng 10 := by unfold rng; omega
theorem rl_11 : rng 11 := by unfold rng; omega
theorem rl_12 : rng 12 := by unfold rng; omega
theorem rl_13 : rng 13 := by unfold rng; omega
theorem rl_15 : rng 15 := by unfold rng; omega
theorem rl_16 : rng 16 := by unfold rng; omega
theorem rl_17 : rng 17 := by unfold rng; omega
theorem rl_20 : rng 20 := by unfold rng; omega
theorem rl_21 : rng 21 := by unfold rng; omega
theorem rl_24 : rng 24 := by unfold rng; omega
theorem rl_32 : rng 32 := by unfold rng; omega
theorem rl_40 : rng 40 := by unfold rng; omega
theorem rl_41 : rng 41 := by unfold rng; omega
theorem rl_48 : rng 48 := by unfold rng; omega
theorem rl_56 : rng 56 := by unfold rng; omega
theorem rl_57 : rng 57 := by unfold rng; omega
theorem rl_59 : rng 59 := by unfold rng; omega
theorem rl_60 : rng 60 := by unfold rng; omega
theorem rl_84 : rng 84 := by unfold rng; omega
theorem rl_96 : rng 96 := by unfold rng; omega
theorem rl_97 : rng 97 := by unfold rng; omega
theorem rl_99 : rng 99 := by unfold rng; omega
theorem rl_122 : rng 122 := by unfold rng; omega
theorem rl_126 : rng 126 := by unfold rng; omega
theorem rl_192 : rng 192 := by unfold rng; omega
theorem rl_200 : rng 200 := by unfold rng; omega
theorem rl_208 : rng 208 := by unfold rng; omega
theorem rl_221 : rng 221 := by unfold rng; omega
theorem rl_255 : rng 255 := by unfold rng; omega
theorem rl_412 : rng 412 := by unfold rng; omega
theorem rl_413 : rng 413 := by unfold rng; omega
theorem rl_1000 : rng 1000 := by unfold rng; omega
theorem rl_1024 : rng 1024 := by unfold rng; omega
theorem rl_2000 : rng 2000 := by unfold rng; omega
theorem rl_1000000 : rng 1000000 := by unfold rng; omega
theorem bp_m2 : (Int8.ofInt (-2)).toInt32 = Int32.ofInt (-2) := by decide +kernel
theorem bp_6 : (Int8.ofInt 6).toInt32 = Int32.ofInt 6 := by decide +kernel
theorem bp_7 : (Int8.ofInt 7).toInt32 = Int32.ofInt 7 := by decide +kernel
theorem bp_8 : (Int8.ofInt 8).toInt32 = Int32.ofInt 8 := by decide +kernel
theorem bp_9 : (Int8.ofInt 9).toInt32 = Int32.ofInt 9 := by decide +kernel
theorem bp_10 : (Int8.ofInt 10).toInt32 = Int32.ofInt 10 := by decide +kernel
theorem bp_11 : (Int8.ofInt 11).toInt32 = Int32.ofInt 11 := by decide +kernel
theorem bp_12 : (Int8.ofInt 12).toInt32 = Int32.ofInt 12 := by decide +kernel
theorem bp_13 : (Int8.ofInt 13).toInt32 = Int32.ofInt 13 := by decide +kernel
theorem bp_15 : (Int8.ofInt 15).toInt32 = Int32.ofInt 15 := by decide +kernel
theorem bp_16 : (Int8.ofInt 16).toInt32 = Int32.ofInt 16 := by decide +kernel
theorem bp_17 : (Int8.ofInt 17).toInt32 = Int32.ofInt 17 := by decide +kernel
theorem bp_20 : (Int8.ofInt 20).toInt32 = Int32.ofInt 20 := by decide +kernel
theorem bp_21 : (Int8.ofInt 21).toInt32 = Int32.ofInt 21 := by decide +kernel
theorem bp_24 : (Int8.ofInt 24).toInt32 = Int32.ofInt 24 := by decide +kernel
theorem bp_32 : (Int8.ofInt 32).toInt32 = Int32.ofInt 32 := by decide +kernel
theorem bp_40 : (Int8.ofInt 40).toInt32 = Int32.ofInt 40 := by decide +kernel
theorem bp_41 : (Int8.ofInt 41).toInt32 = Int32.ofInt 41 := by decide +kernel
theorem bp_48 : (Int8.ofInt 48).toInt32 = Int32.ofInt 48 := by decide +kernel
theorem bp_56 : (Int8.ofInt 56).toInt32 = Int32.ofInt 56 := by decide +kernel
theorem bp_57 : (Int8.ofInt 57).toInt32 = Int32.ofInt 57 := by decide +kernel
theorem bp_59 : (Int8.ofInt 59).toInt32 = Int32.ofInt 59 := by decide +kernel
theorem bp_60 : (Int8.ofInt 60).toInt32 = Int32.ofInt 60 := by decide +kernel
theorem bp_84 : (Int8.ofInt 84).toInt32 = Int32.ofInt 84 := by decide +kernel
theorem bp_96 : (Int8.ofInt 96).toInt32 = Int32.ofInt 96 := by decide +kernel
theorem bp_97 : (Int8.ofInt 97).toInt32 = Int32.ofInt 97 := by decide +kernel
theorem bp_99 : (Int8.ofInt 99).toInt32 = Int32.ofInt 99 := by decide +kernel
theorem bp_122 : (Int8.ofInt 122).toInt32 = Int32.ofInt 122 := by decide +kernel
theorem bp_126 : (Int8.ofInt 126).toInt32 = Int32.ofInt 126 := by decide +kernel
theorem sp_192 : (Int16.ofInt 192).toInt32 = Int32.ofInt 192 := by decide +kernel
theorem sp_200 : (Int16.ofInt 200).toInt32 = Int32.ofInt 200 := by decide +kernel
theorem sp_208 : (Int16.ofInt 208).toInt32 = Int32.ofInt 208 := by decide +kernel
theorem sp_221 : (Int16.ofInt 221).toInt32 = Int32.ofInt 221 := by decide +kernel
theorem sp_255 : (Int16.ofInt 255).toInt32 = Int32.ofInt 255 := by decide +kernel
theorem sp_412 : (Int16.ofInt 412).toInt32 = Int32.ofInt 412 := by decide +kernel
theorem sp_413 : (Int16.ofInt 413).toInt32 = Int32.ofInt 413 := by decide +kernel
theorem sp_1000 : (Int16.ofInt 1000).toInt32 = Int32.ofInt 1000 := by decide +kernel
theorem sp_1024 : (Int16.ofInt 1024).toInt32 = Int32.ofInt 1024 := by decide +kernel
theorem sp_2000 : (Int16.ofInt 2000).toInt32 = Int32.ofInt 2000 := by decide +kernel
