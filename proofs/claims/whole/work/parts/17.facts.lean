/-! facts of the tables, by program: field links, methods, method links, constants; the cells that are there -/
theorem fl_X4_9 : xfl RX4 9 4 0 0 := ⟨by decide, by decide, by decide +kernel, (xgt_at 102 (by decide +kernel) (by decide +kernel))⟩
theorem fl_X5_320 : xfl RX5 320 4 0 0 := ⟨by decide, by decide, by decide +kernel, (xgt_at 103 (by decide +kernel) (by decide +kernel))⟩
theorem fl_X4_17 : xfl RX4 17 4 1 1 := ⟨by decide, by decide, by decide +kernel, (xgt_at 104 (by decide +kernel) (by decide +kernel))⟩
theorem fl_X4_20 : xfl RX4 20 4 2 1 := ⟨by decide, by decide, by decide +kernel, (xgt_at 105 (by decide +kernel) (by decide +kernel))⟩
theorem fl_X3_9 : xfl RX3 9 3 0 1 := ⟨by decide, by decide, by decide +kernel, (xgt_at 120 (by decide +kernel) (by decide +kernel))⟩
theorem fl_X1_53 : xfl RX1 53 3 0 1 := ⟨by decide, by decide, by decide +kernel, (xgt_at 121 (by decide +kernel) (by decide +kernel))⟩
theorem fl_X3_15 : xfl RX3 15 3 1 1 := ⟨by decide, by decide, by decide +kernel, (xgt_at 122 (by decide +kernel) (by decide +kernel))⟩
theorem fl_X1_60 : xfl RX1 60 3 1 1 := ⟨by decide, by decide, by decide +kernel, (xgt_at 123 (by decide +kernel) (by decide +kernel))⟩
theorem fl_X3_18 : xfl RX3 18 3 2 1 := ⟨by decide, by decide, by decide +kernel, (xgt_at 124 (by decide +kernel) (by decide +kernel))⟩
theorem fl_X1_61 : xfl RX1 61 3 2 1 := ⟨by decide, by decide, by decide +kernel, (xgt_at 125 (by decide +kernel) (by decide +kernel))⟩
theorem fl_X3_21 : xfl RX3 21 3 3 1 := ⟨by decide, by decide, by decide +kernel, (xgt_at 126 (by decide +kernel) (by decide +kernel))⟩
theorem fl_X1_62 : xfl RX1 62 3 3 1 := ⟨by decide, by decide, by decide +kernel, (xgt_at 127 (by decide +kernel) (by decide +kernel))⟩
theorem fl_X3_24 : xfl RX3 24 3 4 0 := ⟨by decide, by decide, by decide +kernel, (xgt_at 128 (by decide +kernel) (by decide +kernel))⟩
theorem fl_X1_49 : xfl RX1 49 3 4 0 := ⟨by decide, by decide, by decide +kernel, (xgt_at 129 (by decide +kernel) (by decide +kernel))⟩
theorem fl_X3_28 : xfl RX3 28 3 5 0 := ⟨by decide, by decide, by decide +kernel, (xgt_at 130 (by decide +kernel) (by decide +kernel))⟩
theorem fl_X1_52 : xfl RX1 52 3 5 0 := ⟨by decide, by decide, by decide +kernel, (xgt_at 131 (by decide +kernel) (by decide +kernel))⟩
theorem fl_X1_9 : xfl RX1 9 1 0 0 := ⟨by decide, by decide, by decide +kernel, (xgt_at 151 (by decide +kernel) (by decide +kernel))⟩
theorem fl_X2_53 : xfl RX2 53 1 0 0 := ⟨by decide, by decide, by decide +kernel, (xgt_at 152 (by decide +kernel) (by decide +kernel))⟩
theorem fl_X0_70 : xfl RX0 70 1 0 0 := ⟨by decide, by decide, by decide +kernel, (xgt_at 153 (by decide +kernel) (by decide +kernel))⟩
theorem fl_X5_127 : xfl RX5 127 1 0 0 := ⟨by decide, by decide, by decide +kernel, (xgt_at 154 (by decide +kernel) (by decide +kernel))⟩
theorem fl_X1_15 : xfl RX1 15 1 1 0 := ⟨by decide, by decide, by decide +kernel, (xgt_at 155 (by decide +kernel) (by decide +kernel))⟩
theorem fl_X2_92 : xfl RX2 92 1 1 0 := ⟨by decide, by decide, by decide +kernel, (xgt_at 156 (by decide +kernel) (by decide +kernel))⟩
theorem fl_X5_288 : xfl RX5 288 1 1 0 := ⟨by decide, by decide, by decide +kernel, (xgt_at 157 (by decide +kernel) (by decide +kernel))⟩
theorem fl_X1_18 : xfl RX1 18 1 2 0 := ⟨by decide, by decide, by decide +kernel, (xgt_at 158 (by decide +kernel) (by decide +kernel))⟩
theorem fl_X5_167 : xfl RX5 167 1 2 0 := ⟨by decide, by decide, by decide +kernel, (xgt_at 159 (by decide +kernel) (by decide +kernel))⟩
theorem fl_X1_21 : xfl RX1 21 1 3 0 := ⟨by decide, by decide, by decide +kernel, (xgt_at 160 (by decide +kernel) (by decide +kernel))⟩
theorem fl_X5_173 : xfl RX5 173 1 3 0 := ⟨by decide, by decide, by decide +kernel, (xgt_at 161 (by decide +kernel) (by decide +kernel))⟩
theorem fl_X1_24 : xfl RX1 24 1 4 1 := ⟨by decide, by decide, by decide +kernel, (xgt_at 162 (by decide +kernel) (by decide +kernel))⟩
theorem fl_X0_40 : xfl RX0 40 1 4 1 := ⟨by decide, by decide, by decide +kernel, (xgt_at 163 (by decide +kernel) (by decide +kernel))⟩
theorem fl_X2_72 : xfl RX2 72 1 4 1 := ⟨by decide, by decide, by decide +kernel, (xgt_at 164 (by decide +kernel) (by decide +kernel))⟩
theorem fl_X5_136 : xfl RX5 136 1 4 1 := ⟨by decide, by decide, by decide +kernel, (xgt_at 165 (by decide +kernel) (by decide +kernel))⟩
theorem fl_X1_28 : xfl RX1 28 1 5 1 := ⟨by decide, by decide, by decide +kernel, (xgt_at 166 (by decide +kernel) (by decide +kernel))⟩
theorem fl_X2_115 : xfl RX2 115 1 5 1 := ⟨by decide, by decide, by decide +kernel, (xgt_at 167 (by decide +kernel) (by decide +kernel))⟩
theorem fl_X5_155 : xfl RX5 155 1 5 1 := ⟨by decide, by decide, by decide +kernel, (xgt_at 168 (by decide +kernel) (by decide +kernel))⟩
theorem fl_X1_31 : xfl RX1 31 1 6 1 := ⟨by decide, by decide, by decide +kernel, (xgt_at 169 (by decide +kernel) (by decide +kernel))⟩
theorem fl_X5_161 : xfl RX5 161 1 6 1 := ⟨by decide, by decide, by decide +kernel, (xgt_at 170 (by decide +kernel) (by decide +kernel))⟩
theorem fl_X1_34 : xfl RX1 34 1 7 1 := ⟨by decide, by decide, by decide +kernel, (xgt_at 171 (by decide +kernel) (by decide +kernel))⟩
theorem fl_X1_37 : xfl RX1 37 1 8 1 := ⟨by decide, by decide, by decide +kernel, (xgt_at 172 (by decide +kernel) (by decide +kernel))⟩
theorem fl_X1_40 : xfl RX1 40 1 9 1 := ⟨by decide, by decide, by decide +kernel, (xgt_at 173 (by decide +kernel) (by decide +kernel))⟩
theorem fl_X1_43 : xfl RX1 43 1 10 1 := ⟨by decide, by decide, by decide +kernel, (xgt_at 174 (by decide +kernel) (by decide +kernel))⟩
theorem fl_X1_46 : xfl RX1 46 1 11 1 := ⟨by decide, by decide, by decide +kernel, (xgt_at 175 (by decide +kernel) (by decide +kernel))⟩
theorem fl_X0_36 : xfl RX0 36 0 0 1 := ⟨by decide, by decide, by decide +kernel, (xgt_at 208 (by decide +kernel) (by decide +kernel))⟩
theorem fl_X0_9 : xfl RX0 9 0 1 1 := ⟨by decide, by decide, by decide +kernel, (xgt_at 209 (by decide +kernel) (by decide +kernel))⟩
theorem fl_X5_198 : xfl RX5 198 0 1 1 := ⟨by decide, by decide, by decide +kernel, (xgt_at 210 (by decide +kernel) (by decide +kernel))⟩
theorem fl_X0_15 : xfl RX0 15 0 2 1 := ⟨by decide, by decide, by decide +kernel, (xgt_at 211 (by decide +kernel) (by decide +kernel))⟩
theorem fl_X5_258 : xfl RX5 258 0 2 1 := ⟨by decide, by decide, by decide +kernel, (xgt_at 212 (by decide +kernel) (by decide +kernel))⟩
theorem fl_X0_20 : xfl RX0 20 0 3 1 := ⟨by decide, by decide, by decide +kernel, (xgt_at 213 (by decide +kernel) (by decide +kernel))⟩
theorem fl_X0_23 : xfl RX0 23 0 4 0 := ⟨by decide, by decide, by decide +kernel, (xgt_at 214 (by decide +kernel) (by decide +kernel))⟩
theorem fl_X0_27 : xfl RX0 27 0 5 0 := ⟨by decide, by decide, by decide +kernel, (xgt_at 215 (by decide +kernel) (by decide +kernel))⟩
theorem fl_X0_30 : xfl RX0 30 0 6 0 := ⟨by decide, by decide, by decide +kernel, (xgt_at 216 (by decide +kernel) (by decide +kernel))⟩
theorem fl_X0_33 : xfl RX0 33 0 7 0 := ⟨by decide, by decide, by decide +kernel, (xgt_at 217 (by decide +kernel) (by decide +kernel))⟩
theorem fl_X5_236 : xfl RX5 236 0 7 0 := ⟨by decide, by decide, by decide +kernel, (xgt_at 218 (by decide +kernel) (by decide +kernel))⟩
theorem fl_X2_49 : xfl RX2 49 2 0 1 := ⟨by decide, by decide, by decide +kernel, (xgt_at 243 (by decide +kernel) (by decide +kernel))⟩
theorem fl_X2_11 : xfl RX2 11 2 1 1 := ⟨by decide, by decide, by decide +kernel, (xgt_at 244 (by decide +kernel) (by decide +kernel))⟩
theorem fl_X2_16 : xfl RX2 16 2 2 1 := ⟨by decide, by decide, by decide +kernel, (xgt_at 245 (by decide +kernel) (by decide +kernel))⟩
theorem fl_X2_20 : xfl RX2 20 2 3 1 := ⟨by decide, by decide, by decide +kernel, (xgt_at 246 (by decide +kernel) (by decide +kernel))⟩
theorem fl_X2_23 : xfl RX2 23 2 4 1 := ⟨by decide, by decide, by decide +kernel, (xgt_at 247 (by decide +kernel) (by decide +kernel))⟩
theorem fl_X2_26 : xfl RX2 26 2 5 1 := ⟨by decide, by decide, by decide +kernel, (xgt_at 248 (by decide +kernel) (by decide +kernel))⟩
theorem fl_X5_326 : xfl RX5 326 2 5 1 := ⟨by decide, by decide, by decide +kernel, (xgt_at 249 (by decide +kernel) (by decide +kernel))⟩
theorem fl_X2_29 : xfl RX2 29 2 6 0 := ⟨by decide, by decide, by decide +kernel, (xgt_at 250 (by decide +kernel) (by decide +kernel))⟩
theorem fl_X5_223 : xfl RX5 223 2 6 0 := ⟨by decide, by decide, by decide +kernel, (xgt_at 251 (by decide +kernel) (by decide +kernel))⟩
theorem fl_X2_33 : xfl RX2 33 2 7 0 := ⟨by decide, by decide, by decide +kernel, (xgt_at 252 (by decide +kernel) (by decide +kernel))⟩
theorem fl_X2_37 : xfl RX2 37 2 8 0 := ⟨by decide, by decide, by decide +kernel, (xgt_at 253 (by decide +kernel) (by decide +kernel))⟩
theorem fl_X2_40 : xfl RX2 40 2 9 0 := ⟨by decide, by decide, by decide +kernel, (xgt_at 254 (by decide +kernel) (by decide +kernel))⟩
theorem fl_X2_43 : xfl RX2 43 2 10 0 := ⟨by decide, by decide, by decide +kernel, (xgt_at 255 (by decide +kernel) (by decide +kernel))⟩
theorem fl_X2_46 : xfl RX2 46 2 11 0 := ⟨by decide, by decide, by decide +kernel, (xgt_at 256 (by decide +kernel) (by decide +kernel))⟩
theorem fl_X5_14 : xfl RX5 14 5 0 1 := ⟨by decide, by decide, by decide +kernel, (xgt_at 283 (by decide +kernel) (by decide +kernel))⟩
theorem fl_X5_18 : xfl RX5 18 5 1 1 := ⟨by decide, by decide, by decide +kernel, (xgt_at 284 (by decide +kernel) (by decide +kernel))⟩
theorem fl_X5_24 : xfl RX5 24 5 2 1 := ⟨by decide, by decide, by decide +kernel, (xgt_at 285 (by decide +kernel) (by decide +kernel))⟩
theorem fl_X5_31 : xfl RX5 31 5 3 1 := ⟨by decide, by decide, by decide +kernel, (xgt_at 286 (by decide +kernel) (by decide +kernel))⟩
theorem fl_X5_40 : xfl RX5 40 5 4 1 := ⟨by decide, by decide, by decide +kernel, (xgt_at 287 (by decide +kernel) (by decide +kernel))⟩
theorem fl_X5_47 : xfl RX5 47 5 5 1 := ⟨by decide, by decide, by decide +kernel, (xgt_at 288 (by decide +kernel) (by decide +kernel))⟩
theorem fl_X5_51 : xfl RX5 51 5 6 1 := ⟨by decide, by decide, by decide +kernel, (xgt_at 289 (by decide +kernel) (by decide +kernel))⟩
theorem fl_X5_55 : xfl RX5 55 5 7 1 := ⟨by decide, by decide, by decide +kernel, (xgt_at 290 (by decide +kernel) (by decide +kernel))⟩
theorem fl_X5_59 : xfl RX5 59 5 8 1 := ⟨by decide, by decide, by decide +kernel, (xgt_at 291 (by decide +kernel) (by decide +kernel))⟩
theorem fl_X5_63 : xfl RX5 63 5 9 0 := ⟨by decide, by decide, by decide +kernel, (xgt_at 292 (by decide +kernel) (by decide +kernel))⟩
theorem fl_X5_67 : xfl RX5 67 5 10 0 := ⟨by decide, by decide, by decide +kernel, (xgt_at 293 (by decide +kernel) (by decide +kernel))⟩
theorem fl_X6_85 : xfl RX6 85 6 0 0 := ⟨by decide, by decide, by decide +kernel, (xgt_at 886 (by decide +kernel) (by decide +kernel))⟩
theorem fl_X6_7 : xfl RX6 7 6 1 1 := ⟨by decide, by decide, by decide +kernel, (xgt_at 887 (by decide +kernel) (by decide +kernel))⟩
theorem fl_X6_89 : xfl RX6 89 6 2 0 := ⟨by decide, by decide, by decide +kernel, (xgt_at 888 (by decide +kernel) (by decide +kernel))⟩
theorem fl_X6_13 : xfl RX6 13 6 3 1 := ⟨by decide, by decide, by decide +kernel, (xgt_at 889 (by decide +kernel) (by decide +kernel))⟩
theorem fl_X6_16 : xfl RX6 16 6 4 1 := ⟨by decide, by decide, by decide +kernel, (xgt_at 890 (by decide +kernel) (by decide +kernel))⟩
theorem fl_X6_19 : xfl RX6 19 6 5 1 := ⟨by decide, by decide, by decide +kernel, (xgt_at 891 (by decide +kernel) (by decide +kernel))⟩
theorem fl_X6_22 : xfl RX6 22 6 6 1 := ⟨by decide, by decide, by decide +kernel, (xgt_at 892 (by decide +kernel) (by decide +kernel))⟩
theorem fl_X6_25 : xfl RX6 25 6 7 1 := ⟨by decide, by decide, by decide +kernel, (xgt_at 893 (by decide +kernel) (by decide +kernel))⟩
theorem fl_X6_151 : xfl RX6 151 6 8 0 := ⟨by decide, by decide, by decide +kernel, (xgt_at 894 (by decide +kernel) (by decide +kernel))⟩
theorem fl_X6_154 : xfl RX6 154 6 9 0 := ⟨by decide, by decide, by decide +kernel, (xgt_at 895 (by decide +kernel) (by decide +kernel))⟩
theorem fl_X6_28 : xfl RX6 28 6 10 1 := ⟨by decide, by decide, by decide +kernel, (xgt_at 896 (by decide +kernel) (by decide +kernel))⟩
theorem fl_X6_31 : xfl RX6 31 6 11 1 := ⟨by decide, by decide, by decide +kernel, (xgt_at 897 (by decide +kernel) (by decide +kernel))⟩
theorem fl_X6_34 : xfl RX6 34 6 12 1 := ⟨by decide, by decide, by decide +kernel, (xgt_at 898 (by decide +kernel) (by decide +kernel))⟩
theorem fl_X6_37 : xfl RX6 37 6 13 1 := ⟨by decide, by decide, by decide +kernel, (xgt_at 899 (by decide +kernel) (by decide +kernel))⟩
theorem fl_X6_40 : xfl RX6 40 6 14 1 := ⟨by decide, by decide, by decide +kernel, (xgt_at 900 (by decide +kernel) (by decide +kernel))⟩
theorem fl_X6_157 : xfl RX6 157 6 15 0 := ⟨by decide, by decide, by decide +kernel, (xgt_at 901 (by decide +kernel) (by decide +kernel))⟩
theorem fl_X6_127 : xfl RX6 127 6 16 0 := ⟨by decide, by decide, by decide +kernel, (xgt_at 902 (by decide +kernel) (by decide +kernel))⟩
theorem fl_X6_133 : xfl RX6 133 6 17 0 := ⟨by decide, by decide, by decide +kernel, (xgt_at 903 (by decide +kernel) (by decide +kernel))⟩
theorem fl_X6_139 : xfl RX6 139 6 18 0 := ⟨by decide, by decide, by decide +kernel, (xgt_at 904 (by decide +kernel) (by decide +kernel))⟩
theorem fl_X6_43 : xfl RX6 43 6 19 1 := ⟨by decide, by decide, by decide +kernel, (xgt_at 905 (by decide +kernel) (by decide +kernel))⟩
theorem fl_X6_46 : xfl RX6 46 6 20 1 := ⟨by decide, by decide, by decide +kernel, (xgt_at 906 (by decide +kernel) (by decide +kernel))⟩
theorem fl_X6_49 : xfl RX6 49 6 21 1 := ⟨by decide, by decide, by decide +kernel, (xgt_at 907 (by decide +kernel) (by decide +kernel))⟩
theorem fl_X6_52 : xfl RX6 52 6 22 1 := ⟨by decide, by decide, by decide +kernel, (xgt_at 908 (by decide +kernel) (by decide +kernel))⟩
theorem fl_X6_55 : xfl RX6 55 6 23 1 := ⟨by decide, by decide, by decide +kernel, (xgt_at 909 (by decide +kernel) (by decide +kernel))⟩
theorem fl_X6_160 : xfl RX6 160 6 24 0 := ⟨by decide, by decide, by decide +kernel, (xgt_at 910 (by decide +kernel) (by decide +kernel))⟩
theorem fl_X6_58 : xfl RX6 58 6 25 1 := ⟨by decide, by decide, by decide +kernel, (xgt_at 911 (by decide +kernel) (by decide +kernel))⟩
theorem fl_X6_61 : xfl RX6 61 6 26 1 := ⟨by decide, by decide, by decide +kernel, (xgt_at 912 (by decide +kernel) (by decide +kernel))⟩
theorem fl_X6_64 : xfl RX6 64 6 27 1 := ⟨by decide, by decide, by decide +kernel, (xgt_at 913 (by decide +kernel) (by decide +kernel))⟩
theorem fl_X6_67 : xfl RX6 67 6 28 1 := ⟨by decide, by decide, by decide +kernel, (xgt_at 914 (by decide +kernel) (by decide +kernel))⟩
theorem fl_X6_70 : xfl RX6 70 6 29 1 := ⟨by decide, by decide, by decide +kernel, (xgt_at 915 (by decide +kernel) (by decide +kernel))⟩
theorem fl_X6_73 : xfl RX6 73 6 30 1 := ⟨by decide, by decide, by decide +kernel, (xgt_at 916 (by decide +kernel) (by decide +kernel))⟩
theorem fl_X6_76 : xfl RX6 76 6 31 1 := ⟨by decide, by decide, by decide +kernel, (xgt_at 917 (by decide +kernel) (by decide +kernel))⟩
theorem fl_X6_79 : xfl RX6 79 6 32 1 := ⟨by decide, by decide, by decide +kernel, (xgt_at 918 (by decide +kernel) (by decide +kernel))⟩
theorem fl_X6_273 : xfl RX6 273 6 33 0 := ⟨by decide, by decide, by decide +kernel, (xgt_at 919 (by decide +kernel) (by decide +kernel))⟩
theorem fl_X6_261 : xfl RX6 261 6 34 0 := ⟨by decide, by decide, by decide +kernel, (xgt_at 920 (by decide +kernel) (by decide +kernel))⟩
theorem fl_X6_264 : xfl RX6 264 6 35 0 := ⟨by decide, by decide, by decide +kernel, (xgt_at 921 (by decide +kernel) (by decide +kernel))⟩
theorem fl_X6_267 : xfl RX6 267 6 36 0 := ⟨by decide, by decide, by decide +kernel, (xgt_at 922 (by decide +kernel) (by decide +kernel))⟩
theorem fl_X6_288 : xfl RX6 288 6 37 0 := ⟨by decide, by decide, by decide +kernel, (xgt_at 923 (by decide +kernel) (by decide +kernel))⟩
theorem fl_X6_291 : xfl RX6 291 6 38 0 := ⟨by decide, by decide, by decide +kernel, (xgt_at 924 (by decide +kernel) (by decide +kernel))⟩
theorem fl_X6_294 : xfl RX6 294 6 39 0 := ⟨by decide, by decide, by decide +kernel, (xgt_at 925 (by decide +kernel) (by decide +kernel))⟩
theorem fl_X6_82 : xfl RX6 82 6 40 1 := ⟨by decide, by decide, by decide +kernel, (xgt_at 926 (by decide +kernel) (by decide +kernel))⟩
theorem fl_X6_335 : xfl RX6 335 6 41 2 := ⟨by decide, by decide, by decide +kernel, (xgt_at 927 (by decide +kernel) (by decide +kernel))⟩
theorem mv_X0_init : xmv yX0_init cX0_init 2 none 1 := ⟨⟨xgt_at 205 (by decide +kernel) (by decide +kernel), (xgt_at 80 (by decide +kernel) (by decide +kernel))⟩, by decide, by decide, by decide, by decide +kernel⟩
theorem mv_X0_startFromNow : xmv yX0_startFromNow cX0_startFromNow 1 none 0 := ⟨⟨xgt_at 514 (by decide +kernel) (by decide +kernel), (xgt_at 80 (by decide +kernel) (by decide +kernel))⟩, by decide, by decide, by decide, by decide +kernel⟩
theorem mi_X0_startFromNow : Cond.instanceMethod yX0_startFromNow ∈ xgt ∧ Cond.selects yX0_startFromNow.cls yX0_startFromNow yX0_startFromNow ∈ xgt := ⟨(xgt_at 513 (by decide +kernel) (by decide +kernel)), (xgt_at 7 (by decide +kernel) (by decide +kernel))⟩
abbrev oX0_startFromNow (G : xG) (d : Nat) := OV G d yX0_startFromNow cX0_startFromNow 1 none
abbrev aX0_startFromNow (G : xG) (d pc : Nat) (L : List (Option Value)) (st : List Value) (z : xZ) (v : xS) := fun Q => AW G d 0 0 yX0_startFromNow cX0_startFromNow 1 none RX0 0 0 pc L st z v (PV z Q)
theorem mv_X0_inchesByTune : xmv yX0_inchesByTune cX0_inchesByTune 3 (some .int) 2 := ⟨⟨xgt_at 510 (by decide +kernel) (by decide +kernel), (xgt_at 80 (by decide +kernel) (by decide +kernel))⟩, by decide, by decide, by decide, by decide +kernel⟩
theorem mi_X0_inchesByTune : Cond.instanceMethod yX0_inchesByTune ∈ xgt ∧ Cond.selects yX0_inchesByTune.cls yX0_inchesByTune yX0_inchesByTune ∈ xgt := ⟨(xgt_at 508 (by decide +kernel) (by decide +kernel)), (xgt_at 509 (by decide +kernel) (by decide +kernel))⟩
abbrev oX0_inchesByTune (G : xG) (d : Nat) := OI G d yX0_inchesByTune cX0_inchesByTune 3 (some .int)
abbrev aX0_inchesByTune (G : xG) (d pc : Nat) (L : List (Option Value)) (st : List Value) (z : xZ) (v : xS) := fun Q => AW G d 0 0 yX0_inchesByTune cX0_inchesByTune 3 (some .int) RX0 0 0 pc L st z v (PI z Q)
theorem mv_X0_repeat : xmv yX0_repeat cX0_repeat 5 (some .int) 2 := ⟨⟨xgt_at 613 (by decide +kernel) (by decide +kernel), (xgt_at 80 (by decide +kernel) (by decide +kernel))⟩, by decide, by decide, by decide, by decide +kernel⟩
theorem mi_X0_repeat : Cond.instanceMethod yX0_repeat ∈ xgt ∧ Cond.selects yX0_repeat.cls yX0_repeat yX0_repeat ∈ xgt := ⟨(xgt_at 611 (by decide +kernel) (by decide +kernel)), (xgt_at 612 (by decide +kernel) (by decide +kernel))⟩
abbrev oX0_repeat (G : xG) (d : Nat) := OI G d yX0_repeat cX0_repeat 5 (some .int)
abbrev aX0_repeat (G : xG) (d pc : Nat) (L : List (Option Value)) (st : List Value) (z : xZ) (v : xS) := fun Q => AW G d 0 0 yX0_repeat cX0_repeat 5 (some .int) RX0 0 0 pc L st z v (PI z Q)
theorem mv_X0_playBehind : xmv yX0_playBehind cX0_playBehind 2 none 1 := ⟨⟨xgt_at 629 (by decide +kernel) (by decide +kernel), (xgt_at 80 (by decide +kernel) (by decide +kernel))⟩, by decide, by decide, by decide, by decide +kernel⟩
theorem mi_X0_playBehind : Cond.instanceMethod yX0_playBehind ∈ xgt ∧ Cond.selects yX0_playBehind.cls yX0_playBehind yX0_playBehind ∈ xgt := ⟨(xgt_at 627 (by decide +kernel) (by decide +kernel)), (xgt_at 628 (by decide +kernel) (by decide +kernel))⟩
abbrev oX0_playBehind (G : xG) (d : Nat) := OV G d yX0_playBehind cX0_playBehind 2 none
abbrev aX0_playBehind (G : xG) (d pc : Nat) (L : List (Option Value)) (st : List Value) (z : xZ) (v : xS) := fun Q => AW G d 0 0 yX0_playBehind cX0_playBehind 2 none RX0 0 0 pc L st z v (PV z Q)
theorem mv_X0_restsBehind : xmv yX0_restsBehind cX0_restsBehind 3 (some .int) 1 := ⟨⟨xgt_at 625 (by decide +kernel) (by decide +kernel), (xgt_at 80 (by decide +kernel) (by decide +kernel))⟩, by decide, by decide, by decide, by decide +kernel⟩
theorem mi_X0_restsBehind : Cond.instanceMethod yX0_restsBehind ∈ xgt ∧ Cond.selects yX0_restsBehind.cls yX0_restsBehind yX0_restsBehind ∈ xgt := ⟨(xgt_at 623 (by decide +kernel) (by decide +kernel)), (xgt_at 624 (by decide +kernel) (by decide +kernel))⟩
abbrev oX0_restsBehind (G : xG) (d : Nat) := OI G d yX0_restsBehind cX0_restsBehind 3 (some .int)
abbrev aX0_restsBehind (G : xG) (d pc : Nat) (L : List (Option Value)) (st : List Value) (z : xZ) (v : xS) := fun Q => AW G d 0 0 yX0_restsBehind cX0_restsBehind 3 (some .int) RX0 0 0 pc L st z v (PI z Q)
theorem mv_X0_comesRound : xmv yX0_comesRound cX0_comesRound 3 (some .int) 1 := ⟨⟨xgt_at 649 (by decide +kernel) (by decide +kernel), (xgt_at 80 (by decide +kernel) (by decide +kernel))⟩, by decide, by decide, by decide, by decide +kernel⟩
theorem mi_X0_comesRound : Cond.instanceMethod yX0_comesRound ∈ xgt ∧ Cond.selects yX0_comesRound.cls yX0_comesRound yX0_comesRound ∈ xgt := ⟨(xgt_at 647 (by decide +kernel) (by decide +kernel)), (xgt_at 648 (by decide +kernel) (by decide +kernel))⟩
abbrev oX0_comesRound (G : xG) (d : Nat) := OI G d yX0_comesRound cX0_comesRound 3 (some .int)
abbrev aX0_comesRound (G : xG) (d pc : Nat) (L : List (Option Value)) (st : List Value) (z : xZ) (v : xS) := fun Q => AW G d 0 0 yX0_comesRound cX0_comesRound 3 (some .int) RX0 0 0 pc L st z v (PI z Q)
theorem mv_X0_isSame : xmv yX0_isSame cX0_isSame 4 (some .boolean) 2 := ⟨⟨xgt_at 633 (by decide +kernel) (by decide +kernel), (xgt_at 80 (by decide +kernel) (by decide +kernel))⟩, by decide, by decide, by decide, by decide +kernel⟩
theorem mi_X0_isSame : Cond.instanceMethod yX0_isSame ∈ xgt ∧ Cond.selects yX0_isSame.cls yX0_isSame yX0_isSame ∈ xgt := ⟨(xgt_at 632 (by decide +kernel) (by decide +kernel)), (xgt_at 9 (by decide +kernel) (by decide +kernel))⟩
abbrev oX0_isSame (G : xG) (d : Nat) := OI G d yX0_isSame cX0_isSame 4 (some .boolean)
abbrev aX0_isSame (G : xG) (d pc : Nat) (L : List (Option Value)) (st : List Value) (z : xZ) (v : xS) := fun Q => AW G d 0 0 yX0_isSame cX0_isSame 4 (some .boolean) RX0 0 0 pc L st z v (PI z Q)
theorem mv_X0_loudestKeeping : xmv yX0_loudestKeeping cX0_loudestKeeping 5 (some .int) 1 := ⟨⟨xgt_at 728 (by decide +kernel) (by decide +kernel), (xgt_at 80 (by decide +kernel) (by decide +kernel))⟩, by decide, by decide, by decide, by decide +kernel⟩
theorem mi_X0_loudestKeeping : Cond.instanceMethod yX0_loudestKeeping ∈ xgt ∧ Cond.selects yX0_loudestKeeping.cls yX0_loudestKeeping yX0_loudestKeeping ∈ xgt := ⟨(xgt_at 726 (by decide +kernel) (by decide +kernel)), (xgt_at 727 (by decide +kernel) (by decide +kernel))⟩
abbrev oX0_loudestKeeping (G : xG) (d : Nat) := OI G d yX0_loudestKeeping cX0_loudestKeeping 5 (some .int)
abbrev aX0_loudestKeeping (G : xG) (d pc : Nat) (L : List (Option Value)) (st : List Value) (z : xZ) (v : xS) := fun Q => AW G d 0 0 yX0_loudestKeeping cX0_loudestKeeping 5 (some .int) RX0 0 0 pc L st z v (PI z Q)
theorem mv_X0_duel : xmv yX0_duel cX0_duel 5 (some .int) 4 := ⟨⟨xgt_at 739 (by decide +kernel) (by decide +kernel), (xgt_at 80 (by decide +kernel) (by decide +kernel))⟩, by decide, by decide, by decide, by decide +kernel⟩
theorem mi_X0_duel : Cond.instanceMethod yX0_duel ∈ xgt ∧ Cond.selects yX0_duel.cls yX0_duel yX0_duel ∈ xgt := ⟨(xgt_at 737 (by decide +kernel) (by decide +kernel)), (xgt_at 738 (by decide +kernel) (by decide +kernel))⟩
abbrev oX0_duel (G : xG) (d : Nat) := OI G d yX0_duel cX0_duel 5 (some .int)
abbrev aX0_duel (G : xG) (d pc : Nat) (L : List (Option Value)) (st : List Value) (z : xZ) (v : xS) := fun Q => AW G d 0 0 yX0_duel cX0_duel 5 (some .int) RX0 0 0 pc L st z v (PI z Q)
theorem mv_X0_bestTurn : xmv yX0_bestTurn cX0_bestTurn 7 (some .int) 2 := ⟨⟨xgt_at 743 (by decide +kernel) (by decide +kernel), (xgt_at 80 (by decide +kernel) (by decide +kernel))⟩, by decide, by decide, by decide, by decide +kernel⟩
theorem mi_X0_bestTurn : Cond.instanceMethod yX0_bestTurn ∈ xgt ∧ Cond.selects yX0_bestTurn.cls yX0_bestTurn yX0_bestTurn ∈ xgt := ⟨(xgt_at 742 (by decide +kernel) (by decide +kernel)), (xgt_at 18 (by decide +kernel) (by decide +kernel))⟩
abbrev oX0_bestTurn (G : xG) (d : Nat) := OI G d yX0_bestTurn cX0_bestTurn 7 (some .int)
abbrev aX0_bestTurn (G : xG) (d pc : Nat) (L : List (Option Value)) (st : List Value) (z : xZ) (v : xS) := fun Q => AW G d 0 0 yX0_bestTurn cX0_bestTurn 7 (some .int) RX0 0 0 pc L st z v (PI z Q)
theorem mv_X1_init : xmv yX1_init cX1_init 1 none 0 := ⟨⟨xgt_at 149 (by decide +kernel) (by decide +kernel), (xgt_at 79 (by decide +kernel) (by decide +kernel))⟩, by decide, by decide, by decide, by decide +kernel⟩
theorem mv_X1_begin : xmv yX1_begin cX1_begin 3 none 1 := ⟨⟨xgt_at 455 (by decide +kernel) (by decide +kernel), (xgt_at 79 (by decide +kernel) (by decide +kernel))⟩, by decide, by decide, by decide, by decide +kernel⟩
theorem mi_X1_begin : Cond.instanceMethod yX1_begin ∈ xgt ∧ Cond.selects yX1_begin.cls yX1_begin yX1_begin ∈ xgt := ⟨(xgt_at 453 (by decide +kernel) (by decide +kernel)), (xgt_at 454 (by decide +kernel) (by decide +kernel))⟩
abbrev oX1_begin (G : xG) (d : Nat) := OV G d yX1_begin cX1_begin 3 none
abbrev aX1_begin (G : xG) (d pc : Nat) (L : List (Option Value)) (st : List Value) (z : xZ) (v : xS) := fun Q => AW G d 0 0 yX1_begin cX1_begin 3 none RX1 0 0 pc L st z v (PV z Q)
theorem mv_X1_becomeLike : xmv yX1_becomeLike cX1_becomeLike 2 none 1 := ⟨⟨xgt_at 601 (by decide +kernel) (by decide +kernel), (xgt_at 79 (by decide +kernel) (by decide +kernel))⟩, by decide, by decide, by decide, by decide +kernel⟩
theorem mi_X1_becomeLike : Cond.instanceMethod yX1_becomeLike ∈ xgt ∧ Cond.selects yX1_becomeLike.cls yX1_becomeLike yX1_becomeLike ∈ xgt := ⟨(xgt_at 599 (by decide +kernel) (by decide +kernel)), (xgt_at 600 (by decide +kernel) (by decide +kernel))⟩
abbrev oX1_becomeLike (G : xG) (d : Nat) := OV G d yX1_becomeLike cX1_becomeLike 2 none
abbrev aX1_becomeLike (G : xG) (d pc : Nat) (L : List (Option Value)) (st : List Value) (z : xZ) (v : xS) := fun Q => AW G d 0 0 yX1_becomeLike cX1_becomeLike 2 none RX1 0 0 pc L st z v (PV z Q)
theorem mv_X1_isSpot : xmv yX1_isSpot cX1_isSpot 2 (some .boolean) 1 := ⟨⟨xgt_at 464 (by decide +kernel) (by decide +kernel), (xgt_at 79 (by decide +kernel) (by decide +kernel))⟩, by decide, by decide, by decide, by decide +kernel⟩
theorem mi_X1_isSpot : Cond.instanceMethod yX1_isSpot ∈ xgt ∧ Cond.selects yX1_isSpot.cls yX1_isSpot yX1_isSpot ∈ xgt := ⟨(xgt_at 462 (by decide +kernel) (by decide +kernel)), (xgt_at 463 (by decide +kernel) (by decide +kernel))⟩
abbrev oX1_isSpot (G : xG) (d : Nat) := OI G d yX1_isSpot cX1_isSpot 2 (some .boolean)
abbrev aX1_isSpot (G : xG) (d pc : Nat) (L : List (Option Value)) (st : List Value) (z : xZ) (v : xS) := fun Q => AW G d 0 0 yX1_isSpot cX1_isSpot 2 (some .boolean) RX1 0 0 pc L st z v (PI z Q)
theorem mv_X1_isBand : xmv yX1_isBand cX1_isBand 2 (some .boolean) 1 := ⟨⟨xgt_at 476 (by decide +kernel) (by decide +kernel), (xgt_at 79 (by decide +kernel) (by decide +kernel))⟩, by decide, by decide, by decide, by decide +kernel⟩
theorem mi_X1_isBand : Cond.instanceMethod yX1_isBand ∈ xgt ∧ Cond.selects yX1_isBand.cls yX1_isBand yX1_isBand ∈ xgt := ⟨(xgt_at 474 (by decide +kernel) (by decide +kernel)), (xgt_at 475 (by decide +kernel) (by decide +kernel))⟩
abbrev oX1_isBand (G : xG) (d : Nat) := OI G d yX1_isBand cX1_isBand 2 (some .boolean)
abbrev aX1_isBand (G : xG) (d pc : Nat) (L : List (Option Value)) (st : List Value) (z : xZ) (v : xS) := fun Q => AW G d 0 0 yX1_isBand cX1_isBand 2 (some .boolean) RX1 0 0 pc L st z v (PI z Q)
theorem mv_X1_isProgram : xmv yX1_isProgram cX1_isProgram 2 (some .boolean) 1 := ⟨⟨xgt_at 560 (by decide +kernel) (by decide +kernel), (xgt_at 79 (by decide +kernel) (by decide +kernel))⟩, by decide, by decide, by decide, by decide +kernel⟩
theorem mi_X1_isProgram : Cond.instanceMethod yX1_isProgram ∈ xgt ∧ Cond.selects yX1_isProgram.cls yX1_isProgram yX1_isProgram ∈ xgt := ⟨(xgt_at 558 (by decide +kernel) (by decide +kernel)), (xgt_at 559 (by decide +kernel) (by decide +kernel))⟩
abbrev oX1_isProgram (G : xG) (d : Nat) := OI G d yX1_isProgram cX1_isProgram 2 (some .boolean)
abbrev aX1_isProgram (G : xG) (d pc : Nat) (L : List (Option Value)) (st : List Value) (z : xZ) (v : xS) := fun Q => AW G d 0 0 yX1_isProgram cX1_isProgram 2 (some .boolean) RX1 0 0 pc L st z v (PI z Q)
theorem mv_X1_isSpotSet : xmv yX1_isSpotSet cX1_isSpotSet 2 (some .boolean) 1 := ⟨⟨xgt_at 548 (by decide +kernel) (by decide +kernel), (xgt_at 79 (by decide +kernel) (by decide +kernel))⟩, by decide, by decide, by decide, by decide +kernel⟩
theorem mi_X1_isSpotSet : Cond.instanceMethod yX1_isSpotSet ∈ xgt ∧ Cond.selects yX1_isSpotSet.cls yX1_isSpotSet yX1_isSpotSet ∈ xgt := ⟨(xgt_at 546 (by decide +kernel) (by decide +kernel)), (xgt_at 547 (by decide +kernel) (by decide +kernel))⟩
abbrev oX1_isSpotSet (G : xG) (d : Nat) := OI G d yX1_isSpotSet cX1_isSpotSet 2 (some .boolean)
abbrev aX1_isSpotSet (G : xG) (d pc : Nat) (L : List (Option Value)) (st : List Value) (z : xZ) (v : xS) := fun Q => AW G d 0 0 yX1_isSpotSet cX1_isSpotSet 2 (some .boolean) RX1 0 0 pc L st z v (PI z Q)
theorem mv_X1_isFrozen : xmv yX1_isFrozen cX1_isFrozen 2 (some .boolean) 1 := ⟨⟨xgt_at 468 (by decide +kernel) (by decide +kernel), (xgt_at 79 (by decide +kernel) (by decide +kernel))⟩, by decide, by decide, by decide, by decide +kernel⟩
theorem mi_X1_isFrozen : Cond.instanceMethod yX1_isFrozen ∈ xgt ∧ Cond.selects yX1_isFrozen.cls yX1_isFrozen yX1_isFrozen ∈ xgt := ⟨(xgt_at 466 (by decide +kernel) (by decide +kernel)), (xgt_at 467 (by decide +kernel) (by decide +kernel))⟩
abbrev oX1_isFrozen (G : xG) (d : Nat) := OI G d yX1_isFrozen cX1_isFrozen 2 (some .boolean)
abbrev aX1_isFrozen (G : xG) (d pc : Nat) (L : List (Option Value)) (st : List Value) (z : xZ) (v : xS) := fun Q => AW G d 0 0 yX1_isFrozen cX1_isFrozen 2 (some .boolean) RX1 0 0 pc L st z v (PI z Q)
theorem mv_X1_isOf : xmv yX1_isOf cX1_isOf 3 (some .boolean) 2 := ⟨⟨xgt_at 504 (by decide +kernel) (by decide +kernel), (xgt_at 79 (by decide +kernel) (by decide +kernel))⟩, by decide, by decide, by decide, by decide +kernel⟩
theorem mi_X1_isOf : Cond.instanceMethod yX1_isOf ∈ xgt ∧ Cond.selects yX1_isOf.cls yX1_isOf yX1_isOf ∈ xgt := ⟨(xgt_at 502 (by decide +kernel) (by decide +kernel)), (xgt_at 503 (by decide +kernel) (by decide +kernel))⟩
abbrev oX1_isOf (G : xG) (d : Nat) := OI G d yX1_isOf cX1_isOf 3 (some .boolean)
abbrev aX1_isOf (G : xG) (d pc : Nat) (L : List (Option Value)) (st : List Value) (z : xZ) (v : xS) := fun Q => AW G d 0 0 yX1_isOf cX1_isOf 3 (some .boolean) RX1 0 0 pc L st z v (PI z Q)
theorem mv_X1_programs : xmv yX1_programs cX1_programs 3 (some .int) 0 := ⟨⟨xgt_at 564 (by decide +kernel) (by decide +kernel), (xgt_at 79 (by decide +kernel) (by decide +kernel))⟩, by decide, by decide, by decide, by decide +kernel⟩
theorem mi_X1_programs : Cond.instanceMethod yX1_programs ∈ xgt ∧ Cond.selects yX1_programs.cls yX1_programs yX1_programs ∈ xgt := ⟨(xgt_at 562 (by decide +kernel) (by decide +kernel)), (xgt_at 563 (by decide +kernel) (by decide +kernel))⟩
abbrev oX1_programs (G : xG) (d : Nat) := OI G d yX1_programs cX1_programs 3 (some .int)
abbrev aX1_programs (G : xG) (d pc : Nat) (L : List (Option Value)) (st : List Value) (z : xZ) (v : xS) := fun Q => AW G d 0 0 yX1_programs cX1_programs 3 (some .int) RX1 0 0 pc L st z v (PI z Q)
theorem mv_X1_tuneOf : xmv yX1_tuneOf cX1_tuneOf 5 (some .int) 2 := ⟨⟨xgt_at 572 (by decide +kernel) (by decide +kernel), (xgt_at 79 (by decide +kernel) (by decide +kernel))⟩, by decide, by decide, by decide, by decide +kernel⟩
theorem mi_X1_tuneOf : Cond.instanceMethod yX1_tuneOf ∈ xgt ∧ Cond.selects yX1_tuneOf.cls yX1_tuneOf yX1_tuneOf ∈ xgt := ⟨(xgt_at 570 (by decide +kernel) (by decide +kernel)), (xgt_at 571 (by decide +kernel) (by decide +kernel))⟩
abbrev oX1_tuneOf (G : xG) (d : Nat) := OI G d yX1_tuneOf cX1_tuneOf 5 (some .int)
abbrev aX1_tuneOf (G : xG) (d pc : Nat) (L : List (Option Value)) (st : List Value) (z : xZ) (v : xS) := fun Q => AW G d 0 0 yX1_tuneOf cX1_tuneOf 5 (some .int) RX1 0 0 pc L st z v (PI z Q)
theorem mv_X1_breathOf : xmv yX1_breathOf cX1_breathOf 4 (some .int) 1 := ⟨⟨xgt_at 577 (by decide +kernel) (by decide +kernel), (xgt_at 79 (by decide +kernel) (by decide +kernel))⟩, by decide, by decide, by decide, by decide +kernel⟩
theorem mi_X1_breathOf : Cond.instanceMethod yX1_breathOf ∈ xgt ∧ Cond.selects yX1_breathOf.cls yX1_breathOf yX1_breathOf ∈ xgt := ⟨(xgt_at 575 (by decide +kernel) (by decide +kernel)), (xgt_at 576 (by decide +kernel) (by decide +kernel))⟩
abbrev oX1_breathOf (G : xG) (d : Nat) := OI G d yX1_breathOf cX1_breathOf 4 (some .int)
abbrev aX1_breathOf (G : xG) (d pc : Nat) (L : List (Option Value)) (st : List Value) (z : xZ) (v : xS) := fun Q => AW G d 0 0 yX1_breathOf cX1_breathOf 4 (some .int) RX1 0 0 pc L st z v (PI z Q)
theorem mv_X1_drums : xmv yX1_drums cX1_drums 3 (some .int) 0 := ⟨⟨xgt_at 839 (by decide +kernel) (by decide +kernel), (xgt_at 79 (by decide +kernel) (by decide +kernel))⟩, by decide, by decide, by decide, by decide +kernel⟩
theorem mi_X1_drums : Cond.instanceMethod yX1_drums ∈ xgt ∧ Cond.selects yX1_drums.cls yX1_drums yX1_drums ∈ xgt := ⟨(xgt_at 837 (by decide +kernel) (by decide +kernel)), (xgt_at 838 (by decide +kernel) (by decide +kernel))⟩
abbrev oX1_drums (G : xG) (d : Nat) := OI G d yX1_drums cX1_drums 3 (some .int)
abbrev aX1_drums (G : xG) (d pc : Nat) (L : List (Option Value)) (st : List Value) (z : xZ) (v : xS) := fun Q => AW G d 0 0 yX1_drums cX1_drums 3 (some .int) RX1 0 0 pc L st z v (PI z Q)
theorem mv_X1_reach : xmv yX1_reach cX1_reach 2 (some .int) 1 := ⟨⟨xgt_at 496 (by decide +kernel) (by decide +kernel), (xgt_at 79 (by decide +kernel) (by decide +kernel))⟩, by decide, by decide, by decide, by decide +kernel⟩
theorem mi_X1_reach : Cond.instanceMethod yX1_reach ∈ xgt ∧ Cond.selects yX1_reach.cls yX1_reach yX1_reach ∈ xgt := ⟨(xgt_at 494 (by decide +kernel) (by decide +kernel)), (xgt_at 495 (by decide +kernel) (by decide +kernel))⟩
abbrev oX1_reach (G : xG) (d : Nat) := OI G d yX1_reach cX1_reach 2 (some .int)
abbrev aX1_reach (G : xG) (d pc : Nat) (L : List (Option Value)) (st : List Value) (z : xZ) (v : xS) := fun Q => AW G d 0 0 yX1_reach cX1_reach 2 (some .int) RX1 0 0 pc L st z v (PI z Q)
theorem mv_X1_isHeard : xmv yX1_isHeard cX1_isHeard 3 (some .boolean) 2 := ⟨⟨xgt_at 489 (by decide +kernel) (by decide +kernel), (xgt_at 79 (by decide +kernel) (by decide +kernel))⟩, by decide, by decide, by decide, by decide +kernel⟩
theorem mi_X1_isHeard : Cond.instanceMethod yX1_isHeard ∈ xgt ∧ Cond.selects yX1_isHeard.cls yX1_isHeard yX1_isHeard ∈ xgt := ⟨(xgt_at 487 (by decide +kernel) (by decide +kernel)), (xgt_at 488 (by decide +kernel) (by decide +kernel))⟩
abbrev oX1_isHeard (G : xG) (d : Nat) := OI G d yX1_isHeard cX1_isHeard 3 (some .boolean)
abbrev aX1_isHeard (G : xG) (d pc : Nat) (L : List (Option Value)) (st : List Value) (z : xZ) (v : xS) := fun Q => AW G d 0 0 yX1_isHeard cX1_isHeard 3 (some .boolean) RX1 0 0 pc L st z v (PI z Q)
theorem mv_X1_heardOn : xmv yX1_heardOn cX1_heardOn 4 (some .int) 1 := ⟨⟨xgt_at 485 (by decide +kernel) (by decide +kernel), (xgt_at 79 (by decide +kernel) (by decide +kernel))⟩, by decide, by decide, by decide, by decide +kernel⟩
theorem mi_X1_heardOn : Cond.instanceMethod yX1_heardOn ∈ xgt ∧ Cond.selects yX1_heardOn.cls yX1_heardOn yX1_heardOn ∈ xgt := ⟨(xgt_at 483 (by decide +kernel) (by decide +kernel)), (xgt_at 484 (by decide +kernel) (by decide +kernel))⟩
abbrev oX1_heardOn (G : xG) (d : Nat) := OI G d yX1_heardOn cX1_heardOn 4 (some .int)
abbrev aX1_heardOn (G : xG) (d pc : Nat) (L : List (Option Value)) (st : List Value) (z : xZ) (v : xS) := fun Q => AW G d 0 0 yX1_heardOn cX1_heardOn 4 (some .int) RX1 0 0 pc L st z v (PI z Q)
theorem mv_X1_lowHeard : xmv yX1_lowHeard cX1_lowHeard 4 (some .int) 1 := ⟨⟨xgt_at 539 (by decide +kernel) (by decide +kernel), (xgt_at 79 (by decide +kernel) (by decide +kernel))⟩, by decide, by decide, by decide, by decide +kernel⟩
theorem mi_X1_lowHeard : Cond.instanceMethod yX1_lowHeard ∈ xgt ∧ Cond.selects yX1_lowHeard.cls yX1_lowHeard yX1_lowHeard ∈ xgt := ⟨(xgt_at 537 (by decide +kernel) (by decide +kernel)), (xgt_at 538 (by decide +kernel) (by decide +kernel))⟩
abbrev oX1_lowHeard (G : xG) (d : Nat) := OI G d yX1_lowHeard cX1_lowHeard 4 (some .int)
abbrev aX1_lowHeard (G : xG) (d pc : Nat) (L : List (Option Value)) (st : List Value) (z : xZ) (v : xS) := fun Q => AW G d 0 0 yX1_lowHeard cX1_lowHeard 4 (some .int) RX1 0 0 pc L st z v (PI z Q)
theorem mv_X1_bandTells : xmv yX1_bandTells cX1_bandTells 3 (some .int) 2 := ⟨⟨xgt_at 480 (by decide +kernel) (by decide +kernel), (xgt_at 79 (by decide +kernel) (by decide +kernel))⟩, by decide, by decide, by decide, by decide +kernel⟩
theorem mi_X1_bandTells : Cond.instanceMethod yX1_bandTells ∈ xgt ∧ Cond.selects yX1_bandTells.cls yX1_bandTells yX1_bandTells ∈ xgt := ⟨(xgt_at 478 (by decide +kernel) (by decide +kernel)), (xgt_at 479 (by decide +kernel) (by decide +kernel))⟩
abbrev oX1_bandTells (G : xG) (d : Nat) := OI G d yX1_bandTells cX1_bandTells 3 (some .int)
abbrev aX1_bandTells (G : xG) (d pc : Nat) (L : List (Option Value)) (st : List Value) (z : xZ) (v : xS) := fun Q => AW G d 0 0 yX1_bandTells cX1_bandTells 3 (some .int) RX1 0 0 pc L st z v (PI z Q)
theorem mv_X1_allInches : xmv yX1_allInches cX1_allInches 3 (some .int) 0 := ⟨⟨xgt_at 593 (by decide +kernel) (by decide +kernel), (xgt_at 79 (by decide +kernel) (by decide +kernel))⟩, by decide, by decide, by decide, by decide +kernel⟩
theorem mi_X1_allInches : Cond.instanceMethod yX1_allInches ∈ xgt ∧ Cond.selects yX1_allInches.cls yX1_allInches yX1_allInches ∈ xgt := ⟨(xgt_at 591 (by decide +kernel) (by decide +kernel)), (xgt_at 592 (by decide +kernel) (by decide +kernel))⟩
abbrev oX1_allInches (G : xG) (d : Nat) := OI G d yX1_allInches cX1_allInches 3 (some .int)
abbrev aX1_allInches (G : xG) (d pc : Nat) (L : List (Option Value)) (st : List Value) (z : xZ) (v : xS) := fun Q => AW G d 0 0 yX1_allInches cX1_allInches 3 (some .int) RX1 0 0 pc L st z v (PI z Q)
theorem mv_X1_firstHighest : xmv yX1_firstHighest cX1_firstHighest 6 (some .int) 3 := ⟨⟨xgt_at 641 (by decide +kernel) (by decide +kernel), (xgt_at 79 (by decide +kernel) (by decide +kernel))⟩, by decide, by decide, by decide, by decide +kernel⟩
theorem mi_X1_firstHighest : Cond.instanceMethod yX1_firstHighest ∈ xgt ∧ Cond.selects yX1_firstHighest.cls yX1_firstHighest yX1_firstHighest ∈ xgt := ⟨(xgt_at 639 (by decide +kernel) (by decide +kernel)), (xgt_at 640 (by decide +kernel) (by decide +kernel))⟩
abbrev oX1_firstHighest (G : xG) (d : Nat) := OI G d yX1_firstHighest cX1_firstHighest 6 (some .int)
abbrev aX1_firstHighest (G : xG) (d pc : Nat) (L : List (Option Value)) (st : List Value) (z : xZ) (v : xS) := fun Q => AW G d 0 0 yX1_firstHighest cX1_firstHighest 6 (some .int) RX1 0 0 pc L st z v (PI z Q)
theorem mv_X1_highestOf : xmv yX1_highestOf cX1_highestOf 2 (some .int) 1 := ⟨⟨xgt_at 637 (by decide +kernel) (by decide +kernel), (xgt_at 79 (by decide +kernel) (by decide +kernel))⟩, by decide, by decide, by decide, by decide +kernel⟩
theorem mi_X1_highestOf : Cond.instanceMethod yX1_highestOf ∈ xgt ∧ Cond.selects yX1_highestOf.cls yX1_highestOf yX1_highestOf ∈ xgt := ⟨(xgt_at 635 (by decide +kernel) (by decide +kernel)), (xgt_at 636 (by decide +kernel) (by decide +kernel))⟩
abbrev oX1_highestOf (G : xG) (d : Nat) := OI G d yX1_highestOf cX1_highestOf 2 (some .int)
abbrev aX1_highestOf (G : xG) (d pc : Nat) (L : List (Option Value)) (st : List Value) (z : xZ) (v : xS) := fun Q => AW G d 0 0 yX1_highestOf cX1_highestOf 2 (some .int) RX1 0 0 pc L st z v (PI z Q)
theorem mv_X1_inchesFrom : xmv yX1_inchesFrom cX1_inchesFrom 5 (some .int) 3 := ⟨⟨xgt_at 531 (by decide +kernel) (by decide +kernel), (xgt_at 79 (by decide +kernel) (by decide +kernel))⟩, by decide, by decide, by decide, by decide +kernel⟩
theorem mi_X1_inchesFrom : Cond.instanceMethod yX1_inchesFrom ∈ xgt ∧ Cond.selects yX1_inchesFrom.cls yX1_inchesFrom yX1_inchesFrom ∈ xgt := ⟨(xgt_at 529 (by decide +kernel) (by decide +kernel)), (xgt_at 530 (by decide +kernel) (by decide +kernel))⟩
abbrev oX1_inchesFrom (G : xG) (d : Nat) := OI G d yX1_inchesFrom cX1_inchesFrom 5 (some .int)
abbrev aX1_inchesFrom (G : xG) (d pc : Nat) (L : List (Option Value)) (st : List Value) (z : xZ) (v : xS) := fun Q => AW G d 0 0 yX1_inchesFrom cX1_inchesFrom 5 (some .int) RX1 0 0 pc L st z v (PI z Q)
theorem mv_X1_shift : xmv yX1_shift cX1_shift 7 (some .int) 4 := ⟨⟨xgt_at 526 (by decide +kernel) (by decide +kernel), (xgt_at 79 (by decide +kernel) (by decide +kernel))⟩, by decide, by decide, by decide, by decide +kernel⟩
theorem mi_X1_shift : Cond.instanceMethod yX1_shift ∈ xgt ∧ Cond.selects yX1_shift.cls yX1_shift yX1_shift ∈ xgt := ⟨(xgt_at 525 (by decide +kernel) (by decide +kernel)), (xgt_at 8 (by decide +kernel) (by decide +kernel))⟩
abbrev oX1_shift (G : xG) (d : Nat) := OI G d yX1_shift cX1_shift 7 (some .int)
abbrev aX1_shift (G : xG) (d pc : Nat) (L : List (Option Value)) (st : List Value) (z : xZ) (v : xS) := fun Q => AW G d 0 0 yX1_shift cX1_shift 7 (some .int) RX1 0 0 pc L st z v (PI z Q)
theorem mv_X1_playTune : xmv yX1_playTune cX1_playTune 7 (some .int) 3 := ⟨⟨xgt_at 519 (by decide +kernel) (by decide +kernel), (xgt_at 79 (by decide +kernel) (by decide +kernel))⟩, by decide, by decide, by decide, by decide +kernel⟩
theorem mi_X1_playTune : Cond.instanceMethod yX1_playTune ∈ xgt ∧ Cond.selects yX1_playTune.cls yX1_playTune yX1_playTune ∈ xgt := ⟨(xgt_at 517 (by decide +kernel) (by decide +kernel)), (xgt_at 518 (by decide +kernel) (by decide +kernel))⟩
abbrev oX1_playTune (G : xG) (d : Nat) := OI G d yX1_playTune cX1_playTune 7 (some .int)
abbrev aX1_playTune (G : xG) (d pc : Nat) (L : List (Option Value)) (st : List Value) (z : xZ) (v : xS) := fun Q => AW G d 0 0 yX1_playTune cX1_playTune 7 (some .int) RX1 0 0 pc L st z v (PI z Q)
theorem mv_X1_playAside : xmv yX1_playAside cX1_playAside 6 (some .int) 2 := ⟨⟨xgt_at 617 (by decide +kernel) (by decide +kernel), (xgt_at 79 (by decide +kernel) (by decide +kernel))⟩, by decide, by decide, by decide, by decide +kernel⟩
theorem mi_X1_playAside : Cond.instanceMethod yX1_playAside ∈ xgt ∧ Cond.selects yX1_playAside.cls yX1_playAside yX1_playAside ∈ xgt := ⟨(xgt_at 615 (by decide +kernel) (by decide +kernel)), (xgt_at 616 (by decide +kernel) (by decide +kernel))⟩
abbrev oX1_playAside (G : xG) (d : Nat) := OI G d yX1_playAside cX1_playAside 6 (some .int)
abbrev aX1_playAside (G : xG) (d pc : Nat) (L : List (Option Value)) (st : List Value) (z : xZ) (v : xS) := fun Q => AW G d 0 0 yX1_playAside cX1_playAside 6 (some .int) RX1 0 0 pc L st z v (PI z Q)
theorem mv_X1_playTruly : xmv yX1_playTruly cX1_playTruly 5 (some .int) 1 := ⟨⟨xgt_at 568 (by decide +kernel) (by decide +kernel), (xgt_at 79 (by decide +kernel) (by decide +kernel))⟩, by decide, by decide, by decide, by decide +kernel⟩
theorem mi_X1_playTruly : Cond.instanceMethod yX1_playTruly ∈ xgt ∧ Cond.selects yX1_playTruly.cls yX1_playTruly yX1_playTruly ∈ xgt := ⟨(xgt_at 566 (by decide +kernel) (by decide +kernel)), (xgt_at 567 (by decide +kernel) (by decide +kernel))⟩
abbrev oX1_playTruly (G : xG) (d : Nat) := OI G d yX1_playTruly cX1_playTruly 5 (some .int)
abbrev aX1_playTruly (G : xG) (d pc : Nat) (L : List (Option Value)) (st : List Value) (z : xZ) (v : xS) := fun Q => AW G d 0 0 yX1_playTruly cX1_playTruly 5 (some .int) RX1 0 0 pc L st z v (PI z Q)
theorem mv_X1_takeBack : xmv yX1_takeBack cX1_takeBack 3 (some .int) 1 := ⟨⟨xgt_at 585 (by decide +kernel) (by decide +kernel), (xgt_at 79 (by decide +kernel) (by decide +kernel))⟩, by decide, by decide, by decide, by decide +kernel⟩
theorem mi_X1_takeBack : Cond.instanceMethod yX1_takeBack ∈ xgt ∧ Cond.selects yX1_takeBack.cls yX1_takeBack yX1_takeBack ∈ xgt := ⟨(xgt_at 583 (by decide +kernel) (by decide +kernel)), (xgt_at 584 (by decide +kernel) (by decide +kernel))⟩
abbrev oX1_takeBack (G : xG) (d : Nat) := OI G d yX1_takeBack cX1_takeBack 3 (some .int)
abbrev aX1_takeBack (G : xG) (d pc : Nat) (L : List (Option Value)) (st : List Value) (z : xZ) (v : xS) := fun Q => AW G d 0 0 yX1_takeBack cX1_takeBack 3 (some .int) RX1 0 0 pc L st z v (PI z Q)
theorem mv_X1_mixedInto : xmv yX1_mixedInto cX1_mixedInto 7 (some .long) 1 := ⟨⟨xgt_at 867 (by decide +kernel) (by decide +kernel), (xgt_at 79 (by decide +kernel) (by decide +kernel))⟩, by decide, by decide, by decide, by decide +kernel⟩
theorem mi_X1_mixedInto : Cond.instanceMethod yX1_mixedInto ∈ xgt ∧ Cond.selects yX1_mixedInto.cls yX1_mixedInto yX1_mixedInto ∈ xgt := ⟨(xgt_at 865 (by decide +kernel) (by decide +kernel)), (xgt_at 866 (by decide +kernel) (by decide +kernel))⟩
abbrev oX1_mixedInto (G : xG) (d : Nat) := OL G d yX1_mixedInto cX1_mixedInto 7 (some .long)
abbrev aX1_mixedInto (G : xG) (d pc : Nat) (L : List (Option Value)) (st : List Value) (z : xZ) (v : xS) := fun Q => AW G d 0 0 yX1_mixedInto cX1_mixedInto 7 (some .long) RX1 0 0 pc L st z v (PL z Q)
theorem mv_X2_init : xmv yX2_init cX2_init 2 none 1 := ⟨⟨xgt_at 240 (by decide +kernel) (by decide +kernel), (xgt_at 81 (by decide +kernel) (by decide +kernel))⟩, by decide, by decide, by decide, by decide +kernel⟩
theorem mv_X2_aimFlat : xmv yX2_aimFlat cX2_aimFlat 3 none 1 := ⟨⟨xgt_at 670 (by decide +kernel) (by decide +kernel), (xgt_at 81 (by decide +kernel) (by decide +kernel))⟩, by decide, by decide, by decide, by decide +kernel⟩
theorem mi_X2_aimFlat : Cond.instanceMethod yX2_aimFlat ∈ xgt ∧ Cond.selects yX2_aimFlat.cls yX2_aimFlat yX2_aimFlat ∈ xgt := ⟨(xgt_at 668 (by decide +kernel) (by decide +kernel)), (xgt_at 669 (by decide +kernel) (by decide +kernel))⟩
abbrev oX2_aimFlat (G : xG) (d : Nat) := OV G d yX2_aimFlat cX2_aimFlat 3 none
abbrev aX2_aimFlat (G : xG) (d pc : Nat) (L : List (Option Value)) (st : List Value) (z : xZ) (v : xS) := fun Q => AW G d 0 0 yX2_aimFlat cX2_aimFlat 3 none RX2 0 0 pc L st z v (PV z Q)
theorem mv_X2_aimHigh : xmv yX2_aimHigh cX2_aimHigh 3 none 2 := ⟨⟨xgt_at 713 (by decide +kernel) (by decide +kernel), (xgt_at 81 (by decide +kernel) (by decide +kernel))⟩, by decide, by decide, by decide, by decide +kernel⟩
theorem mi_X2_aimHigh : Cond.instanceMethod yX2_aimHigh ∈ xgt ∧ Cond.selects yX2_aimHigh.cls yX2_aimHigh yX2_aimHigh ∈ xgt := ⟨(xgt_at 711 (by decide +kernel) (by decide +kernel)), (xgt_at 712 (by decide +kernel) (by decide +kernel))⟩
abbrev oX2_aimHigh (G : xG) (d : Nat) := OV G d yX2_aimHigh cX2_aimHigh 3 none
abbrev aX2_aimHigh (G : xG) (d pc : Nat) (L : List (Option Value)) (st : List Value) (z : xZ) (v : xS) := fun Q => AW G d 0 0 yX2_aimHigh cX2_aimHigh 3 none RX2 0 0 pc L st z v (PV z Q)
theorem mv_X2_isFound : xmv yX2_isFound cX2_isFound 4 (some .boolean) 1 := ⟨⟨xgt_at 685 (by decide +kernel) (by decide +kernel), (xgt_at 81 (by decide +kernel) (by decide +kernel))⟩, by decide, by decide, by decide, by decide +kernel⟩
theorem mi_X2_isFound : Cond.instanceMethod yX2_isFound ∈ xgt ∧ Cond.selects yX2_isFound.cls yX2_isFound yX2_isFound ∈ xgt := ⟨(xgt_at 683 (by decide +kernel) (by decide +kernel)), (xgt_at 684 (by decide +kernel) (by decide +kernel))⟩
abbrev oX2_isFound (G : xG) (d : Nat) := OI G d yX2_isFound cX2_isFound 4 (some .boolean)
abbrev aX2_isFound (G : xG) (d pc : Nat) (L : List (Option Value)) (st : List Value) (z : xZ) (v : xS) := fun Q => AW G d 0 0 yX2_isFound cX2_isFound 4 (some .boolean) RX2 0 0 pc L st z v (PI z Q)
theorem mv_X2_seek : xmv yX2_seek cX2_seek 7 none 3 := ⟨⟨xgt_at 692 (by decide +kernel) (by decide +kernel), (xgt_at 81 (by decide +kernel) (by decide +kernel))⟩, by decide, by decide, by decide, by decide +kernel⟩
theorem mi_X2_seek : Cond.instanceMethod yX2_seek ∈ xgt ∧ Cond.selects yX2_seek.cls yX2_seek yX2_seek ∈ xgt := ⟨(xgt_at 691 (by decide +kernel) (by decide +kernel)), (xgt_at 13 (by decide +kernel) (by decide +kernel))⟩
abbrev oX2_seek (G : xG) (d : Nat) := OV G d yX2_seek cX2_seek 7 none
abbrev aX2_seek (G : xG) (d pc : Nat) (L : List (Option Value)) (st : List Value) (z : xZ) (v : xS) := fun Q => AW G d 0 0 yX2_seek cX2_seek 7 none RX2 0 0 pc L st z v (PV z Q)
theorem mv_X2_isPlayedForUse : xmv yX2_isPlayedForUse cX2_isPlayedForUse 6 (some .boolean) 2 := ⟨⟨xgt_at 700 (by decide +kernel) (by decide +kernel), (xgt_at 81 (by decide +kernel) (by decide +kernel))⟩, by decide, by decide, by decide, by decide +kernel⟩
theorem mi_X2_isPlayedForUse : Cond.instanceMethod yX2_isPlayedForUse ∈ xgt ∧ Cond.selects yX2_isPlayedForUse.cls yX2_isPlayedForUse yX2_isPlayedForUse ∈ xgt := ⟨(xgt_at 699 (by decide +kernel) (by decide +kernel)), (xgt_at 15 (by decide +kernel) (by decide +kernel))⟩
abbrev oX2_isPlayedForUse (G : xG) (d : Nat) := OI G d yX2_isPlayedForUse cX2_isPlayedForUse 6 (some .boolean)
abbrev aX2_isPlayedForUse (G : xG) (d pc : Nat) (L : List (Option Value)) (st : List Value) (z : xZ) (v : xS) := fun Q => AW G d 0 0 yX2_isPlayedForUse cX2_isPlayedForUse 6 (some .boolean) RX2 0 0 pc L st z v (PI z Q)
theorem mv_X2_isWithinReach : xmv yX2_isWithinReach cX2_isWithinReach 4 (some .boolean) 2 := ⟨⟨xgt_at 696 (by decide +kernel) (by decide +kernel), (xgt_at 81 (by decide +kernel) (by decide +kernel))⟩, by decide, by decide, by decide, by decide +kernel⟩
theorem mi_X2_isWithinReach : Cond.instanceMethod yX2_isWithinReach ∈ xgt ∧ Cond.selects yX2_isWithinReach.cls yX2_isWithinReach yX2_isWithinReach ∈ xgt := ⟨(xgt_at 695 (by decide +kernel) (by decide +kernel)), (xgt_at 14 (by decide +kernel) (by decide +kernel))⟩
abbrev oX2_isWithinReach (G : xG) (d : Nat) := OI G d yX2_isWithinReach cX2_isWithinReach 4 (some .boolean)
abbrev aX2_isWithinReach (G : xG) (d pc : Nat) (L : List (Option Value)) (st : List Value) (z : xZ) (v : xS) := fun Q => AW G d 0 0 yX2_isWithinReach cX2_isWithinReach 4 (some .boolean) RX2 0 0 pc L st z v (PI z Q)
theorem mv_X2_mostTakenFrom : xmv yX2_mostTakenFrom cX2_mostTakenFrom 4 (some .int) 1 := ⟨⟨xgt_at 674 (by decide +kernel) (by decide +kernel), (xgt_at 81 (by decide +kernel) (by decide +kernel))⟩, by decide, by decide, by decide, by decide +kernel⟩
theorem mi_X2_mostTakenFrom : Cond.instanceMethod yX2_mostTakenFrom ∈ xgt ∧ Cond.selects yX2_mostTakenFrom.cls yX2_mostTakenFrom yX2_mostTakenFrom ∈ xgt := ⟨(xgt_at 673 (by decide +kernel) (by decide +kernel)), (xgt_at 11 (by decide +kernel) (by decide +kernel))⟩
abbrev oX2_mostTakenFrom (G : xG) (d : Nat) := OI G d yX2_mostTakenFrom cX2_mostTakenFrom 4 (some .int)
abbrev aX2_mostTakenFrom (G : xG) (d pc : Nat) (L : List (Option Value)) (st : List Value) (z : xZ) (v : xS) := fun Q => AW G d 0 0 yX2_mostTakenFrom cX2_mostTakenFrom 4 (some .int) RX2 0 0 pc L st z v (PI z Q)
theorem mv_X2_mostTakenBy : xmv yX2_mostTakenBy cX2_mostTakenBy 3 (some .int) 2 := ⟨⟨xgt_at 678 (by decide +kernel) (by decide +kernel), (xgt_at 81 (by decide +kernel) (by decide +kernel))⟩, by decide, by decide, by decide, by decide +kernel⟩
theorem mi_X2_mostTakenBy : Cond.instanceMethod yX2_mostTakenBy ∈ xgt ∧ Cond.selects yX2_mostTakenBy.cls yX2_mostTakenBy yX2_mostTakenBy ∈ xgt := ⟨(xgt_at 677 (by decide +kernel) (by decide +kernel)), (xgt_at 12 (by decide +kernel) (by decide +kernel))⟩
abbrev oX2_mostTakenBy (G : xG) (d : Nat) := OI G d yX2_mostTakenBy cX2_mostTakenBy 3 (some .int)
abbrev aX2_mostTakenBy (G : xG) (d pc : Nat) (L : List (Option Value)) (st : List Value) (z : xZ) (v : xS) := fun Q => AW G d 0 0 yX2_mostTakenBy cX2_mostTakenBy 3 (some .int) RX2 0 0 pc L st z v (PI z Q)
theorem mv_X2_mostGainedBy : xmv yX2_mostGainedBy cX2_mostGainedBy 6 (some .int) 1 := ⟨⟨xgt_at 717 (by decide +kernel) (by decide +kernel), (xgt_at 81 (by decide +kernel) (by decide +kernel))⟩, by decide, by decide, by decide, by decide +kernel⟩
theorem mi_X2_mostGainedBy : Cond.instanceMethod yX2_mostGainedBy ∈ xgt ∧ Cond.selects yX2_mostGainedBy.cls yX2_mostGainedBy yX2_mostGainedBy ∈ xgt := ⟨(xgt_at 716 (by decide +kernel) (by decide +kernel)), (xgt_at 17 (by decide +kernel) (by decide +kernel))⟩
abbrev oX2_mostGainedBy (G : xG) (d : Nat) := OI G d yX2_mostGainedBy cX2_mostGainedBy 6 (some .int)
abbrev aX2_mostGainedBy (G : xG) (d pc : Nat) (L : List (Option Value)) (st : List Value) (z : xZ) (v : xS) := fun Q => AW G d 0 0 yX2_mostGainedBy cX2_mostGainedBy 6 (some .int) RX2 0 0 pc L st z v (PI z Q)
theorem mv_X3_init : xmv yX3_init cX3_init 1 none 0 := ⟨⟨xgt_at 118 (by decide +kernel) (by decide +kernel), (xgt_at 78 (by decide +kernel) (by decide +kernel))⟩, by decide, by decide, by decide, by decide +kernel⟩
theorem mv_X3_read : xmv yX3_read cX3_read 7 (some .int) 2 := ⟨⟨xgt_at 424 (by decide +kernel) (by decide +kernel), (xgt_at 78 (by decide +kernel) (by decide +kernel))⟩, by decide, by decide, by decide, by decide +kernel⟩
theorem mi_X3_read : Cond.instanceMethod yX3_read ∈ xgt ∧ Cond.selects yX3_read.cls yX3_read yX3_read ∈ xgt := ⟨(xgt_at 422 (by decide +kernel) (by decide +kernel)), (xgt_at 423 (by decide +kernel) (by decide +kernel))⟩
abbrev oX3_read (G : xG) (d : Nat) := OI G d yX3_read cX3_read 7 (some .int)
abbrev aX3_read (G : xG) (d pc : Nat) (L : List (Option Value)) (st : List Value) (z : xZ) (v : xS) := fun Q => AW G d 0 0 yX3_read cX3_read 7 (some .int) RX3 0 0 pc L st z v (PI z Q)
theorem mv_X3_behindBlanks : xmv yX3_behindBlanks cX3_behindBlanks 5 (some .int) 3 := ⟨⟨xgt_at 429 (by decide +kernel) (by decide +kernel), (xgt_at 78 (by decide +kernel) (by decide +kernel))⟩, by decide, by decide, by decide, by decide +kernel⟩
theorem mi_X3_behindBlanks : Cond.instanceMethod yX3_behindBlanks ∈ xgt ∧ Cond.selects yX3_behindBlanks.cls yX3_behindBlanks yX3_behindBlanks ∈ xgt := ⟨(xgt_at 428 (by decide +kernel) (by decide +kernel)), (xgt_at 4 (by decide +kernel) (by decide +kernel))⟩
abbrev oX3_behindBlanks (G : xG) (d : Nat) := OI G d yX3_behindBlanks cX3_behindBlanks 5 (some .int)
abbrev aX3_behindBlanks (G : xG) (d pc : Nat) (L : List (Option Value)) (st : List Value) (z : xZ) (v : xS) := fun Q => AW G d 0 0 yX3_behindBlanks cX3_behindBlanks 5 (some .int) RX3 0 0 pc L st z v (PI z Q)
theorem mv_X3_behindHeights : xmv yX3_behindHeights cX3_behindHeights 5 (some .int) 3 := ⟨⟨xgt_at 434 (by decide +kernel) (by decide +kernel), (xgt_at 78 (by decide +kernel) (by decide +kernel))⟩, by decide, by decide, by decide, by decide +kernel⟩
theorem mi_X3_behindHeights : Cond.instanceMethod yX3_behindHeights ∈ xgt ∧ Cond.selects yX3_behindHeights.cls yX3_behindHeights yX3_behindHeights ∈ xgt := ⟨(xgt_at 433 (by decide +kernel) (by decide +kernel)), (xgt_at 5 (by decide +kernel) (by decide +kernel))⟩
abbrev oX3_behindHeights (G : xG) (d : Nat) := OI G d yX3_behindHeights cX3_behindHeights 5 (some .int)
abbrev aX3_behindHeights (G : xG) (d pc : Nat) (L : List (Option Value)) (st : List Value) (z : xZ) (v : xS) := fun Q => AW G d 0 0 yX3_behindHeights cX3_behindHeights 5 (some .int) RX3 0 0 pc L st z v (PI z Q)
theorem mv_X3_bandFault : xmv yX3_bandFault cX3_bandFault 7 (some .int) 3 := ⟨⟨xgt_at 442 (by decide +kernel) (by decide +kernel), (xgt_at 78 (by decide +kernel) (by decide +kernel))⟩, by decide, by decide, by decide, by decide +kernel⟩
theorem mi_X3_bandFault : Cond.instanceMethod yX3_bandFault ∈ xgt ∧ Cond.selects yX3_bandFault.cls yX3_bandFault yX3_bandFault ∈ xgt := ⟨(xgt_at 441 (by decide +kernel) (by decide +kernel)), (xgt_at 6 (by decide +kernel) (by decide +kernel))⟩
abbrev oX3_bandFault (G : xG) (d : Nat) := OI G d yX3_bandFault cX3_bandFault 7 (some .int)
abbrev aX3_bandFault (G : xG) (d pc : Nat) (L : List (Option Value)) (st : List Value) (z : xZ) (v : xS) := fun Q => AW G d 0 0 yX3_bandFault cX3_bandFault 7 (some .int) RX3 0 0 pc L st z v (PI z Q)
theorem mv_X3_figureAt : xmv yX3_figureAt cX3_figureAt 4 (some .int) 3 := ⟨⟨xgt_at 437 (by decide +kernel) (by decide +kernel), (xgt_at 78 (by decide +kernel) (by decide +kernel))⟩, by decide, by decide, by decide, by decide +kernel⟩
theorem ms_X3_figureAt : Cond.static yX3_figureAt ∈ xgt := (xgt_at 436 (by decide +kernel) (by decide +kernel))
abbrev oX3_figureAt (G : xG) (d : Nat) := OI G d yX3_figureAt cX3_figureAt 4 (some .int)
abbrev aX3_figureAt (G : xG) (d pc : Nat) (L : List (Option Value)) (st : List Value) (z : xZ) (v : xS) := fun Q => AW G d 0 0 yX3_figureAt cX3_figureAt 4 (some .int) RX3 0 0 pc L st z v (PI z Q)
theorem mv_X3_kindOf : xmv yX3_kindOf cX3_kindOf 2 (some .int) 1 := ⟨⟨xgt_at 445 (by decide +kernel) (by decide +kernel), (xgt_at 78 (by decide +kernel) (by decide +kernel))⟩, by decide, by decide, by decide, by decide +kernel⟩
theorem ms_X3_kindOf : Cond.static yX3_kindOf ∈ xgt := (xgt_at 444 (by decide +kernel) (by decide +kernel))
abbrev oX3_kindOf (G : xG) (d : Nat) := OI G d yX3_kindOf cX3_kindOf 2 (some .int)
abbrev aX3_kindOf (G : xG) (d pc : Nat) (L : List (Option Value)) (st : List Value) (z : xZ) (v : xS) := fun Q => AW G d 0 0 yX3_kindOf cX3_kindOf 2 (some .int) RX3 0 0 pc L st z v (PI z Q)
theorem mv_X4_init : xmv yX4_init cX4_init 4 none 2 := ⟨⟨xgt_at 98 (by decide +kernel) (by decide +kernel), (xgt_at 77 (by decide +kernel) (by decide +kernel))⟩, by decide, by decide, by decide, by decide +kernel⟩
theorem mv_X4_names : xmv yX4_names cX4_names 2 (some .boolean) 1 := ⟨⟨xgt_at 329 (by decide +kernel) (by decide +kernel), (xgt_at 77 (by decide +kernel) (by decide +kernel))⟩, by decide, by decide, by decide, by decide +kernel⟩
theorem mi_X4_names : Cond.instanceMethod yX4_names ∈ xgt ∧ Cond.selects yX4_names.cls yX4_names yX4_names ∈ xgt := ⟨(xgt_at 327 (by decide +kernel) (by decide +kernel)), (xgt_at 328 (by decide +kernel) (by decide +kernel))⟩
abbrev oX4_names (G : xG) (d : Nat) := OI G d yX4_names cX4_names 2 (some .boolean)
abbrev aX4_names (G : xG) (d pc : Nat) (L : List (Option Value)) (st : List Value) (z : xZ) (v : xS) := fun Q => AW G d 0 0 yX4_names cX4_names 2 (some .boolean) RX4 0 0 pc L st z v (PI z Q)
theorem mv_X4_holds : xmv yX4_holds cX4_holds 2 (some .boolean) 1 := ⟨⟨xgt_at 350 (by decide +kernel) (by decide +kernel), (xgt_at 77 (by decide +kernel) (by decide +kernel))⟩, by decide, by decide, by decide, by decide +kernel⟩
theorem mi_X4_holds : Cond.instanceMethod yX4_holds ∈ xgt ∧ Cond.selects yX4_holds.cls yX4_holds yX4_holds ∈ xgt := ⟨(xgt_at 348 (by decide +kernel) (by decide +kernel)), (xgt_at 349 (by decide +kernel) (by decide +kernel))⟩
abbrev oX4_holds (G : xG) (d : Nat) := OI G d yX4_holds cX4_holds 2 (some .boolean)
abbrev aX4_holds (G : xG) (d pc : Nat) (L : List (Option Value)) (st : List Value) (z : xZ) (v : xS) := fun Q => AW G d 0 0 yX4_holds cX4_holds 2 (some .boolean) RX4 0 0 pc L st z v (PI z Q)
theorem mv_X4_sizeOf : xmv yX4_sizeOf cX4_sizeOf 2 (some .int) 1 := ⟨⟨xgt_at 354 (by decide +kernel) (by decide +kernel), (xgt_at 77 (by decide +kernel) (by decide +kernel))⟩, by decide, by decide, by decide, by decide +kernel⟩
theorem mi_X4_sizeOf : Cond.instanceMethod yX4_sizeOf ∈ xgt ∧ Cond.selects yX4_sizeOf.cls yX4_sizeOf yX4_sizeOf ∈ xgt := ⟨(xgt_at 352 (by decide +kernel) (by decide +kernel)), (xgt_at 353 (by decide +kernel) (by decide +kernel))⟩
abbrev oX4_sizeOf (G : xG) (d : Nat) := OI G d yX4_sizeOf cX4_sizeOf 2 (some .int)
abbrev aX4_sizeOf (G : xG) (d pc : Nat) (L : List (Option Value)) (st : List Value) (z : xZ) (v : xS) := fun Q => AW G d 0 0 yX4_sizeOf cX4_sizeOf 2 (some .int) RX4 0 0 pc L st z v (PI z Q)
theorem mv_X4_reaches : xmv yX4_reaches cX4_reaches 3 (some .boolean) 2 := ⟨⟨xgt_at 358 (by decide +kernel) (by decide +kernel), (xgt_at 77 (by decide +kernel) (by decide +kernel))⟩, by decide, by decide, by decide, by decide +kernel⟩
theorem mi_X4_reaches : Cond.instanceMethod yX4_reaches ∈ xgt ∧ Cond.selects yX4_reaches.cls yX4_reaches yX4_reaches ∈ xgt := ⟨(xgt_at 356 (by decide +kernel) (by decide +kernel)), (xgt_at 357 (by decide +kernel) (by decide +kernel))⟩
abbrev oX4_reaches (G : xG) (d : Nat) := OI G d yX4_reaches cX4_reaches 3 (some .boolean)
abbrev aX4_reaches (G : xG) (d pc : Nat) (L : List (Option Value)) (st : List Value) (z : xZ) (v : xS) := fun Q => AW G d 0 0 yX4_reaches cX4_reaches 3 (some .boolean) RX4 0 0 pc L st z v (PI z Q)
theorem mv_X4_spans : xmv yX4_spans cX4_spans 5 (some .boolean) 3 := ⟨⟨xgt_at 391 (by decide +kernel) (by decide +kernel), (xgt_at 77 (by decide +kernel) (by decide +kernel))⟩, by decide, by decide, by decide, by decide +kernel⟩
theorem mi_X4_spans : Cond.instanceMethod yX4_spans ∈ xgt ∧ Cond.selects yX4_spans.cls yX4_spans yX4_spans ∈ xgt := ⟨(xgt_at 389 (by decide +kernel) (by decide +kernel)), (xgt_at 390 (by decide +kernel) (by decide +kernel))⟩
abbrev oX4_spans (G : xG) (d : Nat) := OI G d yX4_spans cX4_spans 5 (some .boolean)
abbrev aX4_spans (G : xG) (d pc : Nat) (L : List (Option Value)) (st : List Value) (z : xZ) (v : xS) := fun Q => AW G d 0 0 yX4_spans cX4_spans 5 (some .boolean) RX4 0 0 pc L st z v (PI z Q)
theorem mv_X4_get : xmv yX4_get cX4_get 3 (some .int) 2 := ⟨⟨xgt_at 362 (by decide +kernel) (by decide +kernel), (xgt_at 77 (by decide +kernel) (by decide +kernel))⟩, by decide, by decide, by decide, by decide +kernel⟩
theorem mi_X4_get : Cond.instanceMethod yX4_get ∈ xgt ∧ Cond.selects yX4_get.cls yX4_get yX4_get ∈ xgt := ⟨(xgt_at 360 (by decide +kernel) (by decide +kernel)), (xgt_at 361 (by decide +kernel) (by decide +kernel))⟩
abbrev oX4_get (G : xG) (d : Nat) := OI G d yX4_get cX4_get 3 (some .int)
abbrev aX4_get (G : xG) (d pc : Nat) (L : List (Option Value)) (st : List Value) (z : xZ) (v : xS) := fun Q => AW G d 0 0 yX4_get cX4_get 3 (some .int) RX4 0 0 pc L st z v (PI z Q)
theorem mv_X4_set : xmv yX4_set cX4_set 4 none 3 := ⟨⟨xgt_at 367 (by decide +kernel) (by decide +kernel), (xgt_at 77 (by decide +kernel) (by decide +kernel))⟩, by decide, by decide, by decide, by decide +kernel⟩
theorem mi_X4_set : Cond.instanceMethod yX4_set ∈ xgt ∧ Cond.selects yX4_set.cls yX4_set yX4_set ∈ xgt := ⟨(xgt_at 365 (by decide +kernel) (by decide +kernel)), (xgt_at 366 (by decide +kernel) (by decide +kernel))⟩
abbrev oX4_set (G : xG) (d : Nat) := OV G d yX4_set cX4_set 4 none
abbrev aX4_set (G : xG) (d pc : Nat) (L : List (Option Value)) (st : List Value) (z : xZ) (v : xS) := fun Q => AW G d 0 0 yX4_set cX4_set 4 none RX4 0 0 pc L st z v (PV z Q)
theorem mv_X4_open : xmv yX4_open cX4_open 5 none 3 := ⟨⟨xgt_at 337 (by decide +kernel) (by decide +kernel), (xgt_at 77 (by decide +kernel) (by decide +kernel))⟩, by decide, by decide, by decide, by decide +kernel⟩
theorem mi_X4_open : Cond.instanceMethod yX4_open ∈ xgt ∧ Cond.selects yX4_open.cls yX4_open yX4_open ∈ xgt := ⟨(xgt_at 335 (by decide +kernel) (by decide +kernel)), (xgt_at 336 (by decide +kernel) (by decide +kernel))⟩
abbrev oX4_open (G : xG) (d : Nat) := OV G d yX4_open cX4_open 5 none
abbrev aX4_open (G : xG) (d pc : Nat) (L : List (Option Value)) (st : List Value) (z : xZ) (v : xS) := fun Q => AW G d 0 0 yX4_open cX4_open 5 none RX4 0 0 pc L st z v (PV z Q)
theorem mv_X4_close : xmv yX4_close cX4_close 2 none 1 := ⟨⟨xgt_at 383 (by decide +kernel) (by decide +kernel), (xgt_at 77 (by decide +kernel) (by decide +kernel))⟩, by decide, by decide, by decide, by decide +kernel⟩
theorem mi_X4_close : Cond.instanceMethod yX4_close ∈ xgt ∧ Cond.selects yX4_close.cls yX4_close yX4_close ∈ xgt := ⟨(xgt_at 381 (by decide +kernel) (by decide +kernel)), (xgt_at 382 (by decide +kernel) (by decide +kernel))⟩
abbrev oX4_close (G : xG) (d : Nat) := OV G d yX4_close cX4_close 2 none
abbrev aX4_close (G : xG) (d pc : Nat) (L : List (Option Value)) (st : List Value) (z : xZ) (v : xS) := fun Q => AW G d 0 0 yX4_close cX4_close 2 none RX4 0 0 pc L st z v (PV z Q)
theorem mv_X4_transfer : xmv yX4_transfer cX4_transfer 6 none 5 := ⟨⟨xgt_at 395 (by decide +kernel) (by decide +kernel), (xgt_at 77 (by decide +kernel) (by decide +kernel))⟩, by decide, by decide, by decide, by decide +kernel⟩
theorem mi_X4_transfer : Cond.instanceMethod yX4_transfer ∈ xgt ∧ Cond.selects yX4_transfer.cls yX4_transfer yX4_transfer ∈ xgt := ⟨(xgt_at 393 (by decide +kernel) (by decide +kernel)), (xgt_at 394 (by decide +kernel) (by decide +kernel))⟩
abbrev oX4_transfer (G : xG) (d : Nat) := OV G d yX4_transfer cX4_transfer 6 none
abbrev aX4_transfer (G : xG) (d pc : Nat) (L : List (Option Value)) (st : List Value) (z : xZ) (v : xS) := fun Q => AW G d 0 0 yX4_transfer cX4_transfer 6 none RX4 0 0 pc L st z v (PV z Q)
theorem mv_X4_sumOf : xmv yX4_sumOf cX4_sumOf 6 (some .long) 1 := ⟨⟨xgt_at 408 (by decide +kernel) (by decide +kernel), (xgt_at 77 (by decide +kernel) (by decide +kernel))⟩, by decide, by decide, by decide, by decide +kernel⟩
theorem mi_X4_sumOf : Cond.instanceMethod yX4_sumOf ∈ xgt ∧ Cond.selects yX4_sumOf.cls yX4_sumOf yX4_sumOf ∈ xgt := ⟨(xgt_at 406 (by decide +kernel) (by decide +kernel)), (xgt_at 407 (by decide +kernel) (by decide +kernel))⟩
abbrev oX4_sumOf (G : xG) (d : Nat) := OL G d yX4_sumOf cX4_sumOf 6 (some .long)
abbrev aX4_sumOf (G : xG) (d pc : Nat) (L : List (Option Value)) (st : List Value) (z : xZ) (v : xS) := fun Q => AW G d 0 0 yX4_sumOf cX4_sumOf 6 (some .long) RX4 0 0 pc L st z v (PL z Q)
theorem mv_X4_held : xmv yX4_held cX4_held 3 (some .int) 0 := ⟨⟨xgt_at 844 (by decide +kernel) (by decide +kernel), (xgt_at 77 (by decide +kernel) (by decide +kernel))⟩, by decide, by decide, by decide, by decide +kernel⟩
theorem mi_X4_held : Cond.instanceMethod yX4_held ∈ xgt ∧ Cond.selects yX4_held.cls yX4_held yX4_held ∈ xgt := ⟨(xgt_at 842 (by decide +kernel) (by decide +kernel)), (xgt_at 843 (by decide +kernel) (by decide +kernel))⟩
abbrev oX4_held (G : xG) (d : Nat) := OI G d yX4_held cX4_held 3 (some .int)
abbrev aX4_held (G : xG) (d pc : Nat) (L : List (Option Value)) (st : List Value) (z : xZ) (v : xS) := fun Q => AW G d 0 0 yX4_held cX4_held 3 (some .int) RX4 0 0 pc L st z v (PI z Q)
theorem mv_X4_mixedInto : xmv yX4_mixedInto cX4_mixedInto 7 (some .long) 1 := ⟨⟨xgt_at 878 (by decide +kernel) (by decide +kernel), (xgt_at 77 (by decide +kernel) (by decide +kernel))⟩, by decide, by decide, by decide, by decide +kernel⟩
theorem mi_X4_mixedInto : Cond.instanceMethod yX4_mixedInto ∈ xgt ∧ Cond.selects yX4_mixedInto.cls yX4_mixedInto yX4_mixedInto ∈ xgt := ⟨(xgt_at 876 (by decide +kernel) (by decide +kernel)), (xgt_at 877 (by decide +kernel) (by decide +kernel))⟩
abbrev oX4_mixedInto (G : xG) (d : Nat) := OL G d yX4_mixedInto cX4_mixedInto 7 (some .long)
abbrev aX4_mixedInto (G : xG) (d pc : Nat) (L : List (Option Value)) (st : List Value) (z : xZ) (v : xS) := fun Q => AW G d 0 0 yX4_mixedInto cX4_mixedInto 7 (some .long) RX4 0 0 pc L st z v (PL z Q)
theorem mv_X5_init : xmv yX5_init cX5_init 1 none 0 := ⟨⟨xgt_at 90 (by decide +kernel) (by decide +kernel), (xgt_at 76 (by decide +kernel) (by decide +kernel))⟩, by decide, by decide, by decide, by decide +kernel⟩
theorem mv_X5_row : xmv yX5_row cX5_row 3 (some .int) 2 := ⟨⟨xgt_at 321 (by decide +kernel) (by decide +kernel), (xgt_at 76 (by decide +kernel) (by decide +kernel))⟩, by decide, by decide, by decide, by decide +kernel⟩
theorem mi_X5_row : Cond.instanceMethod yX5_row ∈ xgt ∧ Cond.selects yX5_row.cls yX5_row yX5_row ∈ xgt := ⟨(xgt_at 319 (by decide +kernel) (by decide +kernel)), (xgt_at 320 (by decide +kernel) (by decide +kernel))⟩
abbrev oX5_row (G : xG) (d : Nat) := OI G d yX5_row cX5_row 3 (some .int)
abbrev aX5_row (G : xG) (d pc : Nat) (L : List (Option Value)) (st : List Value) (z : xZ) (v : xS) := fun Q => AW G d 0 0 yX5_row cX5_row 3 (some .int) RX5 0 0 pc L st z v (PI z Q)
theorem mv_X5_lay : xmv yX5_lay cX5_lay 6 (some .int) 3 := ⟨⟨xgt_at 342 (by decide +kernel) (by decide +kernel), (xgt_at 76 (by decide +kernel) (by decide +kernel))⟩, by decide, by decide, by decide, by decide +kernel⟩
theorem mi_X5_lay : Cond.instanceMethod yX5_lay ∈ xgt ∧ Cond.selects yX5_lay.cls yX5_lay yX5_lay ∈ xgt := ⟨(xgt_at 340 (by decide +kernel) (by decide +kernel)), (xgt_at 341 (by decide +kernel) (by decide +kernel))⟩
abbrev oX5_lay (G : xG) (d : Nat) := OI G d yX5_lay cX5_lay 6 (some .int)
abbrev aX5_lay (G : xG) (d pc : Nat) (L : List (Option Value)) (st : List Value) (z : xZ) (v : xS) := fun Q => AW G d 0 0 yX5_lay cX5_lay 6 (some .int) RX5 0 0 pc L st z v (PI z Q)
theorem mv_X5_at : xmv yX5_at cX5_at 4 (some .int) 2 := ⟨⟨xgt_at 375 (by decide +kernel) (by decide +kernel), (xgt_at 76 (by decide +kernel) (by decide +kernel))⟩, by decide, by decide, by decide, by decide +kernel⟩
theorem mi_X5_at : Cond.instanceMethod yX5_at ∈ xgt ∧ Cond.selects yX5_at.cls yX5_at yX5_at ∈ xgt := ⟨(xgt_at 373 (by decide +kernel) (by decide +kernel)), (xgt_at 374 (by decide +kernel) (by decide +kernel))⟩
abbrev oX5_at (G : xG) (d : Nat) := OI G d yX5_at cX5_at 4 (some .int)
abbrev aX5_at (G : xG) (d pc : Nat) (L : List (Option Value)) (st : List Value) (z : xZ) (v : xS) := fun Q => AW G d 0 0 yX5_at cX5_at 4 (some .int) RX5 0 0 pc L st z v (PI z Q)
theorem mv_X5_tear : xmv yX5_tear cX5_tear 2 (some .int) 1 := ⟨⟨xgt_at 379 (by decide +kernel) (by decide +kernel), (xgt_at 76 (by decide +kernel) (by decide +kernel))⟩, by decide, by decide, by decide, by decide +kernel⟩
theorem mi_X5_tear : Cond.instanceMethod yX5_tear ∈ xgt ∧ Cond.selects yX5_tear.cls yX5_tear yX5_tear ∈ xgt := ⟨(xgt_at 377 (by decide +kernel) (by decide +kernel)), (xgt_at 378 (by decide +kernel) (by decide +kernel))⟩
abbrev oX5_tear (G : xG) (d : Nat) := OI G d yX5_tear cX5_tear 2 (some .int)
abbrev aX5_tear (G : xG) (d pc : Nat) (L : List (Option Value)) (st : List Value) (z : xZ) (v : xS) := fun Q => AW G d 0 0 yX5_tear cX5_tear 2 (some .int) RX5 0 0 pc L st z v (PI z Q)
theorem mv_X5_copy : xmv yX5_copy cX5_copy 6 (some .int) 5 := ⟨⟨xgt_at 387 (by decide +kernel) (by decide +kernel), (xgt_at 76 (by decide +kernel) (by decide +kernel))⟩, by decide, by decide, by decide, by decide +kernel⟩
theorem mi_X5_copy : Cond.instanceMethod yX5_copy ∈ xgt ∧ Cond.selects yX5_copy.cls yX5_copy yX5_copy ∈ xgt := ⟨(xgt_at 385 (by decide +kernel) (by decide +kernel)), (xgt_at 386 (by decide +kernel) (by decide +kernel))⟩
abbrev oX5_copy (G : xG) (d : Nat) := OI G d yX5_copy cX5_copy 6 (some .int)
abbrev aX5_copy (G : xG) (d pc : Nat) (L : List (Option Value)) (st : List Value) (z : xZ) (v : xS) := fun Q => AW G d 0 0 yX5_copy cX5_copy 6 (some .int) RX5 0 0 pc L st z v (PI z Q)
theorem mv_X5_mean : xmv yX5_mean cX5_mean 3 (some .int) 1 := ⟨⟨xgt_at 403 (by decide +kernel) (by decide +kernel), (xgt_at 76 (by decide +kernel) (by decide +kernel))⟩, by decide, by decide, by decide, by decide +kernel⟩
theorem mi_X5_mean : Cond.instanceMethod yX5_mean ∈ xgt ∧ Cond.selects yX5_mean.cls yX5_mean yX5_mean ∈ xgt := ⟨(xgt_at 401 (by decide +kernel) (by decide +kernel)), (xgt_at 402 (by decide +kernel) (by decide +kernel))⟩
abbrev oX5_mean (G : xG) (d : Nat) := OI G d yX5_mean cX5_mean 3 (some .int)
abbrev aX5_mean (G : xG) (d pc : Nat) (L : List (Option Value)) (st : List Value) (z : xZ) (v : xS) := fun Q => AW G d 0 0 yX5_mean cX5_mean 3 (some .int) RX5 0 0 pc L st z v (PI z Q)
theorem mv_X5_text : xmv yX5_text cX5_text 3 (some .int) 2 := ⟨⟨xgt_at 412 (by decide +kernel) (by decide +kernel), (xgt_at 76 (by decide +kernel) (by decide +kernel))⟩, by decide, by decide, by decide, by decide +kernel⟩
theorem mi_X5_text : Cond.instanceMethod yX5_text ∈ xgt ∧ Cond.selects yX5_text.cls yX5_text yX5_text ∈ xgt := ⟨(xgt_at 410 (by decide +kernel) (by decide +kernel)), (xgt_at 411 (by decide +kernel) (by decide +kernel))⟩
abbrev oX5_text (G : xG) (d : Nat) := OI G d yX5_text cX5_text 3 (some .int)
abbrev aX5_text (G : xG) (d pc : Nat) (L : List (Option Value)) (st : List Value) (z : xZ) (v : xS) := fun Q => AW G d 0 0 yX5_text cX5_text 3 (some .int) RX5 0 0 pc L st z v (PI z Q)
theorem mv_X5_put : xmv yX5_put cX5_put 6 (some .int) 3 := ⟨⟨xgt_at 416 (by decide +kernel) (by decide +kernel), (xgt_at 76 (by decide +kernel) (by decide +kernel))⟩, by decide, by decide, by decide, by decide +kernel⟩
theorem mi_X5_put : Cond.instanceMethod yX5_put ∈ xgt ∧ Cond.selects yX5_put.cls yX5_put yX5_put ∈ xgt := ⟨(xgt_at 414 (by decide +kernel) (by decide +kernel)), (xgt_at 415 (by decide +kernel) (by decide +kernel))⟩
abbrev oX5_put (G : xG) (d : Nat) := OI G d yX5_put cX5_put 6 (some .int)
abbrev aX5_put (G : xG) (d pc : Nat) (L : List (Option Value)) (st : List Value) (z : xZ) (v : xS) := fun Q => AW G d 0 0 yX5_put cX5_put 6 (some .int) RX5 0 0 pc L st z v (PI z Q)
theorem mv_X5_fault : xmv yX5_fault cX5_fault 2 (some .int) 1 := ⟨⟨xgt_at 420 (by decide +kernel) (by decide +kernel), (xgt_at 76 (by decide +kernel) (by decide +kernel))⟩, by decide, by decide, by decide, by decide +kernel⟩
theorem mi_X5_fault : Cond.instanceMethod yX5_fault ∈ xgt ∧ Cond.selects yX5_fault.cls yX5_fault yX5_fault ∈ xgt := ⟨(xgt_at 418 (by decide +kernel) (by decide +kernel)), (xgt_at 419 (by decide +kernel) (by decide +kernel))⟩
abbrev oX5_fault (G : xG) (d : Nat) := OI G d yX5_fault cX5_fault 2 (some .int)
abbrev aX5_fault (G : xG) (d pc : Nat) (L : List (Option Value)) (st : List Value) (z : xZ) (v : xS) := fun Q => AW G d 0 0 yX5_fault cX5_fault 2 (some .int) RX5 0 0 pc L st z v (PI z Q)
theorem mv_X5_land : xmv yX5_land cX5_land 3 (some .int) 1 := ⟨⟨xgt_at 451 (by decide +kernel) (by decide +kernel), (xgt_at 76 (by decide +kernel) (by decide +kernel))⟩, by decide, by decide, by decide, by decide +kernel⟩
theorem mi_X5_land : Cond.instanceMethod yX5_land ∈ xgt ∧ Cond.selects yX5_land.cls yX5_land yX5_land ∈ xgt := ⟨(xgt_at 449 (by decide +kernel) (by decide +kernel)), (xgt_at 450 (by decide +kernel) (by decide +kernel))⟩
abbrev oX5_land (G : xG) (d : Nat) := OI G d yX5_land cX5_land 3 (some .int)
abbrev aX5_land (G : xG) (d pc : Nat) (L : List (Option Value)) (st : List Value) (z : xZ) (v : xS) := fun Q => AW G d 0 0 yX5_land cX5_land 3 (some .int) RX5 0 0 pc L st z v (PI z Q)
theorem mv_X5_spot : xmv yX5_spot cX5_spot 2 (some .int) 1 := ⟨⟨xgt_at 460 (by decide +kernel) (by decide +kernel), (xgt_at 76 (by decide +kernel) (by decide +kernel))⟩, by decide, by decide, by decide, by decide +kernel⟩
theorem mi_X5_spot : Cond.instanceMethod yX5_spot ∈ xgt ∧ Cond.selects yX5_spot.cls yX5_spot yX5_spot ∈ xgt := ⟨(xgt_at 458 (by decide +kernel) (by decide +kernel)), (xgt_at 459 (by decide +kernel) (by decide +kernel))⟩
abbrev oX5_spot (G : xG) (d : Nat) := OI G d yX5_spot cX5_spot 2 (some .int)
abbrev aX5_spot (G : xG) (d pc : Nat) (L : List (Option Value)) (st : List Value) (z : xZ) (v : xS) := fun Q => AW G d 0 0 yX5_spot cX5_spot 2 (some .int) RX5 0 0 pc L st z v (PI z Q)
theorem mv_X5_band : xmv yX5_band cX5_band 3 (some .int) 2 := ⟨⟨xgt_at 472 (by decide +kernel) (by decide +kernel), (xgt_at 76 (by decide +kernel) (by decide +kernel))⟩, by decide, by decide, by decide, by decide +kernel⟩
theorem mi_X5_band : Cond.instanceMethod yX5_band ∈ xgt ∧ Cond.selects yX5_band.cls yX5_band yX5_band ∈ xgt := ⟨(xgt_at 470 (by decide +kernel) (by decide +kernel)), (xgt_at 471 (by decide +kernel) (by decide +kernel))⟩
abbrev oX5_band (G : xG) (d : Nat) := OI G d yX5_band cX5_band 3 (some .int)
abbrev aX5_band (G : xG) (d pc : Nat) (L : List (Option Value)) (st : List Value) (z : xZ) (v : xS) := fun Q => AW G d 0 0 yX5_band cX5_band 3 (some .int) RX5 0 0 pc L st z v (PI z Q)
theorem mv_X5_mark : xmv yX5_mark cX5_mark 3 (some .int) 2 := ⟨⟨xgt_at 500 (by decide +kernel) (by decide +kernel), (xgt_at 76 (by decide +kernel) (by decide +kernel))⟩, by decide, by decide, by decide, by decide +kernel⟩
theorem mi_X5_mark : Cond.instanceMethod yX5_mark ∈ xgt ∧ Cond.selects yX5_mark.cls yX5_mark yX5_mark ∈ xgt := ⟨(xgt_at 498 (by decide +kernel) (by decide +kernel)), (xgt_at 499 (by decide +kernel) (by decide +kernel))⟩
abbrev oX5_mark (G : xG) (d : Nat) := OI G d yX5_mark cX5_mark 3 (some .int)
abbrev aX5_mark (G : xG) (d pc : Nat) (L : List (Option Value)) (st : List Value) (z : xZ) (v : xS) := fun Q => AW G d 0 0 yX5_mark cX5_mark 3 (some .int) RX5 0 0 pc L st z v (PI z Q)
theorem mv_X5_frost : xmv yX5_frost cX5_frost 3 (some .int) 1 := ⟨⟨xgt_at 544 (by decide +kernel) (by decide +kernel), (xgt_at 76 (by decide +kernel) (by decide +kernel))⟩, by decide, by decide, by decide, by decide +kernel⟩
theorem mi_X5_frost : Cond.instanceMethod yX5_frost ∈ xgt ∧ Cond.selects yX5_frost.cls yX5_frost yX5_frost ∈ xgt := ⟨(xgt_at 542 (by decide +kernel) (by decide +kernel)), (xgt_at 543 (by decide +kernel) (by decide +kernel))⟩
abbrev oX5_frost (G : xG) (d : Nat) := OI G d yX5_frost cX5_frost 3 (some .int)
abbrev aX5_frost (G : xG) (d pc : Nat) (L : List (Option Value)) (st : List Value) (z : xZ) (v : xS) := fun Q => AW G d 0 0 yX5_frost cX5_frost 3 (some .int) RX5 0 0 pc L st z v (PI z Q)
theorem mv_X5_move : xmv yX5_move cX5_move 4 (some .int) 2 := ⟨⟨xgt_at 552 (by decide +kernel) (by decide +kernel), (xgt_at 76 (by decide +kernel) (by decide +kernel))⟩, by decide, by decide, by decide, by decide +kernel⟩
theorem mi_X5_move : Cond.instanceMethod yX5_move ∈ xgt ∧ Cond.selects yX5_move.cls yX5_move yX5_move ∈ xgt := ⟨(xgt_at 550 (by decide +kernel) (by decide +kernel)), (xgt_at 551 (by decide +kernel) (by decide +kernel))⟩
abbrev oX5_move (G : xG) (d : Nat) := OI G d yX5_move cX5_move 4 (some .int)
abbrev aX5_move (G : xG) (d pc : Nat) (L : List (Option Value)) (st : List Value) (z : xZ) (v : xS) := fun Q => AW G d 0 0 yX5_move cX5_move 4 (some .int) RX5 0 0 pc L st z v (PI z Q)
theorem mv_X5_evening : xmv yX5_evening cX5_evening 2 (some .int) 1 := ⟨⟨xgt_at 556 (by decide +kernel) (by decide +kernel), (xgt_at 76 (by decide +kernel) (by decide +kernel))⟩, by decide, by decide, by decide, by decide +kernel⟩
theorem mi_X5_evening : Cond.instanceMethod yX5_evening ∈ xgt ∧ Cond.selects yX5_evening.cls yX5_evening yX5_evening ∈ xgt := ⟨(xgt_at 554 (by decide +kernel) (by decide +kernel)), (xgt_at 555 (by decide +kernel) (by decide +kernel))⟩
abbrev oX5_evening (G : xG) (d : Nat) := OI G d yX5_evening cX5_evening 2 (some .int)
abbrev aX5_evening (G : xG) (d pc : Nat) (L : List (Option Value)) (st : List Value) (z : xZ) (v : xS) := fun Q => AW G d 0 0 yX5_evening cX5_evening 2 (some .int) RX5 0 0 pc L st z v (PI z Q)
theorem mv_X5_undo : xmv yX5_undo cX5_undo 2 (some .int) 1 := ⟨⟨xgt_at 581 (by decide +kernel) (by decide +kernel), (xgt_at 76 (by decide +kernel) (by decide +kernel))⟩, by decide, by decide, by decide, by decide +kernel⟩
theorem mi_X5_undo : Cond.instanceMethod yX5_undo ∈ xgt ∧ Cond.selects yX5_undo.cls yX5_undo yX5_undo ∈ xgt := ⟨(xgt_at 579 (by decide +kernel) (by decide +kernel)), (xgt_at 580 (by decide +kernel) (by decide +kernel))⟩
abbrev oX5_undo (G : xG) (d : Nat) := OI G d yX5_undo cX5_undo 2 (some .int)
abbrev aX5_undo (G : xG) (d pc : Nat) (L : List (Option Value)) (st : List Value) (z : xZ) (v : xS) := fun Q => AW G d 0 0 yX5_undo cX5_undo 2 (some .int) RX5 0 0 pc L st z v (PI z Q)
theorem mv_X5_heights : xmv yX5_heights cX5_heights 3 (some .int) 1 := ⟨⟨xgt_at 589 (by decide +kernel) (by decide +kernel), (xgt_at 76 (by decide +kernel) (by decide +kernel))⟩, by decide, by decide, by decide, by decide +kernel⟩
theorem mi_X5_heights : Cond.instanceMethod yX5_heights ∈ xgt ∧ Cond.selects yX5_heights.cls yX5_heights yX5_heights ∈ xgt := ⟨(xgt_at 587 (by decide +kernel) (by decide +kernel)), (xgt_at 588 (by decide +kernel) (by decide +kernel))⟩
abbrev oX5_heights (G : xG) (d : Nat) := OI G d yX5_heights cX5_heights 3 (some .int)
abbrev aX5_heights (G : xG) (d pc : Nat) (L : List (Option Value)) (st : List Value) (z : xZ) (v : xS) := fun Q => AW G d 0 0 yX5_heights cX5_heights 3 (some .int) RX5 0 0 pc L st z v (PI z Q)
theorem mv_X5_keep : xmv yX5_keep cX5_keep 3 (some .int) 1 := ⟨⟨xgt_at 597 (by decide +kernel) (by decide +kernel), (xgt_at 76 (by decide +kernel) (by decide +kernel))⟩, by decide, by decide, by decide, by decide +kernel⟩
theorem mi_X5_keep : Cond.instanceMethod yX5_keep ∈ xgt ∧ Cond.selects yX5_keep.cls yX5_keep yX5_keep ∈ xgt := ⟨(xgt_at 595 (by decide +kernel) (by decide +kernel)), (xgt_at 596 (by decide +kernel) (by decide +kernel))⟩
abbrev oX5_keep (G : xG) (d : Nat) := OI G d yX5_keep cX5_keep 3 (some .int)
abbrev aX5_keep (G : xG) (d pc : Nat) (L : List (Option Value)) (st : List Value) (z : xZ) (v : xS) := fun Q => AW G d 0 0 yX5_keep cX5_keep 3 (some .int) RX5 0 0 pc L st z v (PI z Q)
theorem mv_X5_on : xmv yX5_on cX5_on 3 (some .int) 1 := ⟨⟨xgt_at 605 (by decide +kernel) (by decide +kernel), (xgt_at 76 (by decide +kernel) (by decide +kernel))⟩, by decide, by decide, by decide, by decide +kernel⟩
theorem mi_X5_on : Cond.instanceMethod yX5_on ∈ xgt ∧ Cond.selects yX5_on.cls yX5_on yX5_on ∈ xgt := ⟨(xgt_at 603 (by decide +kernel) (by decide +kernel)), (xgt_at 604 (by decide +kernel) (by decide +kernel))⟩
abbrev oX5_on (G : xG) (d : Nat) := OI G d yX5_on cX5_on 3 (some .int)
abbrev aX5_on (G : xG) (d pc : Nat) (L : List (Option Value)) (st : List Value) (z : xZ) (v : xS) := fun Q => AW G d 0 0 yX5_on cX5_on 3 (some .int) RX5 0 0 pc L st z v (PI z Q)
theorem mv_X5_behind : xmv yX5_behind cX5_behind 5 (some .int) 3 := ⟨⟨xgt_at 609 (by decide +kernel) (by decide +kernel), (xgt_at 76 (by decide +kernel) (by decide +kernel))⟩, by decide, by decide, by decide, by decide +kernel⟩
theorem mi_X5_behind : Cond.instanceMethod yX5_behind ∈ xgt ∧ Cond.selects yX5_behind.cls yX5_behind yX5_behind ∈ xgt := ⟨(xgt_at 607 (by decide +kernel) (by decide +kernel)), (xgt_at 608 (by decide +kernel) (by decide +kernel))⟩
abbrev oX5_behind (G : xG) (d : Nat) := OI G d yX5_behind cX5_behind 5 (some .int)
abbrev aX5_behind (G : xG) (d pc : Nat) (L : List (Option Value)) (st : List Value) (z : xZ) (v : xS) := fun Q => AW G d 0 0 yX5_behind cX5_behind 5 (some .int) RX5 0 0 pc L st z v (PI z Q)
theorem mv_X5_rest : xmv yX5_rest cX5_rest 3 (some .int) 1 := ⟨⟨xgt_at 621 (by decide +kernel) (by decide +kernel), (xgt_at 76 (by decide +kernel) (by decide +kernel))⟩, by decide, by decide, by decide, by decide +kernel⟩
theorem mi_X5_rest : Cond.instanceMethod yX5_rest ∈ xgt ∧ Cond.selects yX5_rest.cls yX5_rest yX5_rest ∈ xgt := ⟨(xgt_at 619 (by decide +kernel) (by decide +kernel)), (xgt_at 620 (by decide +kernel) (by decide +kernel))⟩
abbrev oX5_rest (G : xG) (d : Nat) := OI G d yX5_rest cX5_rest 3 (some .int)
abbrev aX5_rest (G : xG) (d pc : Nat) (L : List (Option Value)) (st : List Value) (z : xZ) (v : xS) := fun Q => AW G d 0 0 yX5_rest cX5_rest 3 (some .int) RX5 0 0 pc L st z v (PI z Q)
theorem mv_X5_round : xmv yX5_round cX5_round 2 (some .int) 1 := ⟨⟨xgt_at 645 (by decide +kernel) (by decide +kernel), (xgt_at 76 (by decide +kernel) (by decide +kernel))⟩, by decide, by decide, by decide, by decide +kernel⟩
theorem mi_X5_round : Cond.instanceMethod yX5_round ∈ xgt ∧ Cond.selects yX5_round.cls yX5_round yX5_round ∈ xgt := ⟨(xgt_at 643 (by decide +kernel) (by decide +kernel)), (xgt_at 644 (by decide +kernel) (by decide +kernel))⟩
abbrev oX5_round (G : xG) (d : Nat) := OI G d yX5_round cX5_round 2 (some .int)
abbrev aX5_round (G : xG) (d pc : Nat) (L : List (Option Value)) (st : List Value) (z : xZ) (v : xS) := fun Q => AW G d 0 0 yX5_round cX5_round 2 (some .int) RX5 0 0 pc L st z v (PI z Q)
theorem mv_X5_highest : xmv yX5_highest cX5_highest 2 (some .int) 1 := ⟨⟨xgt_at 653 (by decide +kernel) (by decide +kernel), (xgt_at 76 (by decide +kernel) (by decide +kernel))⟩, by decide, by decide, by decide, by decide +kernel⟩
theorem mi_X5_highest : Cond.instanceMethod yX5_highest ∈ xgt ∧ Cond.selects yX5_highest.cls yX5_highest yX5_highest ∈ xgt := ⟨(xgt_at 651 (by decide +kernel) (by decide +kernel)), (xgt_at 652 (by decide +kernel) (by decide +kernel))⟩
abbrev oX5_highest (G : xG) (d : Nat) := OI G d yX5_highest cX5_highest 2 (some .int)
abbrev aX5_highest (G : xG) (d pc : Nat) (L : List (Option Value)) (st : List Value) (z : xZ) (v : xS) := fun Q => AW G d 0 0 yX5_highest cX5_highest 2 (some .int) RX5 0 0 pc L st z v (PI z Q)
theorem mv_X5_lowest : xmv yX5_lowest cX5_lowest 2 (some .int) 1 := ⟨⟨xgt_at 662 (by decide +kernel) (by decide +kernel), (xgt_at 76 (by decide +kernel) (by decide +kernel))⟩, by decide, by decide, by decide, by decide +kernel⟩
theorem mi_X5_lowest : Cond.instanceMethod yX5_lowest ∈ xgt ∧ Cond.selects yX5_lowest.cls yX5_lowest yX5_lowest ∈ xgt := ⟨(xgt_at 660 (by decide +kernel) (by decide +kernel)), (xgt_at 661 (by decide +kernel) (by decide +kernel))⟩
abbrev oX5_lowest (G : xG) (d : Nat) := OI G d yX5_lowest cX5_lowest 2 (some .int)
abbrev aX5_lowest (G : xG) (d pc : Nat) (L : List (Option Value)) (st : List Value) (z : xZ) (v : xS) := fun Q => AW G d 0 0 yX5_lowest cX5_lowest 2 (some .int) RX5 0 0 pc L st z v (PI z Q)
theorem mv_X5_flat : xmv yX5_flat cX5_flat 4 (some .int) 2 := ⟨⟨xgt_at 666 (by decide +kernel) (by decide +kernel), (xgt_at 76 (by decide +kernel) (by decide +kernel))⟩, by decide, by decide, by decide, by decide +kernel⟩
theorem mi_X5_flat : Cond.instanceMethod yX5_flat ∈ xgt ∧ Cond.selects yX5_flat.cls yX5_flat yX5_flat ∈ xgt := ⟨(xgt_at 664 (by decide +kernel) (by decide +kernel)), (xgt_at 665 (by decide +kernel) (by decide +kernel))⟩
abbrev oX5_flat (G : xG) (d : Nat) := OI G d yX5_flat cX5_flat 4 (some .int)
abbrev aX5_flat (G : xG) (d pc : Nat) (L : List (Option Value)) (st : List Value) (z : xZ) (v : xS) := fun Q => AW G d 0 0 yX5_flat cX5_flat 4 (some .int) RX5 0 0 pc L st z v (PI z Q)
theorem mv_X5_raise : xmv yX5_raise cX5_raise 5 (some .int) 4 := ⟨⟨xgt_at 709 (by decide +kernel) (by decide +kernel), (xgt_at 76 (by decide +kernel) (by decide +kernel))⟩, by decide, by decide, by decide, by decide +kernel⟩
theorem mi_X5_raise : Cond.instanceMethod yX5_raise ∈ xgt ∧ Cond.selects yX5_raise.cls yX5_raise yX5_raise ∈ xgt := ⟨(xgt_at 707 (by decide +kernel) (by decide +kernel)), (xgt_at 708 (by decide +kernel) (by decide +kernel))⟩
abbrev oX5_raise (G : xG) (d : Nat) := OI G d yX5_raise cX5_raise 5 (some .int)
abbrev aX5_raise (G : xG) (d pc : Nat) (L : List (Option Value)) (st : List Value) (z : xZ) (v : xS) := fun Q => AW G d 0 0 yX5_raise cX5_raise 5 (some .int) RX5 0 0 pc L st z v (PI z Q)
theorem mv_X5_keeps : xmv yX5_keeps cX5_keeps 3 (some .int) 1 := ⟨⟨xgt_at 724 (by decide +kernel) (by decide +kernel), (xgt_at 76 (by decide +kernel) (by decide +kernel))⟩, by decide, by decide, by decide, by decide +kernel⟩
theorem mi_X5_keeps : Cond.instanceMethod yX5_keeps ∈ xgt ∧ Cond.selects yX5_keeps.cls yX5_keeps yX5_keeps ∈ xgt := ⟨(xgt_at 722 (by decide +kernel) (by decide +kernel)), (xgt_at 723 (by decide +kernel) (by decide +kernel))⟩
abbrev oX5_keeps (G : xG) (d : Nat) := OI G d yX5_keeps cX5_keeps 3 (some .int)
abbrev aX5_keeps (G : xG) (d pc : Nat) (L : List (Option Value)) (st : List Value) (z : xZ) (v : xS) := fun Q => AW G d 0 0 yX5_keeps cX5_keeps 3 (some .int) RX5 0 0 pc L st z v (PI z Q)
theorem mv_X5_rivals : xmv yX5_rivals cX5_rivals 6 (some .int) 4 := ⟨⟨xgt_at 735 (by decide +kernel) (by decide +kernel), (xgt_at 76 (by decide +kernel) (by decide +kernel))⟩, by decide, by decide, by decide, by decide +kernel⟩
theorem mi_X5_rivals : Cond.instanceMethod yX5_rivals ∈ xgt ∧ Cond.selects yX5_rivals.cls yX5_rivals yX5_rivals ∈ xgt := ⟨(xgt_at 733 (by decide +kernel) (by decide +kernel)), (xgt_at 734 (by decide +kernel) (by decide +kernel))⟩
abbrev oX5_rivals (G : xG) (d : Nat) := OI G d yX5_rivals cX5_rivals 6 (some .int)
abbrev aX5_rivals (G : xG) (d pc : Nat) (L : List (Option Value)) (st : List Value) (z : xZ) (v : xS) := fun Q => AW G d 0 0 yX5_rivals cX5_rivals 6 (some .int) RX5 0 0 pc L st z v (PI z Q)
theorem mv_X5_played : xmv yX5_played cX5_played 7 (some .int) 1 := ⟨⟨xgt_at 747 (by decide +kernel) (by decide +kernel), (xgt_at 76 (by decide +kernel) (by decide +kernel))⟩, by decide, by decide, by decide, by decide +kernel⟩
theorem mi_X5_played : Cond.instanceMethod yX5_played ∈ xgt ∧ Cond.selects yX5_played.cls yX5_played yX5_played ∈ xgt := ⟨(xgt_at 745 (by decide +kernel) (by decide +kernel)), (xgt_at 746 (by decide +kernel) (by decide +kernel))⟩
abbrev oX5_played (G : xG) (d : Nat) := OI G d yX5_played cX5_played 7 (some .int)
abbrev aX5_played (G : xG) (d pc : Nat) (L : List (Option Value)) (st : List Value) (z : xZ) (v : xS) := fun Q => AW G d 0 0 yX5_played cX5_played 7 (some .int) RX5 0 0 pc L st z v (PI z Q)
theorem mv_X5_could : xmv yX5_could cX5_could 7 (some .int) 2 := ⟨⟨xgt_at 763 (by decide +kernel) (by decide +kernel), (xgt_at 76 (by decide +kernel) (by decide +kernel))⟩, by decide, by decide, by decide, by decide +kernel⟩
theorem mi_X5_could : Cond.instanceMethod yX5_could ∈ xgt ∧ Cond.selects yX5_could.cls yX5_could yX5_could ∈ xgt := ⟨(xgt_at 761 (by decide +kernel) (by decide +kernel)), (xgt_at 762 (by decide +kernel) (by decide +kernel))⟩
abbrev oX5_could (G : xG) (d : Nat) := OI G d yX5_could cX5_could 7 (some .int)
abbrev aX5_could (G : xG) (d pc : Nat) (L : List (Option Value)) (st : List Value) (z : xZ) (v : xS) := fun Q => AW G d 0 0 yX5_could cX5_could 7 (some .int) RX5 0 0 pc L st z v (PI z Q)
theorem mv_X5_twice : xmv yX5_twice cX5_twice 8 (some .int) 1 := ⟨⟨xgt_at 768 (by decide +kernel) (by decide +kernel), (xgt_at 76 (by decide +kernel) (by decide +kernel))⟩, by decide, by decide, by decide, by decide +kernel⟩
theorem mi_X5_twice : Cond.instanceMethod yX5_twice ∈ xgt ∧ Cond.selects yX5_twice.cls yX5_twice yX5_twice ∈ xgt := ⟨(xgt_at 766 (by decide +kernel) (by decide +kernel)), (xgt_at 767 (by decide +kernel) (by decide +kernel))⟩
abbrev oX5_twice (G : xG) (d : Nat) := OI G d yX5_twice cX5_twice 8 (some .int)
abbrev aX5_twice (G : xG) (d pc : Nat) (L : List (Option Value)) (st : List Value) (z : xZ) (v : xS) := fun Q => AW G d 0 0 yX5_twice cX5_twice 8 (some .int) RX5 0 0 pc L st z v (PI z Q)
theorem mv_X5_valleys : xmv yX5_valleys cX5_valleys 5 (some .int) 0 := ⟨⟨xgt_at 773 (by decide +kernel) (by decide +kernel), (xgt_at 76 (by decide +kernel) (by decide +kernel))⟩, by decide, by decide, by decide, by decide +kernel⟩
theorem mi_X5_valleys : Cond.instanceMethod yX5_valleys ∈ xgt ∧ Cond.selects yX5_valleys.cls yX5_valleys yX5_valleys ∈ xgt := ⟨(xgt_at 771 (by decide +kernel) (by decide +kernel)), (xgt_at 772 (by decide +kernel) (by decide +kernel))⟩
abbrev oX5_valleys (G : xG) (d : Nat) := OI G d yX5_valleys cX5_valleys 5 (some .int)
abbrev aX5_valleys (G : xG) (d pc : Nat) (L : List (Option Value)) (st : List Value) (z : xZ) (v : xS) := fun Q => AW G d 0 0 yX5_valleys cX5_valleys 5 (some .int) RX5 0 0 pc L st z v (PI z Q)
theorem mv_X5_top : xmv yX5_top cX5_top 2 (some .int) 0 := ⟨⟨xgt_at 778 (by decide +kernel) (by decide +kernel), (xgt_at 76 (by decide +kernel) (by decide +kernel))⟩, by decide, by decide, by decide, by decide +kernel⟩
theorem mi_X5_top : Cond.instanceMethod yX5_top ∈ xgt ∧ Cond.selects yX5_top.cls yX5_top yX5_top ∈ xgt := ⟨(xgt_at 776 (by decide +kernel) (by decide +kernel)), (xgt_at 777 (by decide +kernel) (by decide +kernel))⟩
abbrev oX5_top (G : xG) (d : Nat) := OI G d yX5_top cX5_top 2 (some .int)
abbrev aX5_top (G : xG) (d pc : Nat) (L : List (Option Value)) (st : List Value) (z : xZ) (v : xS) := fun Q => AW G d 0 0 yX5_top cX5_top 2 (some .int) RX5 0 0 pc L st z v (PI z Q)
theorem mv_X5_border : xmv yX5_border cX5_border 4 (some .int) 2 := ⟨⟨xgt_at 783 (by decide +kernel) (by decide +kernel), (xgt_at 76 (by decide +kernel) (by decide +kernel))⟩, by decide, by decide, by decide, by decide +kernel⟩
theorem mi_X5_border : Cond.instanceMethod yX5_border ∈ xgt ∧ Cond.selects yX5_border.cls yX5_border yX5_border ∈ xgt := ⟨(xgt_at 781 (by decide +kernel) (by decide +kernel)), (xgt_at 782 (by decide +kernel) (by decide +kernel))⟩
abbrev oX5_border (G : xG) (d : Nat) := OI G d yX5_border cX5_border 4 (some .int)
abbrev aX5_border (G : xG) (d pc : Nat) (L : List (Option Value)) (st : List Value) (z : xZ) (v : xS) := fun Q => AW G d 0 0 yX5_border cX5_border 4 (some .int) RX5 0 0 pc L st z v (PI z Q)
theorem mv_X5_shifts : xmv yX5_shifts cX5_shifts 8 (some .int) 2 := ⟨⟨xgt_at 791 (by decide +kernel) (by decide +kernel), (xgt_at 76 (by decide +kernel) (by decide +kernel))⟩, by decide, by decide, by decide, by decide +kernel⟩
theorem mi_X5_shifts : Cond.instanceMethod yX5_shifts ∈ xgt ∧ Cond.selects yX5_shifts.cls yX5_shifts yX5_shifts ∈ xgt := ⟨(xgt_at 789 (by decide +kernel) (by decide +kernel)), (xgt_at 790 (by decide +kernel) (by decide +kernel))⟩
abbrev oX5_shifts (G : xG) (d : Nat) := OI G d yX5_shifts cX5_shifts 8 (some .int)
abbrev aX5_shifts (G : xG) (d pc : Nat) (L : List (Option Value)) (st : List Value) (z : xZ) (v : xS) := fun Q => AW G d 0 0 yX5_shifts cX5_shifts 8 (some .int) RX5 0 0 pc L st z v (PI z Q)
theorem mv_X5_far : xmv yX5_far cX5_far 6 (some .int) 1 := ⟨⟨xgt_at 795 (by decide +kernel) (by decide +kernel), (xgt_at 76 (by decide +kernel) (by decide +kernel))⟩, by decide, by decide, by decide, by decide +kernel⟩
theorem mi_X5_far : Cond.instanceMethod yX5_far ∈ xgt ∧ Cond.selects yX5_far.cls yX5_far yX5_far ∈ xgt := ⟨(xgt_at 793 (by decide +kernel) (by decide +kernel)), (xgt_at 794 (by decide +kernel) (by decide +kernel))⟩
abbrev oX5_far (G : xG) (d : Nat) := OI G d yX5_far cX5_far 6 (some .int)
abbrev aX5_far (G : xG) (d pc : Nat) (L : List (Option Value)) (st : List Value) (z : xZ) (v : xS) := fun Q => AW G d 0 0 yX5_far cX5_far 6 (some .int) RX5 0 0 pc L st z v (PI z Q)
theorem mv_X5_season : xmv yX5_season cX5_season 8 (some .int) 2 := ⟨⟨xgt_at 800 (by decide +kernel) (by decide +kernel), (xgt_at 76 (by decide +kernel) (by decide +kernel))⟩, by decide, by decide, by decide, by decide +kernel⟩
theorem mi_X5_season : Cond.instanceMethod yX5_season ∈ xgt ∧ Cond.selects yX5_season.cls yX5_season yX5_season ∈ xgt := ⟨(xgt_at 798 (by decide +kernel) (by decide +kernel)), (xgt_at 799 (by decide +kernel) (by decide +kernel))⟩
abbrev oX5_season (G : xG) (d : Nat) := OI G d yX5_season cX5_season 8 (some .int)
abbrev aX5_season (G : xG) (d pc : Nat) (L : List (Option Value)) (st : List Value) (z : xZ) (v : xS) := fun Q => AW G d 0 0 yX5_season cX5_season 8 (some .int) RX5 0 0 pc L st z v (PI z Q)
theorem mv_X5_asked : xmv yX5_asked cX5_asked 1 (some .int) 0 := ⟨⟨xgt_at 814 (by decide +kernel) (by decide +kernel), (xgt_at 76 (by decide +kernel) (by decide +kernel))⟩, by decide, by decide, by decide, by decide +kernel⟩
theorem mi_X5_asked : Cond.instanceMethod yX5_asked ∈ xgt ∧ Cond.selects yX5_asked.cls yX5_asked yX5_asked ∈ xgt := ⟨(xgt_at 812 (by decide +kernel) (by decide +kernel)), (xgt_at 813 (by decide +kernel) (by decide +kernel))⟩
abbrev oX5_asked (G : xG) (d : Nat) := OI G d yX5_asked cX5_asked 1 (some .int)
abbrev aX5_asked (G : xG) (d pc : Nat) (L : List (Option Value)) (st : List Value) (z : xZ) (v : xS) := fun Q => AW G d 0 0 yX5_asked cX5_asked 1 (some .int) RX5 0 0 pc L st z v (PI z Q)
theorem mv_X5_upper : xmv yX5_upper cX5_upper 3 (some .long) 0 := ⟨⟨xgt_at 818 (by decide +kernel) (by decide +kernel), (xgt_at 76 (by decide +kernel) (by decide +kernel))⟩, by decide, by decide, by decide, by decide +kernel⟩
theorem mi_X5_upper : Cond.instanceMethod yX5_upper ∈ xgt ∧ Cond.selects yX5_upper.cls yX5_upper yX5_upper ∈ xgt := ⟨(xgt_at 816 (by decide +kernel) (by decide +kernel)), (xgt_at 817 (by decide +kernel) (by decide +kernel))⟩
abbrev oX5_upper (G : xG) (d : Nat) := OL G d yX5_upper cX5_upper 3 (some .long)
abbrev aX5_upper (G : xG) (d pc : Nat) (L : List (Option Value)) (st : List Value) (z : xZ) (v : xS) := fun Q => AW G d 0 0 yX5_upper cX5_upper 3 (some .long) RX5 0 0 pc L st z v (PL z Q)
theorem mv_X5_lower : xmv yX5_lower cX5_lower 2 (some .long) 0 := ⟨⟨xgt_at 825 (by decide +kernel) (by decide +kernel), (xgt_at 76 (by decide +kernel) (by decide +kernel))⟩, by decide, by decide, by decide, by decide +kernel⟩
theorem mi_X5_lower : Cond.instanceMethod yX5_lower ∈ xgt ∧ Cond.selects yX5_lower.cls yX5_lower yX5_lower ∈ xgt := ⟨(xgt_at 823 (by decide +kernel) (by decide +kernel)), (xgt_at 824 (by decide +kernel) (by decide +kernel))⟩
abbrev oX5_lower (G : xG) (d : Nat) := OL G d yX5_lower cX5_lower 2 (some .long)
abbrev aX5_lower (G : xG) (d pc : Nat) (L : List (Option Value)) (st : List Value) (z : xZ) (v : xS) := fun Q => AW G d 0 0 yX5_lower cX5_lower 2 (some .long) RX5 0 0 pc L st z v (PL z Q)
theorem mv_X5_count : xmv yX5_count cX5_count 2 (some .int) 1 := ⟨⟨xgt_at 829 (by decide +kernel) (by decide +kernel), (xgt_at 76 (by decide +kernel) (by decide +kernel))⟩, by decide, by decide, by decide, by decide +kernel⟩
theorem mi_X5_count : Cond.instanceMethod yX5_count ∈ xgt ∧ Cond.selects yX5_count.cls yX5_count yX5_count ∈ xgt := ⟨(xgt_at 827 (by decide +kernel) (by decide +kernel)), (xgt_at 828 (by decide +kernel) (by decide +kernel))⟩
abbrev oX5_count (G : xG) (d : Nat) := OI G d yX5_count cX5_count 2 (some .int)
abbrev aX5_count (G : xG) (d pc : Nat) (L : List (Option Value)) (st : List Value) (z : xZ) (v : xS) := fun Q => AW G d 0 0 yX5_count cX5_count 2 (some .int) RX5 0 0 pc L st z v (PI z Q)
theorem mv_X5_finding : xmv yX5_finding cX5_finding 1 (some .int) 0 := ⟨⟨xgt_at 852 (by decide +kernel) (by decide +kernel), (xgt_at 76 (by decide +kernel) (by decide +kernel))⟩, by decide, by decide, by decide, by decide +kernel⟩
theorem mi_X5_finding : Cond.instanceMethod yX5_finding ∈ xgt ∧ Cond.selects yX5_finding.cls yX5_finding yX5_finding ∈ xgt := ⟨(xgt_at 850 (by decide +kernel) (by decide +kernel)), (xgt_at 851 (by decide +kernel) (by decide +kernel))⟩
abbrev oX5_finding (G : xG) (d : Nat) := OI G d yX5_finding cX5_finding 1 (some .int)
abbrev aX5_finding (G : xG) (d pc : Nat) (L : List (Option Value)) (st : List Value) (z : xZ) (v : xS) := fun Q => AW G d 0 0 yX5_finding cX5_finding 1 (some .int) RX5 0 0 pc L st z v (PI z Q)
theorem mv_X5_findings : xmv yX5_findings cX5_findings 2 (some .int) 1 := ⟨⟨xgt_at 856 (by decide +kernel) (by decide +kernel), (xgt_at 76 (by decide +kernel) (by decide +kernel))⟩, by decide, by decide, by decide, by decide +kernel⟩
theorem mi_X5_findings : Cond.instanceMethod yX5_findings ∈ xgt ∧ Cond.selects yX5_findings.cls yX5_findings yX5_findings ∈ xgt := ⟨(xgt_at 854 (by decide +kernel) (by decide +kernel)), (xgt_at 855 (by decide +kernel) (by decide +kernel))⟩
abbrev oX5_findings (G : xG) (d : Nat) := OI G d yX5_findings cX5_findings 2 (some .int)
abbrev aX5_findings (G : xG) (d pc : Nat) (L : List (Option Value)) (st : List Value) (z : xZ) (v : xS) := fun Q => AW G d 0 0 yX5_findings cX5_findings 2 (some .int) RX5 0 0 pc L st z v (PI z Q)
theorem mv_X5_digest : xmv yX5_digest cX5_digest 4 (some .long) 0 := ⟨⟨xgt_at 860 (by decide +kernel) (by decide +kernel), (xgt_at 76 (by decide +kernel) (by decide +kernel))⟩, by decide, by decide, by decide, by decide +kernel⟩
theorem mi_X5_digest : Cond.instanceMethod yX5_digest ∈ xgt ∧ Cond.selects yX5_digest.cls yX5_digest yX5_digest ∈ xgt := ⟨(xgt_at 858 (by decide +kernel) (by decide +kernel)), (xgt_at 859 (by decide +kernel) (by decide +kernel))⟩
abbrev oX5_digest (G : xG) (d : Nat) := OL G d yX5_digest cX5_digest 4 (some .long)
abbrev aX5_digest (G : xG) (d pc : Nat) (L : List (Option Value)) (st : List Value) (z : xZ) (v : xS) := fun Q => AW G d 0 0 yX5_digest cX5_digest 4 (some .long) RX5 0 0 pc L st z v (PL z Q)
theorem mv_X5_tell : xmv yX5_tell cX5_tell 3 (some .int) 2 := ⟨⟨xgt_at 371 (by decide +kernel) (by decide +kernel), (xgt_at 76 (by decide +kernel) (by decide +kernel))⟩, by decide, by decide, by decide, by decide +kernel⟩
theorem mi_X5_tell : Cond.instanceMethod yX5_tell ∈ xgt ∧ Cond.selects yX5_tell.cls yX5_tell yX5_tell ∈ xgt := ⟨(xgt_at 370 (by decide +kernel) (by decide +kernel)), (xgt_at 3 (by decide +kernel) (by decide +kernel))⟩
abbrev oX5_tell (G : xG) (d : Nat) := OI G d yX5_tell cX5_tell 3 (some .int)
abbrev aX5_tell (G : xG) (d pc : Nat) (L : List (Option Value)) (st : List Value) (z : xZ) (v : xS) := fun Q => AW G d 0 0 yX5_tell cX5_tell 3 (some .int) RX5 0 0 pc L st z v (PI z Q)
theorem mv_X5_find : xmv yX5_find cX5_find 2 (some .int) 1 := ⟨⟨xgt_at 333 (by decide +kernel) (by decide +kernel), (xgt_at 76 (by decide +kernel) (by decide +kernel))⟩, by decide, by decide, by decide, by decide +kernel⟩
theorem mi_X5_find : Cond.instanceMethod yX5_find ∈ xgt ∧ Cond.selects yX5_find.cls yX5_find yX5_find ∈ xgt := ⟨(xgt_at 332 (by decide +kernel) (by decide +kernel)), (xgt_at 1 (by decide +kernel) (by decide +kernel))⟩
abbrev oX5_find (G : xG) (d : Nat) := OI G d yX5_find cX5_find 2 (some .int)
abbrev aX5_find (G : xG) (d pc : Nat) (L : List (Option Value)) (st : List Value) (z : xZ) (v : xS) := fun Q => AW G d 0 0 yX5_find cX5_find 2 (some .int) RX5 0 0 pc L st z v (PI z Q)
theorem mv_X5_opened : xmv yX5_opened cX5_opened 5 (some .int) 4 := ⟨⟨xgt_at 325 (by decide +kernel) (by decide +kernel), (xgt_at 76 (by decide +kernel) (by decide +kernel))⟩, by decide, by decide, by decide, by decide +kernel⟩
theorem mi_X5_opened : Cond.instanceMethod yX5_opened ∈ xgt ∧ Cond.selects yX5_opened.cls yX5_opened yX5_opened ∈ xgt := ⟨(xgt_at 324 (by decide +kernel) (by decide +kernel)), (xgt_at 0 (by decide +kernel) (by decide +kernel))⟩
abbrev oX5_opened (G : xG) (d : Nat) := OI G d yX5_opened cX5_opened 5 (some .int)
abbrev aX5_opened (G : xG) (d pc : Nat) (L : List (Option Value)) (st : List Value) (z : xZ) (v : xS) := fun Q => AW G d 0 0 yX5_opened cX5_opened 5 (some .int) RX5 0 0 pc L st z v (PI z Q)
theorem mv_X5_placeRefusal : xmv yX5_placeRefusal cX5_placeRefusal 4 (some .int) 3 := ⟨⟨xgt_at 346 (by decide +kernel) (by decide +kernel), (xgt_at 76 (by decide +kernel) (by decide +kernel))⟩, by decide, by decide, by decide, by decide +kernel⟩
theorem mi_X5_placeRefusal : Cond.instanceMethod yX5_placeRefusal ∈ xgt ∧ Cond.selects yX5_placeRefusal.cls yX5_placeRefusal yX5_placeRefusal ∈ xgt := ⟨(xgt_at 345 (by decide +kernel) (by decide +kernel)), (xgt_at 2 (by decide +kernel) (by decide +kernel))⟩
abbrev oX5_placeRefusal (G : xG) (d : Nat) := OI G d yX5_placeRefusal cX5_placeRefusal 4 (some .int)
abbrev aX5_placeRefusal (G : xG) (d pc : Nat) (L : List (Option Value)) (st : List Value) (z : xZ) (v : xS) := fun Q => AW G d 0 0 yX5_placeRefusal cX5_placeRefusal 4 (some .int) RX5 0 0 pc L st z v (PI z Q)
theorem mv_X5_groundRefusal : xmv yX5_groundRefusal cX5_groundRefusal 2 (some .int) 1 := ⟨⟨xgt_at 751 (by decide +kernel) (by decide +kernel), (xgt_at 76 (by decide +kernel) (by decide +kernel))⟩, by decide, by decide, by decide, by decide +kernel⟩
theorem mi_X5_groundRefusal : Cond.instanceMethod yX5_groundRefusal ∈ xgt ∧ Cond.selects yX5_groundRefusal.cls yX5_groundRefusal yX5_groundRefusal ∈ xgt := ⟨(xgt_at 750 (by decide +kernel) (by decide +kernel)), (xgt_at 19 (by decide +kernel) (by decide +kernel))⟩
abbrev oX5_groundRefusal (G : xG) (d : Nat) := OI G d yX5_groundRefusal cX5_groundRefusal 2 (some .int)
abbrev aX5_groundRefusal (G : xG) (d pc : Nat) (L : List (Option Value)) (st : List Value) (z : xZ) (v : xS) := fun Q => AW G d 0 0 yX5_groundRefusal cX5_groundRefusal 2 (some .int) RX5 0 0 pc L st z v (PI z Q)
theorem mv_X5_fitRefusal : xmv yX5_fitRefusal cX5_fitRefusal 2 (some .int) 1 := ⟨⟨xgt_at 755 (by decide +kernel) (by decide +kernel), (xgt_at 76 (by decide +kernel) (by decide +kernel))⟩, by decide, by decide, by decide, by decide +kernel⟩
theorem mi_X5_fitRefusal : Cond.instanceMethod yX5_fitRefusal ∈ xgt ∧ Cond.selects yX5_fitRefusal.cls yX5_fitRefusal yX5_fitRefusal ∈ xgt := ⟨(xgt_at 754 (by decide +kernel) (by decide +kernel)), (xgt_at 20 (by decide +kernel) (by decide +kernel))⟩
abbrev oX5_fitRefusal (G : xG) (d : Nat) := OI G d yX5_fitRefusal cX5_fitRefusal 2 (some .int)
abbrev aX5_fitRefusal (G : xG) (d pc : Nat) (L : List (Option Value)) (st : List Value) (z : xZ) (v : xS) := fun Q => AW G d 0 0 yX5_fitRefusal cX5_fitRefusal 2 (some .int) RX5 0 0 pc L st z v (PI z Q)
theorem mv_X5_isGroundOf : xmv yX5_isGroundOf cX5_isGroundOf 4 (some .boolean) 2 := ⟨⟨xgt_at 759 (by decide +kernel) (by decide +kernel), (xgt_at 76 (by decide +kernel) (by decide +kernel))⟩, by decide, by decide, by decide, by decide +kernel⟩
theorem mi_X5_isGroundOf : Cond.instanceMethod yX5_isGroundOf ∈ xgt ∧ Cond.selects yX5_isGroundOf.cls yX5_isGroundOf yX5_isGroundOf ∈ xgt := ⟨(xgt_at 758 (by decide +kernel) (by decide +kernel)), (xgt_at 21 (by decide +kernel) (by decide +kernel))⟩
abbrev oX5_isGroundOf (G : xG) (d : Nat) := OI G d yX5_isGroundOf cX5_isGroundOf 4 (some .boolean)
abbrev aX5_isGroundOf (G : xG) (d pc : Nat) (L : List (Option Value)) (st : List Value) (z : xZ) (v : xS) := fun Q => AW G d 0 0 yX5_isGroundOf cX5_isGroundOf 4 (some .boolean) RX5 0 0 pc L st z v (PI z Q)
theorem mv_X5_isStretch : xmv yX5_isStretch cX5_isStretch 3 (some .boolean) 2 := ⟨⟨xgt_at 787 (by decide +kernel) (by decide +kernel), (xgt_at 76 (by decide +kernel) (by decide +kernel))⟩, by decide, by decide, by decide, by decide +kernel⟩
theorem mi_X5_isStretch : Cond.instanceMethod yX5_isStretch ∈ xgt ∧ Cond.selects yX5_isStretch.cls yX5_isStretch yX5_isStretch ∈ xgt := ⟨(xgt_at 786 (by decide +kernel) (by decide +kernel)), (xgt_at 22 (by decide +kernel) (by decide +kernel))⟩
abbrev oX5_isStretch (G : xG) (d : Nat) := OI G d yX5_isStretch cX5_isStretch 3 (some .boolean)
abbrev aX5_isStretch (G : xG) (d pc : Nat) (L : List (Option Value)) (st : List Value) (z : xZ) (v : xS) := fun Q => AW G d 0 0 yX5_isStretch cX5_isStretch 3 (some .boolean) RX5 0 0 pc L st z v (PI z Q)
theorem mv_X5_extreme : xmv yX5_extreme cX5_extreme 7 (some .int) 2 := ⟨⟨xgt_at 657 (by decide +kernel) (by decide +kernel), (xgt_at 76 (by decide +kernel) (by decide +kernel))⟩, by decide, by decide, by decide, by decide +kernel⟩
theorem mi_X5_extreme : Cond.instanceMethod yX5_extreme ∈ xgt ∧ Cond.selects yX5_extreme.cls yX5_extreme yX5_extreme ∈ xgt := ⟨(xgt_at 656 (by decide +kernel) (by decide +kernel)), (xgt_at 10 (by decide +kernel) (by decide +kernel))⟩
abbrev oX5_extreme (G : xG) (d : Nat) := OI G d yX5_extreme cX5_extreme 7 (some .int)
abbrev aX5_extreme (G : xG) (d pc : Nat) (L : List (Option Value)) (st : List Value) (z : xZ) (v : xS) := fun Q => AW G d 0 0 yX5_extreme cX5_extreme 7 (some .int) RX5 0 0 pc L st z v (PI z Q)
theorem mv_X5_layPlan : xmv yX5_layPlan cX5_layPlan 4 none 2 := ⟨⟨xgt_at 705 (by decide +kernel) (by decide +kernel), (xgt_at 76 (by decide +kernel) (by decide +kernel))⟩, by decide, by decide, by decide, by decide +kernel⟩
theorem mi_X5_layPlan : Cond.instanceMethod yX5_layPlan ∈ xgt ∧ Cond.selects yX5_layPlan.cls yX5_layPlan yX5_layPlan ∈ xgt := ⟨(xgt_at 704 (by decide +kernel) (by decide +kernel)), (xgt_at 16 (by decide +kernel) (by decide +kernel))⟩
abbrev oX5_layPlan (G : xG) (d : Nat) := OV G d yX5_layPlan cX5_layPlan 4 none
abbrev aX5_layPlan (G : xG) (d pc : Nat) (L : List (Option Value)) (st : List Value) (z : xZ) (v : xS) := fun Q => AW G d 0 0 yX5_layPlan cX5_layPlan 4 none RX5 0 0 pc L st z v (PV z Q)
theorem mv_X5_frostByLot : xmv yX5_frostByLot cX5_frostByLot 3 (some .int) 1 := ⟨⟨xgt_at 807 (by decide +kernel) (by decide +kernel), (xgt_at 76 (by decide +kernel) (by decide +kernel))⟩, by decide, by decide, by decide, by decide +kernel⟩
theorem mi_X5_frostByLot : Cond.instanceMethod yX5_frostByLot ∈ xgt ∧ Cond.selects yX5_frostByLot.cls yX5_frostByLot yX5_frostByLot ∈ xgt := ⟨(xgt_at 806 (by decide +kernel) (by decide +kernel)), (xgt_at 23 (by decide +kernel) (by decide +kernel))⟩
abbrev oX5_frostByLot (G : xG) (d : Nat) := OI G d yX5_frostByLot cX5_frostByLot 3 (some .int)
abbrev aX5_frostByLot (G : xG) (d pc : Nat) (L : List (Option Value)) (st : List Value) (z : xZ) (v : xS) := fun Q => AW G d 0 0 yX5_frostByLot cX5_frostByLot 3 (some .int) RX5 0 0 pc L st z v (PI z Q)
theorem mv_X5_keptNow : xmv yX5_keptNow cX5_keptNow 3 (some .int) 0 := ⟨⟨xgt_at 848 (by decide +kernel) (by decide +kernel), (xgt_at 76 (by decide +kernel) (by decide +kernel))⟩, by decide, by decide, by decide, by decide +kernel⟩
theorem mi_X5_keptNow : Cond.instanceMethod yX5_keptNow ∈ xgt ∧ Cond.selects yX5_keptNow.cls yX5_keptNow yX5_keptNow ∈ xgt := ⟨(xgt_at 847 (by decide +kernel) (by decide +kernel)), (xgt_at 24 (by decide +kernel) (by decide +kernel))⟩
abbrev oX5_keptNow (G : xG) (d : Nat) := OI G d yX5_keptNow cX5_keptNow 3 (some .int)
abbrev aX5_keptNow (G : xG) (d pc : Nat) (L : List (Option Value)) (st : List Value) (z : xZ) (v : xS) := fun Q => AW G d 0 0 yX5_keptNow cX5_keptNow 3 (some .int) RX5 0 0 pc L st z v (PI z Q)
theorem mv_X5_keptEvenings : xmv yX5_keptEvenings cX5_keptEvenings 3 (some .int) 1 := ⟨⟨xgt_at 874 (by decide +kernel) (by decide +kernel), (xgt_at 76 (by decide +kernel) (by decide +kernel))⟩, by decide, by decide, by decide, by decide +kernel⟩
theorem mi_X5_keptEvenings : Cond.instanceMethod yX5_keptEvenings ∈ xgt ∧ Cond.selects yX5_keptEvenings.cls yX5_keptEvenings yX5_keptEvenings ∈ xgt := ⟨(xgt_at 873 (by decide +kernel) (by decide +kernel)), (xgt_at 25 (by decide +kernel) (by decide +kernel))⟩
abbrev oX5_keptEvenings (G : xG) (d : Nat) := OI G d yX5_keptEvenings cX5_keptEvenings 3 (some .int)
abbrev aX5_keptEvenings (G : xG) (d pc : Nat) (L : List (Option Value)) (st : List Value) (z : xZ) (v : xS) := fun Q => AW G d 0 0 yX5_keptEvenings cX5_keptEvenings 3 (some .int) RX5 0 0 pc L st z v (PI z Q)
theorem mv_X5_commonDivisor : xmv yX5_commonDivisor cX5_commonDivisor 6 (some .int) 2 := ⟨⟨xgt_at 821 (by decide +kernel) (by decide +kernel), (xgt_at 76 (by decide +kernel) (by decide +kernel))⟩, by decide, by decide, by decide, by decide +kernel⟩
theorem ms_X5_commonDivisor : Cond.static yX5_commonDivisor ∈ xgt := (xgt_at 820 (by decide +kernel) (by decide +kernel))
abbrev oX5_commonDivisor (G : xG) (d : Nat) := OI G d yX5_commonDivisor cX5_commonDivisor 6 (some .int)
abbrev aX5_commonDivisor (G : xG) (d pc : Nat) (L : List (Option Value)) (st : List Value) (z : xZ) (v : xS) := fun Q => AW G d 0 0 yX5_commonDivisor cX5_commonDivisor 6 (some .int) RX5 0 0 pc L st z v (PI z Q)
theorem mv_X6_init : xmv yX6_init cX6_init 2 none 0 := ⟨⟨xgt_at 884 (by decide +kernel) (by decide +kernel), (xgt_at 82 (by decide +kernel) (by decide +kernel))⟩, by decide, by decide, by decide, by decide +kernel⟩
theorem mv_X6_in : xmv yX6_in cX6_in 3 (some .boolean) 3 := ⟨⟨xgt_at 1022 (by decide +kernel) (by decide +kernel), (xgt_at 82 (by decide +kernel) (by decide +kernel))⟩, by decide, by decide, by decide, by decide +kernel⟩
theorem ms_X6_in : Cond.static yX6_in ∈ xgt := (xgt_at 1021 (by decide +kernel) (by decide +kernel))
abbrev oX6_in (G : xG) (d : Nat) := OI G d yX6_in cX6_in 3 (some .boolean)
abbrev aX6_in (G : xG) (d pc : Nat) (L : List (Option Value)) (st : List Value) (z : xZ) (v : xS) := fun Q => AW G d 0 0 yX6_in cX6_in 3 (some .boolean) RX6 0 0 pc L st z v (PI z Q)
theorem mv_X6_meet : xmv yX6_meet cX6_meet 2 (some .int) 1 := ⟨⟨xgt_at 1026 (by decide +kernel) (by decide +kernel), (xgt_at 82 (by decide +kernel) (by decide +kernel))⟩, by decide, by decide, by decide, by decide +kernel⟩
theorem mi_X6_meet : Cond.instanceMethod yX6_meet ∈ xgt ∧ Cond.selects yX6_meet.cls yX6_meet yX6_meet ∈ xgt := ⟨(xgt_at 1025 (by decide +kernel) (by decide +kernel)), (xgt_at 26 (by decide +kernel) (by decide +kernel))⟩
abbrev oX6_meet (G : xG) (d : Nat) := OI G d yX6_meet cX6_meet 2 (some .int)
abbrev aX6_meet (G : xG) (d pc : Nat) (L : List (Option Value)) (st : List Value) (z : xZ) (v : xS) := fun Q => AW G d 0 0 yX6_meet cX6_meet 2 (some .int) RX6 0 0 pc L st z v (PI z Q)
theorem mv_X6_ask : xmv yX6_ask cX6_ask 3 (some .int) 2 := ⟨⟨xgt_at 1046 (by decide +kernel) (by decide +kernel), (xgt_at 82 (by decide +kernel) (by decide +kernel))⟩, by decide, by decide, by decide, by decide +kernel⟩
theorem mi_X6_ask : Cond.instanceMethod yX6_ask ∈ xgt ∧ Cond.selects yX6_ask.cls yX6_ask yX6_ask ∈ xgt := ⟨(xgt_at 1045 (by decide +kernel) (by decide +kernel)), (xgt_at 30 (by decide +kernel) (by decide +kernel))⟩
abbrev oX6_ask (G : xG) (d : Nat) := OI G d yX6_ask cX6_ask 3 (some .int)
abbrev aX6_ask (G : xG) (d pc : Nat) (L : List (Option Value)) (st : List Value) (z : xZ) (v : xS) := fun Q => AW G d 0 0 yX6_ask cX6_ask 3 (some .int) RX6 0 0 pc L st z v (PI z Q)
theorem mv_X6_has : xmv yX6_has cX6_has 2 (some .boolean) 2 := ⟨⟨xgt_at 1171 (by decide +kernel) (by decide +kernel), (xgt_at 82 (by decide +kernel) (by decide +kernel))⟩, by decide, by decide, by decide, by decide +kernel⟩
theorem ms_X6_has : Cond.static yX6_has ∈ xgt := (xgt_at 1170 (by decide +kernel) (by decide +kernel))
abbrev oX6_has (G : xG) (d : Nat) := OI G d yX6_has cX6_has 2 (some .boolean)
abbrev aX6_has (G : xG) (d pc : Nat) (L : List (Option Value)) (st : List Value) (z : xZ) (v : xS) := fun Q => AW G d 0 0 yX6_has cX6_has 2 (some .boolean) RX6 0 0 pc L st z v (PI z Q)
theorem mv_X6_sizeOf : xmv yX6_sizeOf cX6_sizeOf 3 (some .int) 1 := ⟨⟨xgt_at 1404 (by decide +kernel) (by decide +kernel), (xgt_at 82 (by decide +kernel) (by decide +kernel))⟩, by decide, by decide, by decide, by decide +kernel⟩
theorem ms_X6_sizeOf : Cond.static yX6_sizeOf ∈ xgt := (xgt_at 1403 (by decide +kernel) (by decide +kernel))
abbrev oX6_sizeOf (G : xG) (d : Nat) := OI G d yX6_sizeOf cX6_sizeOf 3 (some .int)
abbrev aX6_sizeOf (G : xG) (d pc : Nat) (L : List (Option Value)) (st : List Value) (z : xZ) (v : xS) := fun Q => AW G d 0 0 yX6_sizeOf cX6_sizeOf 3 (some .int) RX6 0 0 pc L st z v (PI z Q)
theorem mv_X6_isRow : xmv yX6_isRow cX6_isRow 1 (some .boolean) 1 := ⟨⟨xgt_at 1019 (by decide +kernel) (by decide +kernel), (xgt_at 82 (by decide +kernel) (by decide +kernel))⟩, by decide, by decide, by decide, by decide +kernel⟩
theorem ms_X6_isRow : Cond.static yX6_isRow ∈ xgt := (xgt_at 1018 (by decide +kernel) (by decide +kernel))
abbrev oX6_isRow (G : xG) (d : Nat) := OI G d yX6_isRow cX6_isRow 1 (some .boolean)
abbrev aX6_isRow (G : xG) (d pc : Nat) (L : List (Option Value)) (st : List Value) (z : xZ) (v : xS) := fun Q => AW G d 0 0 yX6_isRow cX6_isRow 1 (some .boolean) RX6 0 0 pc L st z v (PI z Q)
theorem mv_X6_isText : xmv yX6_isText cX6_isText 1 (some .boolean) 1 := ⟨⟨xgt_at 1070 (by decide +kernel) (by decide +kernel), (xgt_at 82 (by decide +kernel) (by decide +kernel))⟩, by decide, by decide, by decide, by decide +kernel⟩
theorem ms_X6_isText : Cond.static yX6_isText ∈ xgt := (xgt_at 1069 (by decide +kernel) (by decide +kernel))
abbrev oX6_isText (G : xG) (d : Nat) := OI G d yX6_isText cX6_isText 1 (some .boolean)
abbrev aX6_isText (G : xG) (d pc : Nat) (L : List (Option Value)) (st : List Value) (z : xZ) (v : xS) := fun Q => AW G d 0 0 yX6_isText cX6_isText 1 (some .boolean) RX6 0 0 pc L st z v (PI z Q)
theorem mv_X6_askedRow : xmv yX6_askedRow cX6_askedRow 2 (some .int) 1 := ⟨⟨xgt_at 1038 (by decide +kernel) (by decide +kernel), (xgt_at 82 (by decide +kernel) (by decide +kernel))⟩, by decide, by decide, by decide, by decide +kernel⟩
theorem mi_X6_askedRow : Cond.instanceMethod yX6_askedRow ∈ xgt ∧ Cond.selects yX6_askedRow.cls yX6_askedRow yX6_askedRow ∈ xgt := ⟨(xgt_at 1037 (by decide +kernel) (by decide +kernel)), (xgt_at 28 (by decide +kernel) (by decide +kernel))⟩
abbrev oX6_askedRow (G : xG) (d : Nat) := OI G d yX6_askedRow cX6_askedRow 2 (some .int)
abbrev aX6_askedRow (G : xG) (d pc : Nat) (L : List (Option Value)) (st : List Value) (z : xZ) (v : xS) := fun Q => AW G d 0 0 yX6_askedRow cX6_askedRow 2 (some .int) RX6 0 0 pc L st z v (PI z Q)
theorem mv_X6_askedText : xmv yX6_askedText cX6_askedText 2 (some .int) 1 := ⟨⟨xgt_at 1078 (by decide +kernel) (by decide +kernel), (xgt_at 82 (by decide +kernel) (by decide +kernel))⟩, by decide, by decide, by decide, by decide +kernel⟩
theorem mi_X6_askedText : Cond.instanceMethod yX6_askedText ∈ xgt ∧ Cond.selects yX6_askedText.cls yX6_askedText yX6_askedText ∈ xgt := ⟨(xgt_at 1077 (by decide +kernel) (by decide +kernel)), (xgt_at 31 (by decide +kernel) (by decide +kernel))⟩
abbrev oX6_askedText (G : xG) (d : Nat) := OI G d yX6_askedText cX6_askedText 2 (some .int)
abbrev aX6_askedText (G : xG) (d pc : Nat) (L : List (Option Value)) (st : List Value) (z : xZ) (v : xS) := fun Q => AW G d 0 0 yX6_askedText cX6_askedText 2 (some .int) RX6 0 0 pc L st z v (PI z Q)
theorem mv_X6_rowAt : xmv yX6_rowAt cX6_rowAt 3 (some .int) 2 := ⟨⟨xgt_at 1042 (by decide +kernel) (by decide +kernel), (xgt_at 82 (by decide +kernel) (by decide +kernel))⟩, by decide, by decide, by decide, by decide +kernel⟩
theorem mi_X6_rowAt : Cond.instanceMethod yX6_rowAt ∈ xgt ∧ Cond.selects yX6_rowAt.cls yX6_rowAt yX6_rowAt ∈ xgt := ⟨(xgt_at 1041 (by decide +kernel) (by decide +kernel)), (xgt_at 29 (by decide +kernel) (by decide +kernel))⟩
abbrev oX6_rowAt (G : xG) (d : Nat) := OI G d yX6_rowAt cX6_rowAt 3 (some .int)
abbrev aX6_rowAt (G : xG) (d pc : Nat) (L : List (Option Value)) (st : List Value) (z : xZ) (v : xS) := fun Q => AW G d 0 0 yX6_rowAt cX6_rowAt 3 (some .int) RX6 0 0 pc L st z v (PI z Q)
theorem mv_X6_setRow : xmv yX6_setRow cX6_setRow 4 none 3 := ⟨⟨xgt_at 1030 (by decide +kernel) (by decide +kernel), (xgt_at 82 (by decide +kernel) (by decide +kernel))⟩, by decide, by decide, by decide, by decide +kernel⟩
theorem mi_X6_setRow : Cond.instanceMethod yX6_setRow ∈ xgt ∧ Cond.selects yX6_setRow.cls yX6_setRow yX6_setRow ∈ xgt := ⟨(xgt_at 1029 (by decide +kernel) (by decide +kernel)), (xgt_at 27 (by decide +kernel) (by decide +kernel))⟩
abbrev oX6_setRow (G : xG) (d : Nat) := OV G d yX6_setRow cX6_setRow 4 none
abbrev aX6_setRow (G : xG) (d pc : Nat) (L : List (Option Value)) (st : List Value) (z : xZ) (v : xS) := fun Q => AW G d 0 0 yX6_setRow cX6_setRow 4 none RX6 0 0 pc L st z v (PV z Q)
theorem mv_X6_row : xmv yX6_row cX6_row 4 (some .int) 2 := ⟨⟨xgt_at 1016 (by decide +kernel) (by decide +kernel), (xgt_at 82 (by decide +kernel) (by decide +kernel))⟩, by decide, by decide, by decide, by decide +kernel⟩
theorem mi_X6_row : Cond.instanceMethod yX6_row ∈ xgt ∧ Cond.selects yX6_row.cls yX6_row yX6_row ∈ xgt := ⟨(xgt_at 1014 (by decide +kernel) (by decide +kernel)), (xgt_at 1015 (by decide +kernel) (by decide +kernel))⟩
abbrev oX6_row (G : xG) (d : Nat) := OI G d yX6_row cX6_row 4 (some .int)
abbrev aX6_row (G : xG) (d pc : Nat) (L : List (Option Value)) (st : List Value) (z : xZ) (v : xS) := fun Q => AW G d 0 0 yX6_row cX6_row 4 (some .int) RX6 0 0 pc L st z v (PI z Q)
theorem mv_X6_at : xmv yX6_at cX6_at 4 (some .int) 2 := ⟨⟨xgt_at 1034 (by decide +kernel) (by decide +kernel), (xgt_at 82 (by decide +kernel) (by decide +kernel))⟩, by decide, by decide, by decide, by decide +kernel⟩
theorem mi_X6_at : Cond.instanceMethod yX6_at ∈ xgt ∧ Cond.selects yX6_at.cls yX6_at yX6_at ∈ xgt := ⟨(xgt_at 1032 (by decide +kernel) (by decide +kernel)), (xgt_at 1033 (by decide +kernel) (by decide +kernel))⟩
abbrev oX6_at (G : xG) (d : Nat) := OI G d yX6_at cX6_at 4 (some .int)
abbrev aX6_at (G : xG) (d pc : Nat) (L : List (Option Value)) (st : List Value) (z : xZ) (v : xS) := fun Q => AW G d 0 0 yX6_at cX6_at 4 (some .int) RX6 0 0 pc L st z v (PI z Q)
theorem mv_X6_lay : xmv yX6_lay cX6_lay 5 (some .int) 3 := ⟨⟨xgt_at 1050 (by decide +kernel) (by decide +kernel), (xgt_at 82 (by decide +kernel) (by decide +kernel))⟩, by decide, by decide, by decide, by decide +kernel⟩
theorem mi_X6_lay : Cond.instanceMethod yX6_lay ∈ xgt ∧ Cond.selects yX6_lay.cls yX6_lay yX6_lay ∈ xgt := ⟨(xgt_at 1048 (by decide +kernel) (by decide +kernel)), (xgt_at 1049 (by decide +kernel) (by decide +kernel))⟩
abbrev oX6_lay (G : xG) (d : Nat) := OI G d yX6_lay cX6_lay 5 (some .int)
abbrev aX6_lay (G : xG) (d pc : Nat) (L : List (Option Value)) (st : List Value) (z : xZ) (v : xS) := fun Q => AW G d 0 0 yX6_lay cX6_lay 5 (some .int) RX6 0 0 pc L st z v (PI z Q)
theorem mv_X6_tear : xmv yX6_tear cX6_tear 3 (some .int) 1 := ⟨⟨xgt_at 1055 (by decide +kernel) (by decide +kernel), (xgt_at 82 (by decide +kernel) (by decide +kernel))⟩, by decide, by decide, by decide, by decide +kernel⟩
theorem mi_X6_tear : Cond.instanceMethod yX6_tear ∈ xgt ∧ Cond.selects yX6_tear.cls yX6_tear yX6_tear ∈ xgt := ⟨(xgt_at 1053 (by decide +kernel) (by decide +kernel)), (xgt_at 1054 (by decide +kernel) (by decide +kernel))⟩
abbrev oX6_tear (G : xG) (d : Nat) := OI G d yX6_tear cX6_tear 3 (some .int)
abbrev aX6_tear (G : xG) (d pc : Nat) (L : List (Option Value)) (st : List Value) (z : xZ) (v : xS) := fun Q => AW G d 0 0 yX6_tear cX6_tear 3 (some .int) RX6 0 0 pc L st z v (PI z Q)
theorem mv_X6_copy : xmv yX6_copy cX6_copy 7 (some .int) 5 := ⟨⟨xgt_at 1059 (by decide +kernel) (by decide +kernel), (xgt_at 82 (by decide +kernel) (by decide +kernel))⟩, by decide, by decide, by decide, by decide +kernel⟩
theorem mi_X6_copy : Cond.instanceMethod yX6_copy ∈ xgt ∧ Cond.selects yX6_copy.cls yX6_copy yX6_copy ∈ xgt := ⟨(xgt_at 1057 (by decide +kernel) (by decide +kernel)), (xgt_at 1058 (by decide +kernel) (by decide +kernel))⟩
abbrev oX6_copy (G : xG) (d : Nat) := OI G d yX6_copy cX6_copy 7 (some .int)
abbrev aX6_copy (G : xG) (d pc : Nat) (L : List (Option Value)) (st : List Value) (z : xZ) (v : xS) := fun Q => AW G d 0 0 yX6_copy cX6_copy 7 (some .int) RX6 0 0 pc L st z v (PI z Q)
theorem mv_X6_mean : xmv yX6_mean cX6_mean 6 (some .int) 1 := ⟨⟨xgt_at 1063 (by decide +kernel) (by decide +kernel), (xgt_at 82 (by decide +kernel) (by decide +kernel))⟩, by decide, by decide, by decide, by decide +kernel⟩
theorem mi_X6_mean : Cond.instanceMethod yX6_mean ∈ xgt ∧ Cond.selects yX6_mean.cls yX6_mean yX6_mean ∈ xgt := ⟨(xgt_at 1061 (by decide +kernel) (by decide +kernel)), (xgt_at 1062 (by decide +kernel) (by decide +kernel))⟩
abbrev oX6_mean (G : xG) (d : Nat) := OI G d yX6_mean cX6_mean 6 (some .int)
abbrev aX6_mean (G : xG) (d pc : Nat) (L : List (Option Value)) (st : List Value) (z : xZ) (v : xS) := fun Q => AW G d 0 0 yX6_mean cX6_mean 6 (some .int) RX6 0 0 pc L st z v (PI z Q)
theorem mv_X6_text : xmv yX6_text cX6_text 4 (some .int) 2 := ⟨⟨xgt_at 1067 (by decide +kernel) (by decide +kernel), (xgt_at 82 (by decide +kernel) (by decide +kernel))⟩, by decide, by decide, by decide, by decide +kernel⟩
theorem mi_X6_text : Cond.instanceMethod yX6_text ∈ xgt ∧ Cond.selects yX6_text.cls yX6_text yX6_text ∈ xgt := ⟨(xgt_at 1065 (by decide +kernel) (by decide +kernel)), (xgt_at 1066 (by decide +kernel) (by decide +kernel))⟩
abbrev oX6_text (G : xG) (d : Nat) := OI G d yX6_text cX6_text 4 (some .int)
abbrev aX6_text (G : xG) (d pc : Nat) (L : List (Option Value)) (st : List Value) (z : xZ) (v : xS) := fun Q => AW G d 0 0 yX6_text cX6_text 4 (some .int) RX6 0 0 pc L st z v (PI z Q)
theorem mv_X6_put : xmv yX6_put cX6_put 6 (some .int) 3 := ⟨⟨xgt_at 1074 (by decide +kernel) (by decide +kernel), (xgt_at 82 (by decide +kernel) (by decide +kernel))⟩, by decide, by decide, by decide, by decide +kernel⟩
theorem mi_X6_put : Cond.instanceMethod yX6_put ∈ xgt ∧ Cond.selects yX6_put.cls yX6_put yX6_put ∈ xgt := ⟨(xgt_at 1072 (by decide +kernel) (by decide +kernel)), (xgt_at 1073 (by decide +kernel) (by decide +kernel))⟩
abbrev oX6_put (G : xG) (d : Nat) := OI G d yX6_put cX6_put 6 (some .int)
abbrev aX6_put (G : xG) (d pc : Nat) (L : List (Option Value)) (st : List Value) (z : xZ) (v : xS) := fun Q => AW G d 0 0 yX6_put cX6_put 6 (some .int) RX6 0 0 pc L st z v (PI z Q)
theorem mv_X6_here : xmv yX6_here cX6_here 2 (some .int) 1 := ⟨⟨xgt_at 1090 (by decide +kernel) (by decide +kernel), (xgt_at 82 (by decide +kernel) (by decide +kernel))⟩, by decide, by decide, by decide, by decide +kernel⟩
theorem mi_X6_here : Cond.instanceMethod yX6_here ∈ xgt ∧ Cond.selects yX6_here.cls yX6_here yX6_here ∈ xgt := ⟨(xgt_at 1089 (by decide +kernel) (by decide +kernel)), (xgt_at 33 (by decide +kernel) (by decide +kernel))⟩
abbrev oX6_here (G : xG) (d : Nat) := OI G d yX6_here cX6_here 2 (some .int)
abbrev aX6_here (G : xG) (d pc : Nat) (L : List (Option Value)) (st : List Value) (z : xZ) (v : xS) := fun Q => AW G d 0 0 yX6_here cX6_here 2 (some .int) RX6 0 0 pc L st z v (PI z Q)
theorem mv_X6_kindOf : xmv yX6_kindOf cX6_kindOf 1 (some .int) 1 := ⟨⟨xgt_at 1101 (by decide +kernel) (by decide +kernel), (xgt_at 82 (by decide +kernel) (by decide +kernel))⟩, by decide, by decide, by decide, by decide +kernel⟩
theorem ms_X6_kindOf : Cond.static yX6_kindOf ∈ xgt := (xgt_at 1100 (by decide +kernel) (by decide +kernel))
abbrev oX6_kindOf (G : xG) (d : Nat) := OI G d yX6_kindOf cX6_kindOf 1 (some .int)
abbrev aX6_kindOf (G : xG) (d pc : Nat) (L : List (Option Value)) (st : List Value) (z : xZ) (v : xS) := fun Q => AW G d 0 0 yX6_kindOf cX6_kindOf 1 (some .int) RX6 0 0 pc L st z v (PI z Q)
theorem mv_X6_readsGround : xmv yX6_readsGround cX6_readsGround 3 (some .boolean) 1 := ⟨⟨xgt_at 1094 (by decide +kernel) (by decide +kernel), (xgt_at 82 (by decide +kernel) (by decide +kernel))⟩, by decide, by decide, by decide, by decide +kernel⟩
theorem mi_X6_readsGround : Cond.instanceMethod yX6_readsGround ∈ xgt ∧ Cond.selects yX6_readsGround.cls yX6_readsGround yX6_readsGround ∈ xgt := ⟨(xgt_at 1093 (by decide +kernel) (by decide +kernel)), (xgt_at 34 (by decide +kernel) (by decide +kernel))⟩
abbrev oX6_readsGround (G : xG) (d : Nat) := OI G d yX6_readsGround cX6_readsGround 3 (some .boolean)
abbrev aX6_readsGround (G : xG) (d pc : Nat) (L : List (Option Value)) (st : List Value) (z : xZ) (v : xS) := fun Q => AW G d 0 0 yX6_readsGround cX6_readsGround 3 (some .boolean) RX6 0 0 pc L st z v (PI z Q)
theorem mv_X6_readsBand : xmv yX6_readsBand cX6_readsBand 3 (some .boolean) 1 := ⟨⟨xgt_at 1098 (by decide +kernel) (by decide +kernel), (xgt_at 82 (by decide +kernel) (by decide +kernel))⟩, by decide, by decide, by decide, by decide +kernel⟩
theorem mi_X6_readsBand : Cond.instanceMethod yX6_readsBand ∈ xgt ∧ Cond.selects yX6_readsBand.cls yX6_readsBand yX6_readsBand ∈ xgt := ⟨(xgt_at 1097 (by decide +kernel) (by decide +kernel)), (xgt_at 35 (by decide +kernel) (by decide +kernel))⟩
abbrev oX6_readsBand (G : xG) (d : Nat) := OI G d yX6_readsBand cX6_readsBand 3 (some .boolean)
abbrev aX6_readsBand (G : xG) (d pc : Nat) (L : List (Option Value)) (st : List Value) (z : xZ) (v : xS) := fun Q => AW G d 0 0 yX6_readsBand cX6_readsBand 3 (some .boolean) RX6 0 0 pc L st z v (PI z Q)
theorem mv_X6_goesOn : xmv yX6_goesOn cX6_goesOn 2 (some .int) 1 := ⟨⟨xgt_at 1086 (by decide +kernel) (by decide +kernel), (xgt_at 82 (by decide +kernel) (by decide +kernel))⟩, by decide, by decide, by decide, by decide +kernel⟩
theorem mi_X6_goesOn : Cond.instanceMethod yX6_goesOn ∈ xgt ∧ Cond.selects yX6_goesOn.cls yX6_goesOn yX6_goesOn ∈ xgt := ⟨(xgt_at 1085 (by decide +kernel) (by decide +kernel)), (xgt_at 32 (by decide +kernel) (by decide +kernel))⟩
abbrev oX6_goesOn (G : xG) (d : Nat) := OI G d yX6_goesOn cX6_goesOn 2 (some .int)
abbrev aX6_goesOn (G : xG) (d pc : Nat) (L : List (Option Value)) (st : List Value) (z : xZ) (v : xS) := fun Q => AW G d 0 0 yX6_goesOn cX6_goesOn 2 (some .int) RX6 0 0 pc L st z v (PI z Q)
theorem mv_X6_fault : xmv yX6_fault cX6_fault 3 (some .int) 1 := ⟨⟨xgt_at 1082 (by decide +kernel) (by decide +kernel), (xgt_at 82 (by decide +kernel) (by decide +kernel))⟩, by decide, by decide, by decide, by decide +kernel⟩
theorem mi_X6_fault : Cond.instanceMethod yX6_fault ∈ xgt ∧ Cond.selects yX6_fault.cls yX6_fault yX6_fault ∈ xgt := ⟨(xgt_at 1080 (by decide +kernel) (by decide +kernel)), (xgt_at 1081 (by decide +kernel) (by decide +kernel))⟩
abbrev oX6_fault (G : xG) (d : Nat) := OI G d yX6_fault cX6_fault 3 (some .int)
abbrev aX6_fault (G : xG) (d pc : Nat) (L : List (Option Value)) (st : List Value) (z : xZ) (v : xS) := fun Q => AW G d 0 0 yX6_fault cX6_fault 3 (some .int) RX6 0 0 pc L st z v (PI z Q)
theorem mv_X6_land : xmv yX6_land cX6_land 4 (some .int) 1 := ⟨⟨xgt_at 1105 (by decide +kernel) (by decide +kernel), (xgt_at 82 (by decide +kernel) (by decide +kernel))⟩, by decide, by decide, by decide, by decide +kernel⟩
theorem mi_X6_land : Cond.instanceMethod yX6_land ∈ xgt ∧ Cond.selects yX6_land.cls yX6_land yX6_land ∈ xgt := ⟨(xgt_at 1103 (by decide +kernel) (by decide +kernel)), (xgt_at 1104 (by decide +kernel) (by decide +kernel))⟩
abbrev oX6_land (G : xG) (d : Nat) := OI G d yX6_land cX6_land 4 (some .int)
abbrev aX6_land (G : xG) (d pc : Nat) (L : List (Option Value)) (st : List Value) (z : xZ) (v : xS) := fun Q => AW G d 0 0 yX6_land cX6_land 4 (some .int) RX6 0 0 pc L st z v (PI z Q)
theorem mv_X6_isSpot : xmv yX6_isSpot cX6_isSpot 2 (some .boolean) 1 := ⟨⟨xgt_at 1113 (by decide +kernel) (by decide +kernel), (xgt_at 82 (by decide +kernel) (by decide +kernel))⟩, by decide, by decide, by decide, by decide +kernel⟩
theorem mi_X6_isSpot : Cond.instanceMethod yX6_isSpot ∈ xgt ∧ Cond.selects yX6_isSpot.cls yX6_isSpot yX6_isSpot ∈ xgt := ⟨(xgt_at 1112 (by decide +kernel) (by decide +kernel)), (xgt_at 36 (by decide +kernel) (by decide +kernel))⟩
abbrev oX6_isSpot (G : xG) (d : Nat) := OI G d yX6_isSpot cX6_isSpot 2 (some .boolean)
abbrev aX6_isSpot (G : xG) (d pc : Nat) (L : List (Option Value)) (st : List Value) (z : xZ) (v : xS) := fun Q => AW G d 0 0 yX6_isSpot cX6_isSpot 2 (some .boolean) RX6 0 0 pc L st z v (PI z Q)
theorem mv_X6_isBand : xmv yX6_isBand cX6_isBand 2 (some .boolean) 1 := ⟨⟨xgt_at 1121 (by decide +kernel) (by decide +kernel), (xgt_at 82 (by decide +kernel) (by decide +kernel))⟩, by decide, by decide, by decide, by decide +kernel⟩
theorem mi_X6_isBand : Cond.instanceMethod yX6_isBand ∈ xgt ∧ Cond.selects yX6_isBand.cls yX6_isBand yX6_isBand ∈ xgt := ⟨(xgt_at 1120 (by decide +kernel) (by decide +kernel)), (xgt_at 37 (by decide +kernel) (by decide +kernel))⟩
abbrev oX6_isBand (G : xG) (d : Nat) := OI G d yX6_isBand cX6_isBand 2 (some .boolean)
abbrev aX6_isBand (G : xG) (d pc : Nat) (L : List (Option Value)) (st : List Value) (z : xZ) (v : xS) := fun Q => AW G d 0 0 yX6_isBand cX6_isBand 2 (some .boolean) RX6 0 0 pc L st z v (PI z Q)
theorem mv_X6_isA : xmv yX6_isA cX6_isA 3 (some .boolean) 2 := ⟨⟨xgt_at 1148 (by decide +kernel) (by decide +kernel), (xgt_at 82 (by decide +kernel) (by decide +kernel))⟩, by decide, by decide, by decide, by decide +kernel⟩
theorem mi_X6_isA : Cond.instanceMethod yX6_isA ∈ xgt ∧ Cond.selects yX6_isA.cls yX6_isA yX6_isA ∈ xgt := ⟨(xgt_at 1147 (by decide +kernel) (by decide +kernel)), (xgt_at 42 (by decide +kernel) (by decide +kernel))⟩
abbrev oX6_isA (G : xG) (d : Nat) := OI G d yX6_isA cX6_isA 3 (some .boolean)
abbrev aX6_isA (G : xG) (d pc : Nat) (L : List (Option Value)) (st : List Value) (z : xZ) (v : xS) := fun Q => AW G d 0 0 yX6_isA cX6_isA 3 (some .boolean) RX6 0 0 pc L st z v (PI z Q)
theorem mv_X6_spot : xmv yX6_spot cX6_spot 2 (some .int) 1 := ⟨⟨xgt_at 1109 (by decide +kernel) (by decide +kernel), (xgt_at 82 (by decide +kernel) (by decide +kernel))⟩, by decide, by decide, by decide, by decide +kernel⟩
theorem mi_X6_spot : Cond.instanceMethod yX6_spot ∈ xgt ∧ Cond.selects yX6_spot.cls yX6_spot yX6_spot ∈ xgt := ⟨(xgt_at 1107 (by decide +kernel) (by decide +kernel)), (xgt_at 1108 (by decide +kernel) (by decide +kernel))⟩
abbrev oX6_spot (G : xG) (d : Nat) := OI G d yX6_spot cX6_spot 2 (some .int)
abbrev aX6_spot (G : xG) (d pc : Nat) (L : List (Option Value)) (st : List Value) (z : xZ) (v : xS) := fun Q => AW G d 0 0 yX6_spot cX6_spot 2 (some .int) RX6 0 0 pc L st z v (PI z Q)
theorem mv_X6_reachOf : xmv yX6_reachOf cX6_reachOf 2 (some .int) 1 := ⟨⟨xgt_at 1140 (by decide +kernel) (by decide +kernel), (xgt_at 82 (by decide +kernel) (by decide +kernel))⟩, by decide, by decide, by decide, by decide +kernel⟩
theorem mi_X6_reachOf : Cond.instanceMethod yX6_reachOf ∈ xgt ∧ Cond.selects yX6_reachOf.cls yX6_reachOf yX6_reachOf ∈ xgt := ⟨(xgt_at 1139 (by decide +kernel) (by decide +kernel)), (xgt_at 41 (by decide +kernel) (by decide +kernel))⟩
abbrev oX6_reachOf (G : xG) (d : Nat) := OI G d yX6_reachOf cX6_reachOf 2 (some .int)
abbrev aX6_reachOf (G : xG) (d pc : Nat) (L : List (Option Value)) (st : List Value) (z : xZ) (v : xS) := fun Q => AW G d 0 0 yX6_reachOf cX6_reachOf 2 (some .int) RX6 0 0 pc L st z v (PI z Q)
theorem mv_X6_size : xmv yX6_size cX6_size 1 (some .int) 1 := ⟨⟨xgt_at 1136 (by decide +kernel) (by decide +kernel), (xgt_at 82 (by decide +kernel) (by decide +kernel))⟩, by decide, by decide, by decide, by decide +kernel⟩
theorem ms_X6_size : Cond.static yX6_size ∈ xgt := (xgt_at 1135 (by decide +kernel) (by decide +kernel))
abbrev oX6_size (G : xG) (d : Nat) := OI G d yX6_size cX6_size 1 (some .int)
abbrev aX6_size (G : xG) (d pc : Nat) (L : List (Option Value)) (st : List Value) (z : xZ) (v : xS) := fun Q => AW G d 0 0 yX6_size cX6_size 1 (some .int) RX6 0 0 pc L st z v (PI z Q)
theorem mv_X6_isHeard : xmv yX6_isHeard cX6_isHeard 4 (some .boolean) 2 := ⟨⟨xgt_at 1133 (by decide +kernel) (by decide +kernel), (xgt_at 82 (by decide +kernel) (by decide +kernel))⟩, by decide, by decide, by decide, by decide +kernel⟩
theorem mi_X6_isHeard : Cond.instanceMethod yX6_isHeard ∈ xgt ∧ Cond.selects yX6_isHeard.cls yX6_isHeard yX6_isHeard ∈ xgt := ⟨(xgt_at 1132 (by decide +kernel) (by decide +kernel)), (xgt_at 40 (by decide +kernel) (by decide +kernel))⟩
abbrev oX6_isHeard (G : xG) (d : Nat) := OI G d yX6_isHeard cX6_isHeard 4 (some .boolean)
abbrev aX6_isHeard (G : xG) (d pc : Nat) (L : List (Option Value)) (st : List Value) (z : xZ) (v : xS) := fun Q => AW G d 0 0 yX6_isHeard cX6_isHeard 4 (some .boolean) RX6 0 0 pc L st z v (PI z Q)
theorem mv_X6_heardOf : xmv yX6_heardOf cX6_heardOf 4 (some .int) 1 := ⟨⟨xgt_at 1129 (by decide +kernel) (by decide +kernel), (xgt_at 82 (by decide +kernel) (by decide +kernel))⟩, by decide, by decide, by decide, by decide +kernel⟩
theorem mi_X6_heardOf : Cond.instanceMethod yX6_heardOf ∈ xgt ∧ Cond.selects yX6_heardOf.cls yX6_heardOf yX6_heardOf ∈ xgt := ⟨(xgt_at 1128 (by decide +kernel) (by decide +kernel)), (xgt_at 39 (by decide +kernel) (by decide +kernel))⟩
abbrev oX6_heardOf (G : xG) (d : Nat) := OI G d yX6_heardOf cX6_heardOf 4 (some .int)
abbrev aX6_heardOf (G : xG) (d pc : Nat) (L : List (Option Value)) (st : List Value) (z : xZ) (v : xS) := fun Q => AW G d 0 0 yX6_heardOf cX6_heardOf 4 (some .int) RX6 0 0 pc L st z v (PI z Q)
theorem mv_X6_bandOf : xmv yX6_bandOf cX6_bandOf 3 (some .int) 2 := ⟨⟨xgt_at 1125 (by decide +kernel) (by decide +kernel), (xgt_at 82 (by decide +kernel) (by decide +kernel))⟩, by decide, by decide, by decide, by decide +kernel⟩
theorem mi_X6_bandOf : Cond.instanceMethod yX6_bandOf ∈ xgt ∧ Cond.selects yX6_bandOf.cls yX6_bandOf yX6_bandOf ∈ xgt := ⟨(xgt_at 1124 (by decide +kernel) (by decide +kernel)), (xgt_at 38 (by decide +kernel) (by decide +kernel))⟩
abbrev oX6_bandOf (G : xG) (d : Nat) := OI G d yX6_bandOf cX6_bandOf 3 (some .int)
abbrev aX6_bandOf (G : xG) (d pc : Nat) (L : List (Option Value)) (st : List Value) (z : xZ) (v : xS) := fun Q => AW G d 0 0 yX6_bandOf cX6_bandOf 3 (some .int) RX6 0 0 pc L st z v (PI z Q)
theorem mv_X6_band : xmv yX6_band cX6_band 3 (some .int) 2 := ⟨⟨xgt_at 1117 (by decide +kernel) (by decide +kernel), (xgt_at 82 (by decide +kernel) (by decide +kernel))⟩, by decide, by decide, by decide, by decide +kernel⟩
theorem mi_X6_band : Cond.instanceMethod yX6_band ∈ xgt ∧ Cond.selects yX6_band.cls yX6_band yX6_band ∈ xgt := ⟨(xgt_at 1115 (by decide +kernel) (by decide +kernel)), (xgt_at 1116 (by decide +kernel) (by decide +kernel))⟩
abbrev oX6_band (G : xG) (d : Nat) := OI G d yX6_band cX6_band 3 (some .int)
abbrev aX6_band (G : xG) (d pc : Nat) (L : List (Option Value)) (st : List Value) (z : xZ) (v : xS) := fun Q => AW G d 0 0 yX6_band cX6_band 3 (some .int) RX6 0 0 pc L st z v (PI z Q)
theorem mv_X6_inchesOf : xmv yX6_inchesOf cX6_inchesOf 5 (some .int) 2 := ⟨⟨xgt_at 1168 (by decide +kernel) (by decide +kernel), (xgt_at 82 (by decide +kernel) (by decide +kernel))⟩, by decide, by decide, by decide, by decide +kernel⟩
theorem mi_X6_inchesOf : Cond.instanceMethod yX6_inchesOf ∈ xgt ∧ Cond.selects yX6_inchesOf.cls yX6_inchesOf yX6_inchesOf ∈ xgt := ⟨(xgt_at 1167 (by decide +kernel) (by decide +kernel)), (xgt_at 47 (by decide +kernel) (by decide +kernel))⟩
abbrev oX6_inchesOf (G : xG) (d : Nat) := OI G d yX6_inchesOf cX6_inchesOf 5 (some .int)
abbrev aX6_inchesOf (G : xG) (d pc : Nat) (L : List (Option Value)) (st : List Value) (z : xZ) (v : xS) := fun Q => AW G d 0 0 yX6_inchesOf cX6_inchesOf 5 (some .int) RX6 0 0 pc L st z v (PI z Q)
theorem mv_X6_goSpot : xmv yX6_goSpot cX6_goSpot 7 (some .int) 3 := ⟨⟨xgt_at 1164 (by decide +kernel) (by decide +kernel), (xgt_at 82 (by decide +kernel) (by decide +kernel))⟩, by decide, by decide, by decide, by decide +kernel⟩
theorem mi_X6_goSpot : Cond.instanceMethod yX6_goSpot ∈ xgt ∧ Cond.selects yX6_goSpot.cls yX6_goSpot yX6_goSpot ∈ xgt := ⟨(xgt_at 1163 (by decide +kernel) (by decide +kernel)), (xgt_at 46 (by decide +kernel) (by decide +kernel))⟩
abbrev oX6_goSpot (G : xG) (d : Nat) := OI G d yX6_goSpot cX6_goSpot 7 (some .int)
abbrev aX6_goSpot (G : xG) (d pc : Nat) (L : List (Option Value)) (st : List Value) (z : xZ) (v : xS) := fun Q => AW G d 0 0 yX6_goSpot cX6_goSpot 7 (some .int) RX6 0 0 pc L st z v (PI z Q)
theorem mv_X6_play : xmv yX6_play cX6_play 7 (some .int) 2 := ⟨⟨xgt_at 1160 (by decide +kernel) (by decide +kernel), (xgt_at 82 (by decide +kernel) (by decide +kernel))⟩, by decide, by decide, by decide, by decide +kernel⟩
theorem mi_X6_play : Cond.instanceMethod yX6_play ∈ xgt ∧ Cond.selects yX6_play.cls yX6_play yX6_play ∈ xgt := ⟨(xgt_at 1159 (by decide +kernel) (by decide +kernel)), (xgt_at 45 (by decide +kernel) (by decide +kernel))⟩
abbrev oX6_play (G : xG) (d : Nat) := OI G d yX6_play cX6_play 7 (some .int)
abbrev aX6_play (G : xG) (d pc : Nat) (L : List (Option Value)) (st : List Value) (z : xZ) (v : xS) := fun Q => AW G d 0 0 yX6_play cX6_play 7 (some .int) RX6 0 0 pc L st z v (PI z Q)
theorem mv_X6_programs : xmv yX6_programs cX6_programs 3 (some .int) 0 := ⟨⟨xgt_at 1199 (by decide +kernel) (by decide +kernel), (xgt_at 82 (by decide +kernel) (by decide +kernel))⟩, by decide, by decide, by decide, by decide +kernel⟩
theorem mi_X6_programs : Cond.instanceMethod yX6_programs ∈ xgt ∧ Cond.selects yX6_programs.cls yX6_programs yX6_programs ∈ xgt := ⟨(xgt_at 1198 (by decide +kernel) (by decide +kernel)), (xgt_at 51 (by decide +kernel) (by decide +kernel))⟩
abbrev oX6_programs (G : xG) (d : Nat) := OI G d yX6_programs cX6_programs 3 (some .int)
abbrev aX6_programs (G : xG) (d pc : Nat) (L : List (Option Value)) (st : List Value) (z : xZ) (v : xS) := fun Q => AW G d 0 0 yX6_programs cX6_programs 3 (some .int) RX6 0 0 pc L st z v (PI z Q)
theorem mv_X6_tuneOf : xmv yX6_tuneOf cX6_tuneOf 2 (some .int) 2 := ⟨⟨xgt_at 1210 (by decide +kernel) (by decide +kernel), (xgt_at 82 (by decide +kernel) (by decide +kernel))⟩, by decide, by decide, by decide, by decide +kernel⟩
theorem ms_X6_tuneOf : Cond.static yX6_tuneOf ∈ xgt := (xgt_at 1209 (by decide +kernel) (by decide +kernel))
abbrev oX6_tuneOf (G : xG) (d : Nat) := OI G d yX6_tuneOf cX6_tuneOf 2 (some .int)
abbrev aX6_tuneOf (G : xG) (d pc : Nat) (L : List (Option Value)) (st : List Value) (z : xZ) (v : xS) := fun Q => AW G d 0 0 yX6_tuneOf cX6_tuneOf 2 (some .int) RX6 0 0 pc L st z v (PI z Q)
theorem mv_X6_breathOf : xmv yX6_breathOf cX6_breathOf 4 (some .int) 1 := ⟨⟨xgt_at 1214 (by decide +kernel) (by decide +kernel), (xgt_at 82 (by decide +kernel) (by decide +kernel))⟩, by decide, by decide, by decide, by decide +kernel⟩
theorem mi_X6_breathOf : Cond.instanceMethod yX6_breathOf ∈ xgt ∧ Cond.selects yX6_breathOf.cls yX6_breathOf yX6_breathOf ∈ xgt := ⟨(xgt_at 1213 (by decide +kernel) (by decide +kernel)), (xgt_at 54 (by decide +kernel) (by decide +kernel))⟩
abbrev oX6_breathOf (G : xG) (d : Nat) := OI G d yX6_breathOf cX6_breathOf 4 (some .int)
abbrev aX6_breathOf (G : xG) (d pc : Nat) (L : List (Option Value)) (st : List Value) (z : xZ) (v : xS) := fun Q => AW G d 0 0 yX6_breathOf cX6_breathOf 4 (some .int) RX6 0 0 pc L st z v (PI z Q)
theorem mv_X6_passEvening : xmv yX6_passEvening cX6_passEvening 5 (some .int) 1 := ⟨⟨xgt_at 1207 (by decide +kernel) (by decide +kernel), (xgt_at 82 (by decide +kernel) (by decide +kernel))⟩, by decide, by decide, by decide, by decide +kernel⟩
theorem mi_X6_passEvening : Cond.instanceMethod yX6_passEvening ∈ xgt ∧ Cond.selects yX6_passEvening.cls yX6_passEvening yX6_passEvening ∈ xgt := ⟨(xgt_at 1206 (by decide +kernel) (by decide +kernel)), (xgt_at 53 (by decide +kernel) (by decide +kernel))⟩
abbrev oX6_passEvening (G : xG) (d : Nat) := OI G d yX6_passEvening cX6_passEvening 5 (some .int)
abbrev aX6_passEvening (G : xG) (d pc : Nat) (L : List (Option Value)) (st : List Value) (z : xZ) (v : xS) := fun Q => AW G d 0 0 yX6_passEvening cX6_passEvening 5 (some .int) RX6 0 0 pc L st z v (PI z Q)
theorem mv_X6_write : xmv yX6_write cX6_write 4 none 2 := ⟨⟨xgt_at 1156 (by decide +kernel) (by decide +kernel), (xgt_at 82 (by decide +kernel) (by decide +kernel))⟩, by decide, by decide, by decide, by decide +kernel⟩
theorem mi_X6_write : Cond.instanceMethod yX6_write ∈ xgt ∧ Cond.selects yX6_write.cls yX6_write yX6_write ∈ xgt := ⟨(xgt_at 1155 (by decide +kernel) (by decide +kernel)), (xgt_at 44 (by decide +kernel) (by decide +kernel))⟩
abbrev oX6_write (G : xG) (d : Nat) := OV G d yX6_write cX6_write 4 none
abbrev aX6_write (G : xG) (d pc : Nat) (L : List (Option Value)) (st : List Value) (z : xZ) (v : xS) := fun Q => AW G d 0 0 yX6_write cX6_write 4 none RX6 0 0 pc L st z v (PV z Q)
theorem mv_X6_read : xmv yX6_read cX6_read 4 none 2 := ⟨⟨xgt_at 1175 (by decide +kernel) (by decide +kernel), (xgt_at 82 (by decide +kernel) (by decide +kernel))⟩, by decide, by decide, by decide, by decide +kernel⟩
theorem mi_X6_read : Cond.instanceMethod yX6_read ∈ xgt ∧ Cond.selects yX6_read.cls yX6_read yX6_read ∈ xgt := ⟨(xgt_at 1174 (by decide +kernel) (by decide +kernel)), (xgt_at 48 (by decide +kernel) (by decide +kernel))⟩
abbrev oX6_read (G : xG) (d : Nat) := OV G d yX6_read cX6_read 4 none
abbrev aX6_read (G : xG) (d pc : Nat) (L : List (Option Value)) (st : List Value) (z : xZ) (v : xS) := fun Q => AW G d 0 0 yX6_read cX6_read 4 none RX6 0 0 pc L st z v (PV z Q)
theorem mv_X6_wouldMove : xmv yX6_wouldMove cX6_wouldMove 4 (some .int) 2 := ⟨⟨xgt_at 1152 (by decide +kernel) (by decide +kernel), (xgt_at 82 (by decide +kernel) (by decide +kernel))⟩, by decide, by decide, by decide, by decide +kernel⟩
theorem mi_X6_wouldMove : Cond.instanceMethod yX6_wouldMove ∈ xgt ∧ Cond.selects yX6_wouldMove.cls yX6_wouldMove yX6_wouldMove ∈ xgt := ⟨(xgt_at 1151 (by decide +kernel) (by decide +kernel)), (xgt_at 43 (by decide +kernel) (by decide +kernel))⟩
abbrev oX6_wouldMove (G : xG) (d : Nat) := OI G d yX6_wouldMove cX6_wouldMove 4 (some .int)
abbrev aX6_wouldMove (G : xG) (d pc : Nat) (L : List (Option Value)) (st : List Value) (z : xZ) (v : xS) := fun Q => AW G d 0 0 yX6_wouldMove cX6_wouldMove 4 (some .int) RX6 0 0 pc L st z v (PI z Q)
theorem mv_X6_mark : xmv yX6_mark cX6_mark 5 (some .int) 2 := ⟨⟨xgt_at 1144 (by decide +kernel) (by decide +kernel), (xgt_at 82 (by decide +kernel) (by decide +kernel))⟩, by decide, by decide, by decide, by decide +kernel⟩
theorem mi_X6_mark : Cond.instanceMethod yX6_mark ∈ xgt ∧ Cond.selects yX6_mark.cls yX6_mark yX6_mark ∈ xgt := ⟨(xgt_at 1142 (by decide +kernel) (by decide +kernel)), (xgt_at 1143 (by decide +kernel) (by decide +kernel))⟩
abbrev oX6_mark (G : xG) (d : Nat) := OI G d yX6_mark cX6_mark 5 (some .int)
abbrev aX6_mark (G : xG) (d pc : Nat) (L : List (Option Value)) (st : List Value) (z : xZ) (v : xS) := fun Q => AW G d 0 0 yX6_mark cX6_mark 5 (some .int) RX6 0 0 pc L st z v (PI z Q)
theorem mv_X6_isSet : xmv yX6_isSet cX6_isSet 2 (some .boolean) 1 := ⟨⟨xgt_at 1183 (by decide +kernel) (by decide +kernel), (xgt_at 82 (by decide +kernel) (by decide +kernel))⟩, by decide, by decide, by decide, by decide +kernel⟩
theorem mi_X6_isSet : Cond.instanceMethod yX6_isSet ∈ xgt ∧ Cond.selects yX6_isSet.cls yX6_isSet yX6_isSet ∈ xgt := ⟨(xgt_at 1182 (by decide +kernel) (by decide +kernel)), (xgt_at 49 (by decide +kernel) (by decide +kernel))⟩
abbrev oX6_isSet (G : xG) (d : Nat) := OI G d yX6_isSet cX6_isSet 2 (some .boolean)
abbrev aX6_isSet (G : xG) (d pc : Nat) (L : List (Option Value)) (st : List Value) (z : xZ) (v : xS) := fun Q => AW G d 0 0 yX6_isSet cX6_isSet 2 (some .boolean) RX6 0 0 pc L st z v (PI z Q)
theorem mv_X6_frost : xmv yX6_frost cX6_frost 3 (some .int) 1 := ⟨⟨xgt_at 1179 (by decide +kernel) (by decide +kernel), (xgt_at 82 (by decide +kernel) (by decide +kernel))⟩, by decide, by decide, by decide, by decide +kernel⟩
theorem mi_X6_frost : Cond.instanceMethod yX6_frost ∈ xgt ∧ Cond.selects yX6_frost.cls yX6_frost yX6_frost ∈ xgt := ⟨(xgt_at 1177 (by decide +kernel) (by decide +kernel)), (xgt_at 1178 (by decide +kernel) (by decide +kernel))⟩
abbrev oX6_frost (G : xG) (d : Nat) := OI G d yX6_frost cX6_frost 3 (some .int)
abbrev aX6_frost (G : xG) (d pc : Nat) (L : List (Option Value)) (st : List Value) (z : xZ) (v : xS) := fun Q => AW G d 0 0 yX6_frost cX6_frost 3 (some .int) RX6 0 0 pc L st z v (PI z Q)
theorem mv_X6_move : xmv yX6_move cX6_move 4 (some .int) 2 := ⟨⟨xgt_at 1187 (by decide +kernel) (by decide +kernel), (xgt_at 82 (by decide +kernel) (by decide +kernel))⟩, by decide, by decide, by decide, by decide +kernel⟩
theorem mi_X6_move : Cond.instanceMethod yX6_move ∈ xgt ∧ Cond.selects yX6_move.cls yX6_move yX6_move ∈ xgt := ⟨(xgt_at 1185 (by decide +kernel) (by decide +kernel)), (xgt_at 1186 (by decide +kernel) (by decide +kernel))⟩
abbrev oX6_move (G : xG) (d : Nat) := OI G d yX6_move cX6_move 4 (some .int)
abbrev aX6_move (G : xG) (d pc : Nat) (L : List (Option Value)) (st : List Value) (z : xZ) (v : xS) := fun Q => AW G d 0 0 yX6_move cX6_move 4 (some .int) RX6 0 0 pc L st z v (PI z Q)
theorem mv_X6_isProgram : xmv yX6_isProgram cX6_isProgram 2 (some .boolean) 1 := ⟨⟨xgt_at 1195 (by decide +kernel) (by decide +kernel), (xgt_at 82 (by decide +kernel) (by decide +kernel))⟩, by decide, by decide, by decide, by decide +kernel⟩
theorem mi_X6_isProgram : Cond.instanceMethod yX6_isProgram ∈ xgt ∧ Cond.selects yX6_isProgram.cls yX6_isProgram yX6_isProgram ∈ xgt := ⟨(xgt_at 1194 (by decide +kernel) (by decide +kernel)), (xgt_at 50 (by decide +kernel) (by decide +kernel))⟩
abbrev oX6_isProgram (G : xG) (d : Nat) := OI G d yX6_isProgram cX6_isProgram 2 (some .boolean)
abbrev aX6_isProgram (G : xG) (d pc : Nat) (L : List (Option Value)) (st : List Value) (z : xZ) (v : xS) := fun Q => AW G d 0 0 yX6_isProgram cX6_isProgram 2 (some .boolean) RX6 0 0 pc L st z v (PI z Q)
theorem mv_X6_goEvening : xmv yX6_goEvening cX6_goEvening 2 (some .int) 1 := ⟨⟨xgt_at 1203 (by decide +kernel) (by decide +kernel), (xgt_at 82 (by decide +kernel) (by decide +kernel))⟩, by decide, by decide, by decide, by decide +kernel⟩
theorem mi_X6_goEvening : Cond.instanceMethod yX6_goEvening ∈ xgt ∧ Cond.selects yX6_goEvening.cls yX6_goEvening yX6_goEvening ∈ xgt := ⟨(xgt_at 1202 (by decide +kernel) (by decide +kernel)), (xgt_at 52 (by decide +kernel) (by decide +kernel))⟩
abbrev oX6_goEvening (G : xG) (d : Nat) := OI G d yX6_goEvening cX6_goEvening 2 (some .int)
abbrev aX6_goEvening (G : xG) (d pc : Nat) (L : List (Option Value)) (st : List Value) (z : xZ) (v : xS) := fun Q => AW G d 0 0 yX6_goEvening cX6_goEvening 2 (some .int) RX6 0 0 pc L st z v (PI z Q)
theorem mv_X6_evening : xmv yX6_evening cX6_evening 3 (some .int) 1 := ⟨⟨xgt_at 1191 (by decide +kernel) (by decide +kernel), (xgt_at 82 (by decide +kernel) (by decide +kernel))⟩, by decide, by decide, by decide, by decide +kernel⟩
theorem mi_X6_evening : Cond.instanceMethod yX6_evening ∈ xgt ∧ Cond.selects yX6_evening.cls yX6_evening yX6_evening ∈ xgt := ⟨(xgt_at 1189 (by decide +kernel) (by decide +kernel)), (xgt_at 1190 (by decide +kernel) (by decide +kernel))⟩
abbrev oX6_evening (G : xG) (d : Nat) := OI G d yX6_evening cX6_evening 3 (some .int)
abbrev aX6_evening (G : xG) (d pc : Nat) (L : List (Option Value)) (st : List Value) (z : xZ) (v : xS) := fun Q => AW G d 0 0 yX6_evening cX6_evening 3 (some .int) RX6 0 0 pc L st z v (PI z Q)
theorem mv_X6_undo : xmv yX6_undo cX6_undo 3 (some .int) 1 := ⟨⟨xgt_at 1218 (by decide +kernel) (by decide +kernel), (xgt_at 82 (by decide +kernel) (by decide +kernel))⟩, by decide, by decide, by decide, by decide +kernel⟩
theorem mi_X6_undo : Cond.instanceMethod yX6_undo ∈ xgt ∧ Cond.selects yX6_undo.cls yX6_undo yX6_undo ∈ xgt := ⟨(xgt_at 1216 (by decide +kernel) (by decide +kernel)), (xgt_at 1217 (by decide +kernel) (by decide +kernel))⟩
abbrev oX6_undo (G : xG) (d : Nat) := OI G d yX6_undo cX6_undo 3 (some .int)
abbrev aX6_undo (G : xG) (d pc : Nat) (L : List (Option Value)) (st : List Value) (z : xZ) (v : xS) := fun Q => AW G d 0 0 yX6_undo cX6_undo 3 (some .int) RX6 0 0 pc L st z v (PI z Q)
theorem mv_X6_allHigh : xmv yX6_allHigh cX6_allHigh 3 (some .int) 0 := ⟨⟨xgt_at 1227 (by decide +kernel) (by decide +kernel), (xgt_at 82 (by decide +kernel) (by decide +kernel))⟩, by decide, by decide, by decide, by decide +kernel⟩
theorem mi_X6_allHigh : Cond.instanceMethod yX6_allHigh ∈ xgt ∧ Cond.selects yX6_allHigh.cls yX6_allHigh yX6_allHigh ∈ xgt := ⟨(xgt_at 1226 (by decide +kernel) (by decide +kernel)), (xgt_at 55 (by decide +kernel) (by decide +kernel))⟩
abbrev oX6_allHigh (G : xG) (d : Nat) := OI G d yX6_allHigh cX6_allHigh 3 (some .int)
abbrev aX6_allHigh (G : xG) (d pc : Nat) (L : List (Option Value)) (st : List Value) (z : xZ) (v : xS) := fun Q => AW G d 0 0 yX6_allHigh cX6_allHigh 3 (some .int) RX6 0 0 pc L st z v (PI z Q)
theorem mv_X6_heights : xmv yX6_heights cX6_heights 3 (some .int) 1 := ⟨⟨xgt_at 1222 (by decide +kernel) (by decide +kernel), (xgt_at 82 (by decide +kernel) (by decide +kernel))⟩, by decide, by decide, by decide, by decide +kernel⟩
theorem mi_X6_heights : Cond.instanceMethod yX6_heights ∈ xgt ∧ Cond.selects yX6_heights.cls yX6_heights yX6_heights ∈ xgt := ⟨(xgt_at 1220 (by decide +kernel) (by decide +kernel)), (xgt_at 1221 (by decide +kernel) (by decide +kernel))⟩
abbrev oX6_heights (G : xG) (d : Nat) := OI G d yX6_heights cX6_heights 3 (some .int)
abbrev aX6_heights (G : xG) (d pc : Nat) (L : List (Option Value)) (st : List Value) (z : xZ) (v : xS) := fun Q => AW G d 0 0 yX6_heights cX6_heights 3 (some .int) RX6 0 0 pc L st z v (PI z Q)
theorem mv_X6_keep : xmv yX6_keep cX6_keep 4 (some .int) 1 := ⟨⟨xgt_at 1231 (by decide +kernel) (by decide +kernel), (xgt_at 82 (by decide +kernel) (by decide +kernel))⟩, by decide, by decide, by decide, by decide +kernel⟩
theorem mi_X6_keep : Cond.instanceMethod yX6_keep ∈ xgt ∧ Cond.selects yX6_keep.cls yX6_keep yX6_keep ∈ xgt := ⟨(xgt_at 1229 (by decide +kernel) (by decide +kernel)), (xgt_at 1230 (by decide +kernel) (by decide +kernel))⟩
abbrev oX6_keep (G : xG) (d : Nat) := OI G d yX6_keep cX6_keep 4 (some .int)
abbrev aX6_keep (G : xG) (d pc : Nat) (L : List (Option Value)) (st : List Value) (z : xZ) (v : xS) := fun Q => AW G d 0 0 yX6_keep cX6_keep 4 (some .int) RX6 0 0 pc L st z v (PI z Q)
theorem mv_X6_on : xmv yX6_on cX6_on 4 (some .int) 1 := ⟨⟨xgt_at 1235 (by decide +kernel) (by decide +kernel), (xgt_at 82 (by decide +kernel) (by decide +kernel))⟩, by decide, by decide, by decide, by decide +kernel⟩
theorem mi_X6_on : Cond.instanceMethod yX6_on ∈ xgt ∧ Cond.selects yX6_on.cls yX6_on yX6_on ∈ xgt := ⟨(xgt_at 1233 (by decide +kernel) (by decide +kernel)), (xgt_at 1234 (by decide +kernel) (by decide +kernel))⟩
abbrev oX6_on (G : xG) (d : Nat) := OI G d yX6_on cX6_on 4 (some .int)
abbrev aX6_on (G : xG) (d pc : Nat) (L : List (Option Value)) (st : List Value) (z : xZ) (v : xS) := fun Q => AW G d 0 0 yX6_on cX6_on 4 (some .int) RX6 0 0 pc L st z v (PI z Q)
theorem mv_X6_putAhead : xmv yX6_putAhead cX6_putAhead 1 none 0 := ⟨⟨xgt_at 1243 (by decide +kernel) (by decide +kernel), (xgt_at 82 (by decide +kernel) (by decide +kernel))⟩, by decide, by decide, by decide, by decide +kernel⟩
theorem mi_X6_putAhead : Cond.instanceMethod yX6_putAhead ∈ xgt ∧ Cond.selects yX6_putAhead.cls yX6_putAhead yX6_putAhead ∈ xgt := ⟨(xgt_at 1242 (by decide +kernel) (by decide +kernel)), (xgt_at 56 (by decide +kernel) (by decide +kernel))⟩
abbrev oX6_putAhead (G : xG) (d : Nat) := OV G d yX6_putAhead cX6_putAhead 1 none
abbrev aX6_putAhead (G : xG) (d pc : Nat) (L : List (Option Value)) (st : List Value) (z : xZ) (v : xS) := fun Q => AW G d 0 0 yX6_putAhead cX6_putAhead 1 none RX6 0 0 pc L st z v (PV z Q)
theorem mv_X6_comeBack : xmv yX6_comeBack cX6_comeBack 1 none 0 := ⟨⟨xgt_at 1247 (by decide +kernel) (by decide +kernel), (xgt_at 82 (by decide +kernel) (by decide +kernel))⟩, by decide, by decide, by decide, by decide +kernel⟩
theorem mi_X6_comeBack : Cond.instanceMethod yX6_comeBack ∈ xgt ∧ Cond.selects yX6_comeBack.cls yX6_comeBack yX6_comeBack ∈ xgt := ⟨(xgt_at 1246 (by decide +kernel) (by decide +kernel)), (xgt_at 57 (by decide +kernel) (by decide +kernel))⟩
abbrev oX6_comeBack (G : xG) (d : Nat) := OV G d yX6_comeBack cX6_comeBack 1 none
abbrev aX6_comeBack (G : xG) (d pc : Nat) (L : List (Option Value)) (st : List Value) (z : xZ) (v : xS) := fun Q => AW G d 0 0 yX6_comeBack cX6_comeBack 1 none RX6 0 0 pc L st z v (PV z Q)
theorem mv_X6_behind : xmv yX6_behind cX6_behind 6 (some .int) 3 := ⟨⟨xgt_at 1239 (by decide +kernel) (by decide +kernel), (xgt_at 82 (by decide +kernel) (by decide +kernel))⟩, by decide, by decide, by decide, by decide +kernel⟩
theorem mi_X6_behind : Cond.instanceMethod yX6_behind ∈ xgt ∧ Cond.selects yX6_behind.cls yX6_behind yX6_behind ∈ xgt := ⟨(xgt_at 1237 (by decide +kernel) (by decide +kernel)), (xgt_at 1238 (by decide +kernel) (by decide +kernel))⟩
abbrev oX6_behind (G : xG) (d : Nat) := OI G d yX6_behind cX6_behind 6 (some .int)
abbrev aX6_behind (G : xG) (d pc : Nat) (L : List (Option Value)) (st : List Value) (z : xZ) (v : xS) := fun Q => AW G d 0 0 yX6_behind cX6_behind 6 (some .int) RX6 0 0 pc L st z v (PI z Q)
theorem mv_X6_setWas : xmv yX6_setWas cX6_setWas 2 none 0 := ⟨⟨xgt_at 1263 (by decide +kernel) (by decide +kernel), (xgt_at 82 (by decide +kernel) (by decide +kernel))⟩, by decide, by decide, by decide, by decide +kernel⟩
theorem mi_X6_setWas : Cond.instanceMethod yX6_setWas ∈ xgt ∧ Cond.selects yX6_setWas.cls yX6_setWas yX6_setWas ∈ xgt := ⟨(xgt_at 1262 (by decide +kernel) (by decide +kernel)), (xgt_at 60 (by decide +kernel) (by decide +kernel))⟩
abbrev oX6_setWas (G : xG) (d : Nat) := OV G d yX6_setWas cX6_setWas 2 none
abbrev aX6_setWas (G : xG) (d pc : Nat) (L : List (Option Value)) (st : List Value) (z : xZ) (v : xS) := fun Q => AW G d 0 0 yX6_setWas cX6_setWas 2 none RX6 0 0 pc L st z v (PV z Q)
theorem mv_X6_isWas : xmv yX6_isWas cX6_isWas 3 (some .boolean) 0 := ⟨⟨xgt_at 1267 (by decide +kernel) (by decide +kernel), (xgt_at 82 (by decide +kernel) (by decide +kernel))⟩, by decide, by decide, by decide, by decide +kernel⟩
theorem mi_X6_isWas : Cond.instanceMethod yX6_isWas ∈ xgt ∧ Cond.selects yX6_isWas.cls yX6_isWas yX6_isWas ∈ xgt := ⟨(xgt_at 1266 (by decide +kernel) (by decide +kernel)), (xgt_at 61 (by decide +kernel) (by decide +kernel))⟩
abbrev oX6_isWas (G : xG) (d : Nat) := OI G d yX6_isWas cX6_isWas 3 (some .boolean)
abbrev aX6_isWas (G : xG) (d pc : Nat) (L : List (Option Value)) (st : List Value) (z : xZ) (v : xS) := fun Q => AW G d 0 0 yX6_isWas cX6_isWas 3 (some .boolean) RX6 0 0 pc L st z v (PI z Q)
theorem mv_X6_topOf : xmv yX6_topOf cX6_topOf 5 (some .int) 2 := ⟨⟨xgt_at 1259 (by decide +kernel) (by decide +kernel), (xgt_at 82 (by decide +kernel) (by decide +kernel))⟩, by decide, by decide, by decide, by decide +kernel⟩
theorem mi_X6_topOf : Cond.instanceMethod yX6_topOf ∈ xgt ∧ Cond.selects yX6_topOf.cls yX6_topOf yX6_topOf ∈ xgt := ⟨(xgt_at 1258 (by decide +kernel) (by decide +kernel)), (xgt_at 59 (by decide +kernel) (by decide +kernel))⟩
abbrev oX6_topOf (G : xG) (d : Nat) := OI G d yX6_topOf cX6_topOf 5 (some .int)
abbrev aX6_topOf (G : xG) (d pc : Nat) (L : List (Option Value)) (st : List Value) (z : xZ) (v : xS) := fun Q => AW G d 0 0 yX6_topOf cX6_topOf 5 (some .int) RX6 0 0 pc L st z v (PI z Q)
theorem mv_X6_highestNow : xmv yX6_highestNow cX6_highestNow 1 (some .int) 0 := ⟨⟨xgt_at 1255 (by decide +kernel) (by decide +kernel), (xgt_at 82 (by decide +kernel) (by decide +kernel))⟩, by decide, by decide, by decide, by decide +kernel⟩
theorem mi_X6_highestNow : Cond.instanceMethod yX6_highestNow ∈ xgt ∧ Cond.selects yX6_highestNow.cls yX6_highestNow yX6_highestNow ∈ xgt := ⟨(xgt_at 1254 (by decide +kernel) (by decide +kernel)), (xgt_at 58 (by decide +kernel) (by decide +kernel))⟩
abbrev oX6_highestNow (G : xG) (d : Nat) := OI G d yX6_highestNow cX6_highestNow 1 (some .int)
abbrev aX6_highestNow (G : xG) (d pc : Nat) (L : List (Option Value)) (st : List Value) (z : xZ) (v : xS) := fun Q => AW G d 0 0 yX6_highestNow cX6_highestNow 1 (some .int) RX6 0 0 pc L st z v (PI z Q)
theorem mv_X6_rest : xmv yX6_rest cX6_rest 5 (some .int) 1 := ⟨⟨xgt_at 1251 (by decide +kernel) (by decide +kernel), (xgt_at 82 (by decide +kernel) (by decide +kernel))⟩, by decide, by decide, by decide, by decide +kernel⟩
theorem mi_X6_rest : Cond.instanceMethod yX6_rest ∈ xgt ∧ Cond.selects yX6_rest.cls yX6_rest yX6_rest ∈ xgt := ⟨(xgt_at 1249 (by decide +kernel) (by decide +kernel)), (xgt_at 1250 (by decide +kernel) (by decide +kernel))⟩
abbrev oX6_rest (G : xG) (d : Nat) := OI G d yX6_rest cX6_rest 5 (some .int)
abbrev aX6_rest (G : xG) (d pc : Nat) (L : List (Option Value)) (st : List Value) (z : xZ) (v : xS) := fun Q => AW G d 0 0 yX6_rest cX6_rest 5 (some .int) RX6 0 0 pc L st z v (PI z Q)
theorem mv_X6_round : xmv yX6_round cX6_round 4 (some .int) 1 := ⟨⟨xgt_at 1271 (by decide +kernel) (by decide +kernel), (xgt_at 82 (by decide +kernel) (by decide +kernel))⟩, by decide, by decide, by decide, by decide +kernel⟩
theorem mi_X6_round : Cond.instanceMethod yX6_round ∈ xgt ∧ Cond.selects yX6_round.cls yX6_round yX6_round ∈ xgt := ⟨(xgt_at 1269 (by decide +kernel) (by decide +kernel)), (xgt_at 1270 (by decide +kernel) (by decide +kernel))⟩
abbrev oX6_round (G : xG) (d : Nat) := OI G d yX6_round cX6_round 4 (some .int)
abbrev aX6_round (G : xG) (d pc : Nat) (L : List (Option Value)) (st : List Value) (z : xZ) (v : xS) := fun Q => AW G d 0 0 yX6_round cX6_round 4 (some .int) RX6 0 0 pc L st z v (PI z Q)
theorem mv_X6_bestOf : xmv yX6_bestOf cX6_bestOf 8 (some .int) 2 := ⟨⟨xgt_at 1279 (by decide +kernel) (by decide +kernel), (xgt_at 82 (by decide +kernel) (by decide +kernel))⟩, by decide, by decide, by decide, by decide +kernel⟩
theorem mi_X6_bestOf : Cond.instanceMethod yX6_bestOf ∈ xgt ∧ Cond.selects yX6_bestOf.cls yX6_bestOf yX6_bestOf ∈ xgt := ⟨(xgt_at 1278 (by decide +kernel) (by decide +kernel)), (xgt_at 62 (by decide +kernel) (by decide +kernel))⟩
abbrev oX6_bestOf (G : xG) (d : Nat) := OI G d yX6_bestOf cX6_bestOf 8 (some .int)
abbrev aX6_bestOf (G : xG) (d pc : Nat) (L : List (Option Value)) (st : List Value) (z : xZ) (v : xS) := fun Q => AW G d 0 0 yX6_bestOf cX6_bestOf 8 (some .int) RX6 0 0 pc L st z v (PI z Q)
theorem mv_X6_highest : xmv yX6_highest cX6_highest 2 (some .int) 1 := ⟨⟨xgt_at 1275 (by decide +kernel) (by decide +kernel), (xgt_at 82 (by decide +kernel) (by decide +kernel))⟩, by decide, by decide, by decide, by decide +kernel⟩
theorem mi_X6_highest : Cond.instanceMethod yX6_highest ∈ xgt ∧ Cond.selects yX6_highest.cls yX6_highest yX6_highest ∈ xgt := ⟨(xgt_at 1273 (by decide +kernel) (by decide +kernel)), (xgt_at 1274 (by decide +kernel) (by decide +kernel))⟩
abbrev oX6_highest (G : xG) (d : Nat) := OI G d yX6_highest cX6_highest 2 (some .int)
abbrev aX6_highest (G : xG) (d pc : Nat) (L : List (Option Value)) (st : List Value) (z : xZ) (v : xS) := fun Q => AW G d 0 0 yX6_highest cX6_highest 2 (some .int) RX6 0 0 pc L st z v (PI z Q)
theorem mv_X6_lowest : xmv yX6_lowest cX6_lowest 2 (some .int) 1 := ⟨⟨xgt_at 1283 (by decide +kernel) (by decide +kernel), (xgt_at 82 (by decide +kernel) (by decide +kernel))⟩, by decide, by decide, by decide, by decide +kernel⟩
theorem mi_X6_lowest : Cond.instanceMethod yX6_lowest ∈ xgt ∧ Cond.selects yX6_lowest.cls yX6_lowest yX6_lowest ∈ xgt := ⟨(xgt_at 1281 (by decide +kernel) (by decide +kernel)), (xgt_at 1282 (by decide +kernel) (by decide +kernel))⟩
abbrev oX6_lowest (G : xG) (d : Nat) := OI G d yX6_lowest cX6_lowest 2 (some .int)
abbrev aX6_lowest (G : xG) (d pc : Nat) (L : List (Option Value)) (st : List Value) (z : xZ) (v : xS) := fun Q => AW G d 0 0 yX6_lowest cX6_lowest 2 (some .int) RX6 0 0 pc L st z v (PI z Q)
theorem mv_X6_isGoal : xmv yX6_isGoal cX6_isGoal 3 (some .boolean) 0 := ⟨⟨xgt_at 1296 (by decide +kernel) (by decide +kernel), (xgt_at 82 (by decide +kernel) (by decide +kernel))⟩, by decide, by decide, by decide, by decide +kernel⟩
theorem mi_X6_isGoal : Cond.instanceMethod yX6_isGoal ∈ xgt ∧ Cond.selects yX6_isGoal.cls yX6_isGoal yX6_isGoal ∈ xgt := ⟨(xgt_at 1295 (by decide +kernel) (by decide +kernel)), (xgt_at 64 (by decide +kernel) (by decide +kernel))⟩
abbrev oX6_isGoal (G : xG) (d : Nat) := OI G d yX6_isGoal cX6_isGoal 3 (some .boolean)
abbrev aX6_isGoal (G : xG) (d pc : Nat) (L : List (Option Value)) (st : List Value) (z : xZ) (v : xS) := fun Q => AW G d 0 0 yX6_isGoal cX6_isGoal 3 (some .boolean) RX6 0 0 pc L st z v (PI z Q)
theorem mv_X6_playOn : xmv yX6_playOn cX6_playOn 5 none 3 := ⟨⟨xgt_at 1292 (by decide +kernel) (by decide +kernel), (xgt_at 82 (by decide +kernel) (by decide +kernel))⟩, by decide, by decide, by decide, by decide +kernel⟩
theorem mi_X6_playOn : Cond.instanceMethod yX6_playOn ∈ xgt ∧ Cond.selects yX6_playOn.cls yX6_playOn yX6_playOn ∈ xgt := ⟨(xgt_at 1291 (by decide +kernel) (by decide +kernel)), (xgt_at 63 (by decide +kernel) (by decide +kernel))⟩
abbrev oX6_playOn (G : xG) (d : Nat) := OV G d yX6_playOn cX6_playOn 5 none
abbrev aX6_playOn (G : xG) (d pc : Nat) (L : List (Option Value)) (st : List Value) (z : xZ) (v : xS) := fun Q => AW G d 0 0 yX6_playOn cX6_playOn 5 none RX6 0 0 pc L st z v (PV z Q)
theorem mv_X6_layBest : xmv yX6_layBest cX6_layBest 4 none 2 := ⟨⟨xgt_at 1300 (by decide +kernel) (by decide +kernel), (xgt_at 82 (by decide +kernel) (by decide +kernel))⟩, by decide, by decide, by decide, by decide +kernel⟩
theorem mi_X6_layBest : Cond.instanceMethod yX6_layBest ∈ xgt ∧ Cond.selects yX6_layBest.cls yX6_layBest yX6_layBest ∈ xgt := ⟨(xgt_at 1299 (by decide +kernel) (by decide +kernel)), (xgt_at 65 (by decide +kernel) (by decide +kernel))⟩
abbrev oX6_layBest (G : xG) (d : Nat) := OV G d yX6_layBest cX6_layBest 4 none
abbrev aX6_layBest (G : xG) (d pc : Nat) (L : List (Option Value)) (st : List Value) (z : xZ) (v : xS) := fun Q => AW G d 0 0 yX6_layBest cX6_layBest 4 none RX6 0 0 pc L st z v (PV z Q)
theorem mv_X6_flat : xmv yX6_flat cX6_flat 4 (some .int) 2 := ⟨⟨xgt_at 1287 (by decide +kernel) (by decide +kernel), (xgt_at 82 (by decide +kernel) (by decide +kernel))⟩, by decide, by decide, by decide, by decide +kernel⟩
theorem mi_X6_flat : Cond.instanceMethod yX6_flat ∈ xgt ∧ Cond.selects yX6_flat.cls yX6_flat yX6_flat ∈ xgt := ⟨(xgt_at 1285 (by decide +kernel) (by decide +kernel)), (xgt_at 1286 (by decide +kernel) (by decide +kernel))⟩
abbrev oX6_flat (G : xG) (d : Nat) := OI G d yX6_flat cX6_flat 4 (some .int)
abbrev aX6_flat (G : xG) (d pc : Nat) (L : List (Option Value)) (st : List Value) (z : xZ) (v : xS) := fun Q => AW G d 0 0 yX6_flat cX6_flat 4 (some .int) RX6 0 0 pc L st z v (PI z Q)
theorem mv_X6_raise : xmv yX6_raise cX6_raise 5 (some .int) 4 := ⟨⟨xgt_at 1304 (by decide +kernel) (by decide +kernel), (xgt_at 82 (by decide +kernel) (by decide +kernel))⟩, by decide, by decide, by decide, by decide +kernel⟩
theorem mi_X6_raise : Cond.instanceMethod yX6_raise ∈ xgt ∧ Cond.selects yX6_raise.cls yX6_raise yX6_raise ∈ xgt := ⟨(xgt_at 1302 (by decide +kernel) (by decide +kernel)), (xgt_at 1303 (by decide +kernel) (by decide +kernel))⟩
abbrev oX6_raise (G : xG) (d : Nat) := OI G d yX6_raise cX6_raise 5 (some .int)
abbrev aX6_raise (G : xG) (d pc : Nat) (L : List (Option Value)) (st : List Value) (z : xZ) (v : xS) := fun Q => AW G d 0 0 yX6_raise cX6_raise 5 (some .int) RX6 0 0 pc L st z v (PI z Q)
theorem mv_X6_keeps : xmv yX6_keeps cX6_keeps 7 (some .int) 1 := ⟨⟨xgt_at 1308 (by decide +kernel) (by decide +kernel), (xgt_at 82 (by decide +kernel) (by decide +kernel))⟩, by decide, by decide, by decide, by decide +kernel⟩
theorem mi_X6_keeps : Cond.instanceMethod yX6_keeps ∈ xgt ∧ Cond.selects yX6_keeps.cls yX6_keeps yX6_keeps ∈ xgt := ⟨(xgt_at 1306 (by decide +kernel) (by decide +kernel)), (xgt_at 1307 (by decide +kernel) (by decide +kernel))⟩
abbrev oX6_keeps (G : xG) (d : Nat) := OI G d yX6_keeps cX6_keeps 7 (some .int)
abbrev aX6_keeps (G : xG) (d pc : Nat) (L : List (Option Value)) (st : List Value) (z : xZ) (v : xS) := fun Q => AW G d 0 0 yX6_keeps cX6_keeps 7 (some .int) RX6 0 0 pc L st z v (PI z Q)
theorem mv_X6_rivalOn : xmv yX6_rivalOn cX6_rivalOn 12 (some .int) 5 := ⟨⟨xgt_at 1316 (by decide +kernel) (by decide +kernel), (xgt_at 82 (by decide +kernel) (by decide +kernel))⟩, by decide, by decide, by decide, by decide +kernel⟩
theorem mi_X6_rivalOn : Cond.instanceMethod yX6_rivalOn ∈ xgt ∧ Cond.selects yX6_rivalOn.cls yX6_rivalOn yX6_rivalOn ∈ xgt := ⟨(xgt_at 1315 (by decide +kernel) (by decide +kernel)), (xgt_at 66 (by decide +kernel) (by decide +kernel))⟩
abbrev oX6_rivalOn (G : xG) (d : Nat) := OI G d yX6_rivalOn cX6_rivalOn 12 (some .int)
abbrev aX6_rivalOn (G : xG) (d pc : Nat) (L : List (Option Value)) (st : List Value) (z : xZ) (v : xS) := fun Q => AW G d 0 0 yX6_rivalOn cX6_rivalOn 12 (some .int) RX6 0 0 pc L st z v (PI z Q)
theorem mv_X6_rivals : xmv yX6_rivals cX6_rivals 6 (some .int) 4 := ⟨⟨xgt_at 1312 (by decide +kernel) (by decide +kernel), (xgt_at 82 (by decide +kernel) (by decide +kernel))⟩, by decide, by decide, by decide, by decide +kernel⟩
theorem mi_X6_rivals : Cond.instanceMethod yX6_rivals ∈ xgt ∧ Cond.selects yX6_rivals.cls yX6_rivals yX6_rivals ∈ xgt := ⟨(xgt_at 1310 (by decide +kernel) (by decide +kernel)), (xgt_at 1311 (by decide +kernel) (by decide +kernel))⟩
abbrev oX6_rivals (G : xG) (d : Nat) := OI G d yX6_rivals cX6_rivals 6 (some .int)
abbrev aX6_rivals (G : xG) (d pc : Nat) (L : List (Option Value)) (st : List Value) (z : xZ) (v : xS) := fun Q => AW G d 0 0 yX6_rivals cX6_rivals 6 (some .int) RX6 0 0 pc L st z v (PI z Q)
theorem mv_X6_isRowNow : xmv yX6_isRowNow cX6_isRowNow 4 (some .boolean) 1 := ⟨⟨xgt_at 1336 (by decide +kernel) (by decide +kernel), (xgt_at 82 (by decide +kernel) (by decide +kernel))⟩, by decide, by decide, by decide, by decide +kernel⟩
theorem mi_X6_isRowNow : Cond.instanceMethod yX6_isRowNow ∈ xgt ∧ Cond.selects yX6_isRowNow.cls yX6_isRowNow yX6_isRowNow ∈ xgt := ⟨(xgt_at 1335 (by decide +kernel) (by decide +kernel)), (xgt_at 70 (by decide +kernel) (by decide +kernel))⟩
abbrev oX6_isRowNow (G : xG) (d : Nat) := OI G d yX6_isRowNow cX6_isRowNow 4 (some .boolean)
abbrev aX6_isRowNow (G : xG) (d pc : Nat) (L : List (Option Value)) (st : List Value) (z : xZ) (v : xS) := fun Q => AW G d 0 0 yX6_isRowNow cX6_isRowNow 4 (some .boolean) RX6 0 0 pc L st z v (PI z Q)
theorem mv_X6_askedHeights : xmv yX6_askedHeights cX6_askedHeights 3 (some .int) 1 := ⟨⟨xgt_at 1328 (by decide +kernel) (by decide +kernel), (xgt_at 82 (by decide +kernel) (by decide +kernel))⟩, by decide, by decide, by decide, by decide +kernel⟩
theorem mi_X6_askedHeights : Cond.instanceMethod yX6_askedHeights ∈ xgt ∧ Cond.selects yX6_askedHeights.cls yX6_askedHeights yX6_askedHeights ∈ xgt := ⟨(xgt_at 1327 (by decide +kernel) (by decide +kernel)), (xgt_at 68 (by decide +kernel) (by decide +kernel))⟩
abbrev oX6_askedHeights (G : xG) (d : Nat) := OI G d yX6_askedHeights cX6_askedHeights 3 (some .int)
abbrev aX6_askedHeights (G : xG) (d pc : Nat) (L : List (Option Value)) (st : List Value) (z : xZ) (v : xS) := fun Q => AW G d 0 0 yX6_askedHeights cX6_askedHeights 3 (some .int) RX6 0 0 pc L st z v (PI z Q)
theorem mv_X6_setPlayed : xmv yX6_setPlayed cX6_setPlayed 5 none 1 := ⟨⟨xgt_at 1332 (by decide +kernel) (by decide +kernel), (xgt_at 82 (by decide +kernel) (by decide +kernel))⟩, by decide, by decide, by decide, by decide +kernel⟩
theorem mi_X6_setPlayed : Cond.instanceMethod yX6_setPlayed ∈ xgt ∧ Cond.selects yX6_setPlayed.cls yX6_setPlayed yX6_setPlayed ∈ xgt := ⟨(xgt_at 1331 (by decide +kernel) (by decide +kernel)), (xgt_at 69 (by decide +kernel) (by decide +kernel))⟩
abbrev oX6_setPlayed (G : xG) (d : Nat) := OV G d yX6_setPlayed cX6_setPlayed 5 none
abbrev aX6_setPlayed (G : xG) (d pc : Nat) (L : List (Option Value)) (st : List Value) (z : xZ) (v : xS) := fun Q => AW G d 0 0 yX6_setPlayed cX6_setPlayed 5 none RX6 0 0 pc L st z v (PV z Q)
theorem mv_X6_askedPlayed : xmv yX6_askedPlayed cX6_askedPlayed 2 (some .int) 1 := ⟨⟨xgt_at 1324 (by decide +kernel) (by decide +kernel), (xgt_at 82 (by decide +kernel) (by decide +kernel))⟩, by decide, by decide, by decide, by decide +kernel⟩
theorem mi_X6_askedPlayed : Cond.instanceMethod yX6_askedPlayed ∈ xgt ∧ Cond.selects yX6_askedPlayed.cls yX6_askedPlayed yX6_askedPlayed ∈ xgt := ⟨(xgt_at 1323 (by decide +kernel) (by decide +kernel)), (xgt_at 67 (by decide +kernel) (by decide +kernel))⟩
abbrev oX6_askedPlayed (G : xG) (d : Nat) := OI G d yX6_askedPlayed cX6_askedPlayed 2 (some .int)
abbrev aX6_askedPlayed (G : xG) (d pc : Nat) (L : List (Option Value)) (st : List Value) (z : xZ) (v : xS) := fun Q => AW G d 0 0 yX6_askedPlayed cX6_askedPlayed 2 (some .int) RX6 0 0 pc L st z v (PI z Q)
theorem mv_X6_played : xmv yX6_played cX6_played 3 (some .int) 1 := ⟨⟨xgt_at 1320 (by decide +kernel) (by decide +kernel), (xgt_at 82 (by decide +kernel) (by decide +kernel))⟩, by decide, by decide, by decide, by decide +kernel⟩
theorem mi_X6_played : Cond.instanceMethod yX6_played ∈ xgt ∧ Cond.selects yX6_played.cls yX6_played yX6_played ∈ xgt := ⟨(xgt_at 1318 (by decide +kernel) (by decide +kernel)), (xgt_at 1319 (by decide +kernel) (by decide +kernel))⟩
abbrev oX6_played (G : xG) (d : Nat) := OI G d yX6_played cX6_played 3 (some .int)
abbrev aX6_played (G : xG) (d pc : Nat) (L : List (Option Value)) (st : List Value) (z : xZ) (v : xS) := fun Q => AW G d 0 0 yX6_played cX6_played 3 (some .int) RX6 0 0 pc L st z v (PI z Q)
theorem mv_X6_could : xmv yX6_could cX6_could 4 (some .int) 2 := ⟨⟨xgt_at 1340 (by decide +kernel) (by decide +kernel), (xgt_at 82 (by decide +kernel) (by decide +kernel))⟩, by decide, by decide, by decide, by decide +kernel⟩
theorem mi_X6_could : Cond.instanceMethod yX6_could ∈ xgt ∧ Cond.selects yX6_could.cls yX6_could yX6_could ∈ xgt := ⟨(xgt_at 1338 (by decide +kernel) (by decide +kernel)), (xgt_at 1339 (by decide +kernel) (by decide +kernel))⟩
abbrev oX6_could (G : xG) (d : Nat) := OI G d yX6_could cX6_could 4 (some .int)
abbrev aX6_could (G : xG) (d pc : Nat) (L : List (Option Value)) (st : List Value) (z : xZ) (v : xS) := fun Q => AW G d 0 0 yX6_could cX6_could 4 (some .int) RX6 0 0 pc L st z v (PI z Q)
theorem mv_X6_twice : xmv yX6_twice cX6_twice 6 (some .int) 1 := ⟨⟨xgt_at 1344 (by decide +kernel) (by decide +kernel), (xgt_at 82 (by decide +kernel) (by decide +kernel))⟩, by decide, by decide, by decide, by decide +kernel⟩
theorem mi_X6_twice : Cond.instanceMethod yX6_twice ∈ xgt ∧ Cond.selects yX6_twice.cls yX6_twice yX6_twice ∈ xgt := ⟨(xgt_at 1342 (by decide +kernel) (by decide +kernel)), (xgt_at 1343 (by decide +kernel) (by decide +kernel))⟩
abbrev oX6_twice (G : xG) (d : Nat) := OI G d yX6_twice cX6_twice 6 (some .int)
abbrev aX6_twice (G : xG) (d pc : Nat) (L : List (Option Value)) (st : List Value) (z : xZ) (v : xS) := fun Q => AW G d 0 0 yX6_twice cX6_twice 6 (some .int) RX6 0 0 pc L st z v (PI z Q)
theorem mv_X6_valleys : xmv yX6_valleys cX6_valleys 5 (some .int) 0 := ⟨⟨xgt_at 1348 (by decide +kernel) (by decide +kernel), (xgt_at 82 (by decide +kernel) (by decide +kernel))⟩, by decide, by decide, by decide, by decide +kernel⟩
theorem mi_X6_valleys : Cond.instanceMethod yX6_valleys ∈ xgt ∧ Cond.selects yX6_valleys.cls yX6_valleys yX6_valleys ∈ xgt := ⟨(xgt_at 1346 (by decide +kernel) (by decide +kernel)), (xgt_at 1347 (by decide +kernel) (by decide +kernel))⟩
abbrev oX6_valleys (G : xG) (d : Nat) := OI G d yX6_valleys cX6_valleys 5 (some .int)
abbrev aX6_valleys (G : xG) (d pc : Nat) (L : List (Option Value)) (st : List Value) (z : xZ) (v : xS) := fun Q => AW G d 0 0 yX6_valleys cX6_valleys 5 (some .int) RX6 0 0 pc L st z v (PI z Q)
theorem mv_X6_top : xmv yX6_top cX6_top 2 (some .int) 0 := ⟨⟨xgt_at 1352 (by decide +kernel) (by decide +kernel), (xgt_at 82 (by decide +kernel) (by decide +kernel))⟩, by decide, by decide, by decide, by decide +kernel⟩
theorem mi_X6_top : Cond.instanceMethod yX6_top ∈ xgt ∧ Cond.selects yX6_top.cls yX6_top yX6_top ∈ xgt := ⟨(xgt_at 1350 (by decide +kernel) (by decide +kernel)), (xgt_at 1351 (by decide +kernel) (by decide +kernel))⟩
abbrev oX6_top (G : xG) (d : Nat) := OI G d yX6_top cX6_top 2 (some .int)
abbrev aX6_top (G : xG) (d pc : Nat) (L : List (Option Value)) (st : List Value) (z : xZ) (v : xS) := fun Q => AW G d 0 0 yX6_top cX6_top 2 (some .int) RX6 0 0 pc L st z v (PI z Q)
theorem mv_X6_isSpan : xmv yX6_isSpan cX6_isSpan 3 (some .boolean) 2 := ⟨⟨xgt_at 1360 (by decide +kernel) (by decide +kernel), (xgt_at 82 (by decide +kernel) (by decide +kernel))⟩, by decide, by decide, by decide, by decide +kernel⟩
theorem mi_X6_isSpan : Cond.instanceMethod yX6_isSpan ∈ xgt ∧ Cond.selects yX6_isSpan.cls yX6_isSpan yX6_isSpan ∈ xgt := ⟨(xgt_at 1359 (by decide +kernel) (by decide +kernel)), (xgt_at 71 (by decide +kernel) (by decide +kernel))⟩
abbrev oX6_isSpan (G : xG) (d : Nat) := OI G d yX6_isSpan cX6_isSpan 3 (some .boolean)
abbrev aX6_isSpan (G : xG) (d pc : Nat) (L : List (Option Value)) (st : List Value) (z : xZ) (v : xS) := fun Q => AW G d 0 0 yX6_isSpan cX6_isSpan 3 (some .boolean) RX6 0 0 pc L st z v (PI z Q)
theorem mv_X6_border : xmv yX6_border cX6_border 4 (some .int) 2 := ⟨⟨xgt_at 1356 (by decide +kernel) (by decide +kernel), (xgt_at 82 (by decide +kernel) (by decide +kernel))⟩, by decide, by decide, by decide, by decide +kernel⟩
theorem mi_X6_border : Cond.instanceMethod yX6_border ∈ xgt ∧ Cond.selects yX6_border.cls yX6_border yX6_border ∈ xgt := ⟨(xgt_at 1354 (by decide +kernel) (by decide +kernel)), (xgt_at 1355 (by decide +kernel) (by decide +kernel))⟩
abbrev oX6_border (G : xG) (d : Nat) := OI G d yX6_border cX6_border 4 (some .int)
abbrev aX6_border (G : xG) (d pc : Nat) (L : List (Option Value)) (st : List Value) (z : xZ) (v : xS) := fun Q => AW G d 0 0 yX6_border cX6_border 4 (some .int) RX6 0 0 pc L st z v (PI z Q)
theorem mv_X6_shifts : xmv yX6_shifts cX6_shifts 8 (some .int) 2 := ⟨⟨xgt_at 1364 (by decide +kernel) (by decide +kernel), (xgt_at 82 (by decide +kernel) (by decide +kernel))⟩, by decide, by decide, by decide, by decide +kernel⟩
theorem mi_X6_shifts : Cond.instanceMethod yX6_shifts ∈ xgt ∧ Cond.selects yX6_shifts.cls yX6_shifts yX6_shifts ∈ xgt := ⟨(xgt_at 1362 (by decide +kernel) (by decide +kernel)), (xgt_at 1363 (by decide +kernel) (by decide +kernel))⟩
abbrev oX6_shifts (G : xG) (d : Nat) := OI G d yX6_shifts cX6_shifts 8 (some .int)
abbrev aX6_shifts (G : xG) (d pc : Nat) (L : List (Option Value)) (st : List Value) (z : xZ) (v : xS) := fun Q => AW G d 0 0 yX6_shifts cX6_shifts 8 (some .int) RX6 0 0 pc L st z v (PI z Q)
theorem mv_X6_far : xmv yX6_far cX6_far 8 (some .int) 1 := ⟨⟨xgt_at 1368 (by decide +kernel) (by decide +kernel), (xgt_at 82 (by decide +kernel) (by decide +kernel))⟩, by decide, by decide, by decide, by decide +kernel⟩
theorem mi_X6_far : Cond.instanceMethod yX6_far ∈ xgt ∧ Cond.selects yX6_far.cls yX6_far yX6_far ∈ xgt := ⟨(xgt_at 1366 (by decide +kernel) (by decide +kernel)), (xgt_at 1367 (by decide +kernel) (by decide +kernel))⟩
abbrev oX6_far (G : xG) (d : Nat) := OI G d yX6_far cX6_far 8 (some .int)
abbrev aX6_far (G : xG) (d pc : Nat) (L : List (Option Value)) (st : List Value) (z : xZ) (v : xS) := fun Q => AW G d 0 0 yX6_far cX6_far 8 (some .int) RX6 0 0 pc L st z v (PI z Q)
theorem mv_X6_season : xmv yX6_season cX6_season 7 (some .int) 2 := ⟨⟨xgt_at 1372 (by decide +kernel) (by decide +kernel), (xgt_at 82 (by decide +kernel) (by decide +kernel))⟩, by decide, by decide, by decide, by decide +kernel⟩
theorem mi_X6_season : Cond.instanceMethod yX6_season ∈ xgt ∧ Cond.selects yX6_season.cls yX6_season yX6_season ∈ xgt := ⟨(xgt_at 1370 (by decide +kernel) (by decide +kernel)), (xgt_at 1371 (by decide +kernel) (by decide +kernel))⟩
abbrev oX6_season (G : xG) (d : Nat) := OI G d yX6_season cX6_season 7 (some .int)
abbrev aX6_season (G : xG) (d pc : Nat) (L : List (Option Value)) (st : List Value) (z : xZ) (v : xS) := fun Q => AW G d 0 0 yX6_season cX6_season 7 (some .int) RX6 0 0 pc L st z v (PI z Q)
theorem mv_X6_asked : xmv yX6_asked cX6_asked 1 (some .int) 0 := ⟨⟨xgt_at 1382 (by decide +kernel) (by decide +kernel), (xgt_at 82 (by decide +kernel) (by decide +kernel))⟩, by decide, by decide, by decide, by decide +kernel⟩
theorem mi_X6_asked : Cond.instanceMethod yX6_asked ∈ xgt ∧ Cond.selects yX6_asked.cls yX6_asked yX6_asked ∈ xgt := ⟨(xgt_at 1380 (by decide +kernel) (by decide +kernel)), (xgt_at 1381 (by decide +kernel) (by decide +kernel))⟩
abbrev oX6_asked (G : xG) (d : Nat) := OI G d yX6_asked cX6_asked 1 (some .int)
abbrev aX6_asked (G : xG) (d pc : Nat) (L : List (Option Value)) (st : List Value) (z : xZ) (v : xS) := fun Q => AW G d 0 0 yX6_asked cX6_asked 1 (some .int) RX6 0 0 pc L st z v (PI z Q)
theorem mv_X6_divisor : xmv yX6_divisor cX6_divisor 5 (some .int) 2 := ⟨⟨xgt_at 1389 (by decide +kernel) (by decide +kernel), (xgt_at 82 (by decide +kernel) (by decide +kernel))⟩, by decide, by decide, by decide, by decide +kernel⟩
theorem ms_X6_divisor : Cond.static yX6_divisor ∈ xgt := (xgt_at 1388 (by decide +kernel) (by decide +kernel))
abbrev oX6_divisor (G : xG) (d : Nat) := OI G d yX6_divisor cX6_divisor 5 (some .int)
abbrev aX6_divisor (G : xG) (d pc : Nat) (L : List (Option Value)) (st : List Value) (z : xZ) (v : xS) := fun Q => AW G d 0 0 yX6_divisor cX6_divisor 5 (some .int) RX6 0 0 pc L st z v (PI z Q)
theorem mv_X6_upper : xmv yX6_upper cX6_upper 2 (some .long) 0 := ⟨⟨xgt_at 1386 (by decide +kernel) (by decide +kernel), (xgt_at 82 (by decide +kernel) (by decide +kernel))⟩, by decide, by decide, by decide, by decide +kernel⟩
theorem mi_X6_upper : Cond.instanceMethod yX6_upper ∈ xgt ∧ Cond.selects yX6_upper.cls yX6_upper yX6_upper ∈ xgt := ⟨(xgt_at 1384 (by decide +kernel) (by decide +kernel)), (xgt_at 1385 (by decide +kernel) (by decide +kernel))⟩
abbrev oX6_upper (G : xG) (d : Nat) := OL G d yX6_upper cX6_upper 2 (some .long)
abbrev aX6_upper (G : xG) (d pc : Nat) (L : List (Option Value)) (st : List Value) (z : xZ) (v : xS) := fun Q => AW G d 0 0 yX6_upper cX6_upper 2 (some .long) RX6 0 0 pc L st z v (PL z Q)
theorem mv_X6_lower : xmv yX6_lower cX6_lower 2 (some .long) 0 := ⟨⟨xgt_at 1393 (by decide +kernel) (by decide +kernel), (xgt_at 82 (by decide +kernel) (by decide +kernel))⟩, by decide, by decide, by decide, by decide +kernel⟩
theorem mi_X6_lower : Cond.instanceMethod yX6_lower ∈ xgt ∧ Cond.selects yX6_lower.cls yX6_lower yX6_lower ∈ xgt := ⟨(xgt_at 1391 (by decide +kernel) (by decide +kernel)), (xgt_at 1392 (by decide +kernel) (by decide +kernel))⟩
abbrev oX6_lower (G : xG) (d : Nat) := OL G d yX6_lower cX6_lower 2 (some .long)
abbrev aX6_lower (G : xG) (d pc : Nat) (L : List (Option Value)) (st : List Value) (z : xZ) (v : xS) := fun Q => AW G d 0 0 yX6_lower cX6_lower 2 (some .long) RX6 0 0 pc L st z v (PL z Q)
theorem mv_X6_tells : xmv yX6_tells cX6_tells 4 (some .int) 1 := ⟨⟨xgt_at 1401 (by decide +kernel) (by decide +kernel), (xgt_at 82 (by decide +kernel) (by decide +kernel))⟩, by decide, by decide, by decide, by decide +kernel⟩
theorem mi_X6_tells : Cond.instanceMethod yX6_tells ∈ xgt ∧ Cond.selects yX6_tells.cls yX6_tells yX6_tells ∈ xgt := ⟨(xgt_at 1400 (by decide +kernel) (by decide +kernel)), (xgt_at 72 (by decide +kernel) (by decide +kernel))⟩
abbrev oX6_tells (G : xG) (d : Nat) := OI G d yX6_tells cX6_tells 4 (some .int)
abbrev aX6_tells (G : xG) (d pc : Nat) (L : List (Option Value)) (st : List Value) (z : xZ) (v : xS) := fun Q => AW G d 0 0 yX6_tells cX6_tells 4 (some .int) RX6 0 0 pc L st z v (PI z Q)
theorem mv_X6_count : xmv yX6_count cX6_count 2 (some .int) 1 := ⟨⟨xgt_at 1397 (by decide +kernel) (by decide +kernel), (xgt_at 82 (by decide +kernel) (by decide +kernel))⟩, by decide, by decide, by decide, by decide +kernel⟩
theorem mi_X6_count : Cond.instanceMethod yX6_count ∈ xgt ∧ Cond.selects yX6_count.cls yX6_count yX6_count ∈ xgt := ⟨(xgt_at 1395 (by decide +kernel) (by decide +kernel)), (xgt_at 1396 (by decide +kernel) (by decide +kernel))⟩
abbrev oX6_count (G : xG) (d : Nat) := OI G d yX6_count cX6_count 2 (some .int)
abbrev aX6_count (G : xG) (d pc : Nat) (L : List (Option Value)) (st : List Value) (z : xZ) (v : xS) := fun Q => AW G d 0 0 yX6_count cX6_count 2 (some .int) RX6 0 0 pc L st z v (PI z Q)
theorem mv_X6_finding : xmv yX6_finding cX6_finding 1 (some .int) 0 := ⟨⟨xgt_at 1408 (by decide +kernel) (by decide +kernel), (xgt_at 82 (by decide +kernel) (by decide +kernel))⟩, by decide, by decide, by decide, by decide +kernel⟩
theorem mi_X6_finding : Cond.instanceMethod yX6_finding ∈ xgt ∧ Cond.selects yX6_finding.cls yX6_finding yX6_finding ∈ xgt := ⟨(xgt_at 1406 (by decide +kernel) (by decide +kernel)), (xgt_at 1407 (by decide +kernel) (by decide +kernel))⟩
abbrev oX6_finding (G : xG) (d : Nat) := OI G d yX6_finding cX6_finding 1 (some .int)
abbrev aX6_finding (G : xG) (d pc : Nat) (L : List (Option Value)) (st : List Value) (z : xZ) (v : xS) := fun Q => AW G d 0 0 yX6_finding cX6_finding 1 (some .int) RX6 0 0 pc L st z v (PI z Q)
theorem mv_X6_findings : xmv yX6_findings cX6_findings 2 (some .int) 1 := ⟨⟨xgt_at 1412 (by decide +kernel) (by decide +kernel), (xgt_at 82 (by decide +kernel) (by decide +kernel))⟩, by decide, by decide, by decide, by decide +kernel⟩
theorem mi_X6_findings : Cond.instanceMethod yX6_findings ∈ xgt ∧ Cond.selects yX6_findings.cls yX6_findings yX6_findings ∈ xgt := ⟨(xgt_at 1410 (by decide +kernel) (by decide +kernel)), (xgt_at 1411 (by decide +kernel) (by decide +kernel))⟩
abbrev oX6_findings (G : xG) (d : Nat) := OI G d yX6_findings cX6_findings 2 (some .int)
abbrev aX6_findings (G : xG) (d pc : Nat) (L : List (Option Value)) (st : List Value) (z : xZ) (v : xS) := fun Q => AW G d 0 0 yX6_findings cX6_findings 2 (some .int) RX6 0 0 pc L st z v (PI z Q)
theorem mv_X6_mix : xmv yX6_mix cX6_mix 2 none 1 := ⟨⟨xgt_at 1421 (by decide +kernel) (by decide +kernel), (xgt_at 82 (by decide +kernel) (by decide +kernel))⟩, by decide, by decide, by decide, by decide +kernel⟩
theorem mi_X6_mix : Cond.instanceMethod yX6_mix ∈ xgt ∧ Cond.selects yX6_mix.cls yX6_mix yX6_mix ∈ xgt := ⟨(xgt_at 1420 (by decide +kernel) (by decide +kernel)), (xgt_at 73 (by decide +kernel) (by decide +kernel))⟩
abbrev oX6_mix (G : xG) (d : Nat) := OV G d yX6_mix cX6_mix 2 none
abbrev aX6_mix (G : xG) (d pc : Nat) (L : List (Option Value)) (st : List Value) (z : xZ) (v : xS) := fun Q => AW G d 0 0 yX6_mix cX6_mix 2 none RX6 0 0 pc L st z v (PV z Q)
theorem mv_X6_mixLand : xmv yX6_mixLand cX6_mixLand 3 none 0 := ⟨⟨xgt_at 1426 (by decide +kernel) (by decide +kernel), (xgt_at 82 (by decide +kernel) (by decide +kernel))⟩, by decide, by decide, by decide, by decide +kernel⟩
theorem mi_X6_mixLand : Cond.instanceMethod yX6_mixLand ∈ xgt ∧ Cond.selects yX6_mixLand.cls yX6_mixLand yX6_mixLand ∈ xgt := ⟨(xgt_at 1425 (by decide +kernel) (by decide +kernel)), (xgt_at 74 (by decide +kernel) (by decide +kernel))⟩
abbrev oX6_mixLand (G : xG) (d : Nat) := OV G d yX6_mixLand cX6_mixLand 3 none
abbrev aX6_mixLand (G : xG) (d pc : Nat) (L : List (Option Value)) (st : List Value) (z : xZ) (v : xS) := fun Q => AW G d 0 0 yX6_mixLand cX6_mixLand 3 none RX6 0 0 pc L st z v (PV z Q)
theorem mv_X6_digest : xmv yX6_digest cX6_digest 3 (some .long) 0 := ⟨⟨xgt_at 1416 (by decide +kernel) (by decide +kernel), (xgt_at 82 (by decide +kernel) (by decide +kernel))⟩, by decide, by decide, by decide, by decide +kernel⟩
theorem mi_X6_digest : Cond.instanceMethod yX6_digest ∈ xgt ∧ Cond.selects yX6_digest.cls yX6_digest yX6_digest ∈ xgt := ⟨(xgt_at 1414 (by decide +kernel) (by decide +kernel)), (xgt_at 1415 (by decide +kernel) (by decide +kernel))⟩
abbrev oX6_digest (G : xG) (d : Nat) := OL G d yX6_digest cX6_digest 3 (some .long)
abbrev aX6_digest (G : xG) (d pc : Nat) (L : List (Option Value)) (st : List Value) (z : xZ) (v : xS) := fun Q => AW G d 0 0 yX6_digest cX6_digest 3 (some .long) RX6 0 0 pc L st z v (PL z Q)
theorem mv_J6_bitCount_0f7a4 : xmv yJ6_bitCount_0f7a4 cJ6_bitCount_0f7a4 1 (some .int) 1 := ⟨⟨xgt_at 832 (by decide +kernel) (by decide +kernel), (xgt_at 85 (by decide +kernel) (by decide +kernel))⟩, by decide, by decide, by decide, by decide +kernel⟩
theorem ms_J6_bitCount_0f7a4 : Cond.static yJ6_bitCount_0f7a4 ∈ xgt := (xgt_at 831 (by decide +kernel) (by decide +kernel))
abbrev oJ6_bitCount_0f7a4 (G : xG) (d : Nat) := OI G d yJ6_bitCount_0f7a4 cJ6_bitCount_0f7a4 1 (some .int)
abbrev aJ6_bitCount_0f7a4 (G : xG) (d pc : Nat) (L : List (Option Value)) (st : List Value) (z : xZ) (v : xS) := fun Q => AW G d 0 0 yJ6_bitCount_0f7a4 cJ6_bitCount_0f7a4 1 (some .int) RJ6 0 0 pc L st z v (PI z Q)
theorem ml_L_9 : Cond.methodLink RL 9 yX5_init ∈ xgt := (xgt_at 88 (by decide +kernel) (by decide +kernel))
theorem ml_X5_1 : Cond.methodLink RX5 1 objectInit ∈ xgt := (xgt_at 91 (by decide +kernel) (by decide +kernel))
theorem ml_X5_11 : Cond.methodLink RX5 11 yX4_init ∈ xgt := (xgt_at 96 (by decide +kernel) (by decide +kernel))
theorem ml_X4_3 : Cond.methodLink RX4 3 objectInit ∈ xgt := (xgt_at 99 (by decide +kernel) (by decide +kernel))
theorem ml_X3_3 : Cond.methodLink RX3 3 objectInit ∈ xgt := (xgt_at 119 (by decide +kernel) (by decide +kernel))
theorem ml_X1_3 : Cond.methodLink RX1 3 objectInit ∈ xgt := (xgt_at 150 (by decide +kernel) (by decide +kernel))
theorem ml_X5_37 : Cond.methodLink RX5 37 yX0_init ∈ xgt := (xgt_at 203 (by decide +kernel) (by decide +kernel))
theorem ml_X0_3 : Cond.methodLink RX0 3 objectInit ∈ xgt := (xgt_at 206 (by decide +kernel) (by decide +kernel))
theorem ml_X5_46 : Cond.methodLink RX5 46 yX2_init ∈ xgt := (xgt_at 238 (by decide +kernel) (by decide +kernel))
theorem ml_X2_3 : Cond.methodLink RX2 3 objectInit ∈ xgt := (xgt_at 241 (by decide +kernel) (by decide +kernel))
theorem ml_L_13 : Cond.methodLink RL 13 yX5_row ∈ xgt := (xgt_at 318 (by decide +kernel) (by decide +kernel))
theorem ml_X5_70 : Cond.methodLink RX5 70 yX5_opened ∈ xgt := (xgt_at 322 (by decide +kernel) (by decide +kernel))
theorem ml_X5_74 : Cond.methodLink RX5 74 yX4_names ∈ xgt := (xgt_at 326 (by decide +kernel) (by decide +kernel))
theorem ml_X5_96 : Cond.methodLink RX5 96 yX5_find ∈ xgt := (xgt_at 330 (by decide +kernel) (by decide +kernel))
theorem ml_X5_185 : Cond.methodLink RX5 185 yX4_open ∈ xgt := (xgt_at 334 (by decide +kernel) (by decide +kernel))
theorem ml_X4_32 : Cond.methodLink RX4 32 yX4_names ∈ xgt := (xgt_at 338 (by decide +kernel) (by decide +kernel))
theorem ml_L_18 : Cond.methodLink RL 18 yX5_lay ∈ xgt := (xgt_at 339 (by decide +kernel) (by decide +kernel))
theorem ml_X5_78 : Cond.methodLink RX5 78 yX5_placeRefusal ∈ xgt := (xgt_at 343 (by decide +kernel) (by decide +kernel))
theorem ml_X5_93 : Cond.methodLink RX5 93 yX4_holds ∈ xgt := (xgt_at 347 (by decide +kernel) (by decide +kernel))
theorem ml_X4_24 : Cond.methodLink RX4 24 yX4_sizeOf ∈ xgt := (xgt_at 351 (by decide +kernel) (by decide +kernel))
theorem ml_X5_323 : Cond.methodLink RX5 323 yX4_reaches ∈ xgt := (xgt_at 355 (by decide +kernel) (by decide +kernel))
theorem ml_X5_82 : Cond.methodLink RX5 82 yX4_get ∈ xgt := (xgt_at 359 (by decide +kernel) (by decide +kernel))
theorem ml_X4_28 : Cond.methodLink RX4 28 yX4_reaches ∈ xgt := (xgt_at 363 (by decide +kernel) (by decide +kernel))
theorem ml_X5_86 : Cond.methodLink RX5 86 yX4_set ∈ xgt := (xgt_at 364 (by decide +kernel) (by decide +kernel))
theorem ml_X5_90 : Cond.methodLink RX5 90 yX5_tell ∈ xgt := (xgt_at 368 (by decide +kernel) (by decide +kernel))
theorem ml_L_23 : Cond.methodLink RL 23 yX5_at ∈ xgt := (xgt_at 372 (by decide +kernel) (by decide +kernel))
theorem ml_L_27 : Cond.methodLink RL 27 yX5_tear ∈ xgt := (xgt_at 376 (by decide +kernel) (by decide +kernel))
theorem ml_X5_100 : Cond.methodLink RX5 100 yX4_close ∈ xgt := (xgt_at 380 (by decide +kernel) (by decide +kernel))
theorem ml_L_32 : Cond.methodLink RL 32 yX5_copy ∈ xgt := (xgt_at 384 (by decide +kernel) (by decide +kernel))
theorem ml_X5_104 : Cond.methodLink RX5 104 yX4_spans ∈ xgt := (xgt_at 388 (by decide +kernel) (by decide +kernel))
theorem ml_X5_108 : Cond.methodLink RX5 108 yX4_transfer ∈ xgt := (xgt_at 392 (by decide +kernel) (by decide +kernel))
theorem ml_X4_36 : Cond.methodLink RX4 36 yX4_spans ∈ xgt := (xgt_at 396 (by decide +kernel) (by decide +kernel))
theorem ml_X4_40 : Cond.methodLink RX4 40 arraycopyName ∈ xgt := (xgt_at 397 (by decide +kernel) (by decide +kernel))
theorem ml_L_37 : Cond.methodLink RL 37 yX5_mean ∈ xgt := (xgt_at 400 (by decide +kernel) (by decide +kernel))
theorem ml_X5_112 : Cond.methodLink RX5 112 yX4_sizeOf ∈ xgt := (xgt_at 404 (by decide +kernel) (by decide +kernel))
theorem ml_X5_115 : Cond.methodLink RX5 115 yX4_sumOf ∈ xgt := (xgt_at 405 (by decide +kernel) (by decide +kernel))
theorem ml_L_41 : Cond.methodLink RL 41 yX5_text ∈ xgt := (xgt_at 409 (by decide +kernel) (by decide +kernel))
theorem ml_L_45 : Cond.methodLink RL 45 yX5_put ∈ xgt := (xgt_at 413 (by decide +kernel) (by decide +kernel))
theorem ml_L_49 : Cond.methodLink RL 49 yX5_fault ∈ xgt := (xgt_at 417 (by decide +kernel) (by decide +kernel))
theorem ml_X5_119 : Cond.methodLink RX5 119 yX3_read ∈ xgt := (xgt_at 421 (by decide +kernel) (by decide +kernel))
theorem ml_X3_31 : Cond.methodLink RX3 31 yX4_sizeOf ∈ xgt := (xgt_at 425 (by decide +kernel) (by decide +kernel))
theorem ml_X3_37 : Cond.methodLink RX3 37 yX3_behindBlanks ∈ xgt := (xgt_at 426 (by decide +kernel) (by decide +kernel))
theorem ml_X3_41 : Cond.methodLink RX3 41 yX4_get ∈ xgt := (xgt_at 430 (by decide +kernel) (by decide +kernel))
theorem ml_X3_45 : Cond.methodLink RX3 45 yX3_behindHeights ∈ xgt := (xgt_at 431 (by decide +kernel) (by decide +kernel))
theorem ml_X3_51 : Cond.methodLink RX3 51 yX3_figureAt ∈ xgt := (xgt_at 435 (by decide +kernel) (by decide +kernel))
theorem ml_X3_57 : Cond.methodLink RX3 57 yX4_reaches ∈ xgt := (xgt_at 438 (by decide +kernel) (by decide +kernel))
theorem ml_X3_48 : Cond.methodLink RX3 48 yX3_bandFault ∈ xgt := (xgt_at 439 (by decide +kernel) (by decide +kernel))
theorem ml_X3_54 : Cond.methodLink RX3 54 yX3_kindOf ∈ xgt := (xgt_at 443 (by decide +kernel) (by decide +kernel))
theorem ml_L_53 : Cond.methodLink RL 53 yX5_land ∈ xgt := (xgt_at 448 (by decide +kernel) (by decide +kernel))
theorem ml_X5_123 : Cond.methodLink RX5 123 yX1_begin ∈ xgt := (xgt_at 452 (by decide +kernel) (by decide +kernel))
theorem ml_X1_54 : Cond.methodLink RX1 54 arraycopyName ∈ xgt := (xgt_at 456 (by decide +kernel) (by decide +kernel))
theorem ml_L_57 : Cond.methodLink RL 57 yX5_spot ∈ xgt := (xgt_at 457 (by decide +kernel) (by decide +kernel))
theorem ml_X5_130 : Cond.methodLink RX5 130 yX1_isSpot ∈ xgt := (xgt_at 461 (by decide +kernel) (by decide +kernel))
theorem ml_X5_133 : Cond.methodLink RX5 133 yX1_isFrozen ∈ xgt := (xgt_at 465 (by decide +kernel) (by decide +kernel))
theorem ml_L_61 : Cond.methodLink RL 61 yX5_band ∈ xgt := (xgt_at 469 (by decide +kernel) (by decide +kernel))
theorem ml_X5_139 : Cond.methodLink RX5 139 yX1_isBand ∈ xgt := (xgt_at 473 (by decide +kernel) (by decide +kernel))
theorem ml_X5_142 : Cond.methodLink RX5 142 yX1_bandTells ∈ xgt := (xgt_at 477 (by decide +kernel) (by decide +kernel))
theorem ml_X1_67 : Cond.methodLink RX1 67 yX1_isBand ∈ xgt := (xgt_at 481 (by decide +kernel) (by decide +kernel))
theorem ml_X1_97 : Cond.methodLink RX1 97 yX1_heardOn ∈ xgt := (xgt_at 482 (by decide +kernel) (by decide +kernel))
theorem ml_X1_91 : Cond.methodLink RX1 91 yX1_isHeard ∈ xgt := (xgt_at 486 (by decide +kernel) (by decide +kernel))
theorem ml_X1_82 : Cond.methodLink RX1 82 Lib.Math.abs.name ∈ xgt := (xgt_at 490 (by decide +kernel) (by decide +kernel))
theorem ml_X1_88 : Cond.methodLink RX1 88 yX1_reach ∈ xgt := (xgt_at 493 (by decide +kernel) (by decide +kernel))
theorem ml_L_65 : Cond.methodLink RL 65 yX5_mark ∈ xgt := (xgt_at 497 (by decide +kernel) (by decide +kernel))
theorem ml_X5_145 : Cond.methodLink RX5 145 yX1_isOf ∈ xgt := (xgt_at 501 (by decide +kernel) (by decide +kernel))
theorem ml_X5_149 : Cond.methodLink RX5 149 yX0_inchesByTune ∈ xgt := (xgt_at 507 (by decide +kernel) (by decide +kernel))
theorem ml_X0_51 : Cond.methodLink RX0 51 yX0_startFromNow ∈ xgt := (xgt_at 511 (by decide +kernel) (by decide +kernel))
theorem ml_X0_45 : Cond.methodLink RX0 45 arraycopyName ∈ xgt := (xgt_at 515 (by decide +kernel) (by decide +kernel))
theorem ml_X0_54 : Cond.methodLink RX0 54 yX1_playTune ∈ xgt := (xgt_at 516 (by decide +kernel) (by decide +kernel))
theorem ml_X1_114 : Cond.methodLink RX1 114 Lib.Math.min.name ∈ xgt := (xgt_at 520 (by decide +kernel) (by decide +kernel))
theorem ml_X1_117 : Cond.methodLink RX1 117 yX1_shift ∈ xgt := (xgt_at 523 (by decide +kernel) (by decide +kernel))
theorem ml_X1_100 : Cond.methodLink RX1 100 yX1_isSpot ∈ xgt := (xgt_at 527 (by decide +kernel) (by decide +kernel))
theorem ml_X1_110 : Cond.methodLink RX1 110 yX1_inchesFrom ∈ xgt := (xgt_at 528 (by decide +kernel) (by decide +kernel))
theorem ml_X5_152 : Cond.methodLink RX5 152 yX1_lowHeard ∈ xgt := (xgt_at 536 (by decide +kernel) (by decide +kernel))
theorem ml_X5_158 : Cond.methodLink RX5 158 yX1_reach ∈ xgt := (xgt_at 540 (by decide +kernel) (by decide +kernel))
theorem ml_L_69 : Cond.methodLink RL 69 yX5_frost ∈ xgt := (xgt_at 541 (by decide +kernel) (by decide +kernel))
theorem ml_X5_164 : Cond.methodLink RX5 164 yX1_isSpotSet ∈ xgt := (xgt_at 545 (by decide +kernel) (by decide +kernel))
theorem ml_L_73 : Cond.methodLink RL 73 yX5_move ∈ xgt := (xgt_at 549 (by decide +kernel) (by decide +kernel))
theorem ml_L_77 : Cond.methodLink RL 77 yX5_evening ∈ xgt := (xgt_at 553 (by decide +kernel) (by decide +kernel))
theorem ml_X5_170 : Cond.methodLink RX5 170 yX1_isProgram ∈ xgt := (xgt_at 557 (by decide +kernel) (by decide +kernel))
theorem ml_X1_63 : Cond.methodLink RX1 63 yX1_programs ∈ xgt := (xgt_at 561 (by decide +kernel) (by decide +kernel))
theorem ml_X5_176 : Cond.methodLink RX5 176 yX1_playTruly ∈ xgt := (xgt_at 565 (by decide +kernel) (by decide +kernel))
theorem ml_X1_74 : Cond.methodLink RX1 74 yX1_tuneOf ∈ xgt := (xgt_at 569 (by decide +kernel) (by decide +kernel))
theorem ml_X1_121 : Cond.methodLink RX1 121 yX1_playTune ∈ xgt := (xgt_at 573 (by decide +kernel) (by decide +kernel))
theorem ml_X5_179 : Cond.methodLink RX5 179 yX1_breathOf ∈ xgt := (xgt_at 574 (by decide +kernel) (by decide +kernel))
theorem ml_L_81 : Cond.methodLink RL 81 yX5_undo ∈ xgt := (xgt_at 578 (by decide +kernel) (by decide +kernel))
theorem ml_X5_182 : Cond.methodLink RX5 182 yX1_takeBack ∈ xgt := (xgt_at 582 (by decide +kernel) (by decide +kernel))
theorem ml_L_85 : Cond.methodLink RL 85 yX5_heights ∈ xgt := (xgt_at 586 (by decide +kernel) (by decide +kernel))
theorem ml_X5_188 : Cond.methodLink RX5 188 yX1_allInches ∈ xgt := (xgt_at 590 (by decide +kernel) (by decide +kernel))
theorem ml_L_89 : Cond.methodLink RL 89 yX5_keep ∈ xgt := (xgt_at 594 (by decide +kernel) (by decide +kernel))
theorem ml_X5_192 : Cond.methodLink RX5 192 yX1_becomeLike ∈ xgt := (xgt_at 598 (by decide +kernel) (by decide +kernel))
theorem ml_L_93 : Cond.methodLink RL 93 yX5_on ∈ xgt := (xgt_at 602 (by decide +kernel) (by decide +kernel))
theorem ml_L_97 : Cond.methodLink RL 97 yX5_behind ∈ xgt := (xgt_at 606 (by decide +kernel) (by decide +kernel))
theorem ml_X5_195 : Cond.methodLink RX5 195 yX0_repeat ∈ xgt := (xgt_at 610 (by decide +kernel) (by decide +kernel))
theorem ml_X0_58 : Cond.methodLink RX0 58 yX1_playAside ∈ xgt := (xgt_at 614 (by decide +kernel) (by decide +kernel))
theorem ml_L_101 : Cond.methodLink RL 101 yX5_rest ∈ xgt := (xgt_at 618 (by decide +kernel) (by decide +kernel))
theorem ml_X5_201 : Cond.methodLink RX5 201 yX0_restsBehind ∈ xgt := (xgt_at 622 (by decide +kernel) (by decide +kernel))
theorem ml_X0_62 : Cond.methodLink RX0 62 yX0_playBehind ∈ xgt := (xgt_at 626 (by decide +kernel) (by decide +kernel))
theorem ml_X0_66 : Cond.methodLink RX0 66 yX0_isSame ∈ xgt := (xgt_at 630 (by decide +kernel) (by decide +kernel))
theorem ml_X5_204 : Cond.methodLink RX5 204 yX1_highestOf ∈ xgt := (xgt_at 634 (by decide +kernel) (by decide +kernel))
theorem ml_X1_103 : Cond.methodLink RX1 103 yX1_firstHighest ∈ xgt := (xgt_at 638 (by decide +kernel) (by decide +kernel))
theorem ml_L_105 : Cond.methodLink RL 105 yX5_round ∈ xgt := (xgt_at 642 (by decide +kernel) (by decide +kernel))
theorem ml_X5_208 : Cond.methodLink RX5 208 yX0_comesRound ∈ xgt := (xgt_at 646 (by decide +kernel) (by decide +kernel))
theorem ml_L_109 : Cond.methodLink RL 109 yX5_highest ∈ xgt := (xgt_at 650 (by decide +kernel) (by decide +kernel))
theorem ml_X5_211 : Cond.methodLink RX5 211 yX5_extreme ∈ xgt := (xgt_at 654 (by decide +kernel) (by decide +kernel))
theorem ml_X5_242 : Cond.methodLink RX5 242 yX1_programs ∈ xgt := (xgt_at 658 (by decide +kernel) (by decide +kernel))
theorem ml_L_113 : Cond.methodLink RL 113 yX5_lowest ∈ xgt := (xgt_at 659 (by decide +kernel) (by decide +kernel))
theorem ml_L_117 : Cond.methodLink RL 117 yX5_flat ∈ xgt := (xgt_at 663 (by decide +kernel) (by decide +kernel))
theorem ml_X5_214 : Cond.methodLink RX5 214 yX2_aimFlat ∈ xgt := (xgt_at 667 (by decide +kernel) (by decide +kernel))
theorem ml_X2_58 : Cond.methodLink RX2 58 yX2_mostTakenFrom ∈ xgt := (xgt_at 671 (by decide +kernel) (by decide +kernel))
theorem ml_X2_99 : Cond.methodLink RX2 99 yX2_mostTakenBy ∈ xgt := (xgt_at 675 (by decide +kernel) (by decide +kernel))
theorem ml_X2_103 : Cond.methodLink RX2 103 yX1_isSpot ∈ xgt := (xgt_at 679 (by decide +kernel) (by decide +kernel))
theorem ml_X2_107 : Cond.methodLink RX2 107 yX1_isHeard ∈ xgt := (xgt_at 680 (by decide +kernel) (by decide +kernel))
theorem ml_X2_111 : Cond.methodLink RX2 111 yX1_inchesFrom ∈ xgt := (xgt_at 681 (by decide +kernel) (by decide +kernel))
theorem ml_X5_217 : Cond.methodLink RX5 217 yX2_isFound ∈ xgt := (xgt_at 682 (by decide +kernel) (by decide +kernel))
theorem ml_X2_65 : Cond.methodLink RX2 65 yX1_programs ∈ xgt := (xgt_at 686 (by decide +kernel) (by decide +kernel))
theorem ml_X2_69 : Cond.methodLink RX2 69 yX1_breathOf ∈ xgt := (xgt_at 687 (by decide +kernel) (by decide +kernel))
theorem ml_X2_75 : Cond.methodLink RX2 75 arraycopyName ∈ xgt := (xgt_at 688 (by decide +kernel) (by decide +kernel))
theorem ml_X2_81 : Cond.methodLink RX2 81 yX2_seek ∈ xgt := (xgt_at 689 (by decide +kernel) (by decide +kernel))
theorem ml_X2_85 : Cond.methodLink RX2 85 yX2_isWithinReach ∈ xgt := (xgt_at 693 (by decide +kernel) (by decide +kernel))
theorem ml_X2_89 : Cond.methodLink RX2 89 yX2_isPlayedForUse ∈ xgt := (xgt_at 697 (by decide +kernel) (by decide +kernel))
theorem ml_X2_95 : Cond.methodLink RX2 95 yX1_playTune ∈ xgt := (xgt_at 701 (by decide +kernel) (by decide +kernel))
theorem ml_X5_220 : Cond.methodLink RX5 220 yX5_layPlan ∈ xgt := (xgt_at 702 (by decide +kernel) (by decide +kernel))
theorem ml_L_121 : Cond.methodLink RL 121 yX5_raise ∈ xgt := (xgt_at 706 (by decide +kernel) (by decide +kernel))
theorem ml_X5_226 : Cond.methodLink RX5 226 yX2_aimHigh ∈ xgt := (xgt_at 710 (by decide +kernel) (by decide +kernel))
theorem ml_X2_62 : Cond.methodLink RX2 62 yX2_mostGainedBy ∈ xgt := (xgt_at 714 (by decide +kernel) (by decide +kernel))
theorem ml_X2_118 : Cond.methodLink RX2 118 Lib.Math.max.name ∈ xgt := (xgt_at 718 (by decide +kernel) (by decide +kernel))
theorem ml_L_126 : Cond.methodLink RL 126 yX5_keeps ∈ xgt := (xgt_at 721 (by decide +kernel) (by decide +kernel))
theorem ml_X5_229 : Cond.methodLink RX5 229 yX0_loudestKeeping ∈ xgt := (xgt_at 725 (by decide +kernel) (by decide +kernel))
theorem ml_X0_73 : Cond.methodLink RX0 73 yX1_programs ∈ xgt := (xgt_at 729 (by decide +kernel) (by decide +kernel))
theorem ml_X0_77 : Cond.methodLink RX0 77 yX1_breathOf ∈ xgt := (xgt_at 730 (by decide +kernel) (by decide +kernel))
theorem ml_X0_81 : Cond.methodLink RX0 81 yX0_repeat ∈ xgt := (xgt_at 731 (by decide +kernel) (by decide +kernel))
theorem ml_L_130 : Cond.methodLink RL 130 yX5_rivals ∈ xgt := (xgt_at 732 (by decide +kernel) (by decide +kernel))
theorem ml_X5_232 : Cond.methodLink RX5 232 yX0_duel ∈ xgt := (xgt_at 736 (by decide +kernel) (by decide +kernel))
theorem ml_X0_85 : Cond.methodLink RX0 85 yX0_bestTurn ∈ xgt := (xgt_at 740 (by decide +kernel) (by decide +kernel))
theorem ml_L_134 : Cond.methodLink RL 134 yX5_played ∈ xgt := (xgt_at 744 (by decide +kernel) (by decide +kernel))
theorem ml_X5_239 : Cond.methodLink RX5 239 yX5_groundRefusal ∈ xgt := (xgt_at 748 (by decide +kernel) (by decide +kernel))
theorem ml_X5_249 : Cond.methodLink RX5 249 yX5_fitRefusal ∈ xgt := (xgt_at 752 (by decide +kernel) (by decide +kernel))
theorem ml_X5_245 : Cond.methodLink RX5 245 yX5_isGroundOf ∈ xgt := (xgt_at 756 (by decide +kernel) (by decide +kernel))
theorem ml_L_138 : Cond.methodLink RL 138 yX5_could ∈ xgt := (xgt_at 760 (by decide +kernel) (by decide +kernel))
theorem ml_X5_252 : Cond.methodLink RX5 252 yX1_tuneOf ∈ xgt := (xgt_at 764 (by decide +kernel) (by decide +kernel))
theorem ml_L_142 : Cond.methodLink RL 142 yX5_twice ∈ xgt := (xgt_at 765 (by decide +kernel) (by decide +kernel))
theorem ml_X5_255 : Cond.methodLink RX5 255 yX0_playBehind ∈ xgt := (xgt_at 769 (by decide +kernel) (by decide +kernel))
theorem ml_L_146 : Cond.methodLink RL 146 yX5_valleys ∈ xgt := (xgt_at 770 (by decide +kernel) (by decide +kernel))
theorem ml_X5_261 : Cond.methodLink RX5 261 Lib.Math.max.name ∈ xgt := (xgt_at 774 (by decide +kernel) (by decide +kernel))
theorem ml_L_151 : Cond.methodLink RL 151 yX5_top ∈ xgt := (xgt_at 775 (by decide +kernel) (by decide +kernel))
theorem ml_X5_266 : Cond.methodLink RX5 266 yX1_firstHighest ∈ xgt := (xgt_at 779 (by decide +kernel) (by decide +kernel))
theorem ml_L_155 : Cond.methodLink RL 155 yX5_border ∈ xgt := (xgt_at 780 (by decide +kernel) (by decide +kernel))
theorem ml_X5_270 : Cond.methodLink RX5 270 yX5_isStretch ∈ xgt := (xgt_at 784 (by decide +kernel) (by decide +kernel))
theorem ml_L_159 : Cond.methodLink RL 159 yX5_shifts ∈ xgt := (xgt_at 788 (by decide +kernel) (by decide +kernel))
theorem ml_L_163 : Cond.methodLink RL 163 yX5_far ∈ xgt := (xgt_at 792 (by decide +kernel) (by decide +kernel))
theorem ml_X5_273 : Cond.methodLink RX5 273 Lib.Math.abs.name ∈ xgt := (xgt_at 796 (by decide +kernel) (by decide +kernel))
theorem ml_L_167 : Cond.methodLink RL 167 yX5_season ∈ xgt := (xgt_at 797 (by decide +kernel) (by decide +kernel))
theorem ml_X5_281 : Cond.methodLink RX5 281 yX5_frostByLot ∈ xgt := (xgt_at 804 (by decide +kernel) (by decide +kernel))
theorem ml_L_171 : Cond.methodLink RL 171 yX5_asked ∈ xgt := (xgt_at 811 (by decide +kernel) (by decide +kernel))
theorem ml_L_175 : Cond.methodLink RL 175 yX5_upper ∈ xgt := (xgt_at 815 (by decide +kernel) (by decide +kernel))
theorem ml_X5_285 : Cond.methodLink RX5 285 yX5_commonDivisor ∈ xgt := (xgt_at 819 (by decide +kernel) (by decide +kernel))
theorem ml_L_180 : Cond.methodLink RL 180 yX5_lower ∈ xgt := (xgt_at 822 (by decide +kernel) (by decide +kernel))
theorem ml_L_184 : Cond.methodLink RL 184 yX5_count ∈ xgt := (xgt_at 826 (by decide +kernel) (by decide +kernel))
theorem ml_X5_291 : Cond.methodLink RX5 291 yJ6_bitCount_0f7a4 ∈ xgt := (xgt_at 830 (by decide +kernel) (by decide +kernel))
theorem ml_X5_296 : Cond.methodLink RX5 296 yX1_drums ∈ xgt := (xgt_at 836 (by decide +kernel) (by decide +kernel))
theorem ml_X1_78 : Cond.methodLink RX1 78 yX1_isOf ∈ xgt := (xgt_at 840 (by decide +kernel) (by decide +kernel))
theorem ml_X5_299 : Cond.methodLink RX5 299 yX4_held ∈ xgt := (xgt_at 841 (by decide +kernel) (by decide +kernel))
theorem ml_X5_302 : Cond.methodLink RX5 302 yX5_keptNow ∈ xgt := (xgt_at 845 (by decide +kernel) (by decide +kernel))
theorem ml_L_188 : Cond.methodLink RL 188 yX5_finding ∈ xgt := (xgt_at 849 (by decide +kernel) (by decide +kernel))
theorem ml_L_192 : Cond.methodLink RL 192 yX5_findings ∈ xgt := (xgt_at 853 (by decide +kernel) (by decide +kernel))
theorem ml_L_196 : Cond.methodLink RL 196 yX5_digest ∈ xgt := (xgt_at 857 (by decide +kernel) (by decide +kernel))
theorem ml_X5_309 : Cond.methodLink RX5 309 yX5_count ∈ xgt := (xgt_at 863 (by decide +kernel) (by decide +kernel))
theorem ml_X5_312 : Cond.methodLink RX5 312 yX1_mixedInto ∈ xgt := (xgt_at 864 (by decide +kernel) (by decide +kernel))
theorem ml_X1_126 : Cond.methodLink RX1 126 yX1_isFrozen ∈ xgt := (xgt_at 869 (by decide +kernel) (by decide +kernel))
theorem ml_X1_129 : Cond.methodLink RX1 129 yX1_bandTells ∈ xgt := (xgt_at 870 (by decide +kernel) (by decide +kernel))
theorem ml_X5_316 : Cond.methodLink RX5 316 yX5_keptEvenings ∈ xgt := (xgt_at 871 (by decide +kernel) (by decide +kernel))
theorem ml_X5_319 : Cond.methodLink RX5 319 yX4_mixedInto ∈ xgt := (xgt_at 875 (by decide +kernel) (by decide +kernel))
theorem ml_L_12 : Cond.methodLink RL 12 yX6_init ∈ xgt := (xgt_at 882 (by decide +kernel) (by decide +kernel))
theorem ml_X6_1 : Cond.methodLink RX6 1 objectInit ∈ xgt := (xgt_at 885 (by decide +kernel) (by decide +kernel))
theorem ml_L_17 : Cond.methodLink RL 17 yX6_row ∈ xgt := (xgt_at 1013 (by decide +kernel) (by decide +kernel))
theorem ml_X6_96 : Cond.methodLink RX6 96 yX6_isRow ∈ xgt := (xgt_at 1017 (by decide +kernel) (by decide +kernel))
theorem ml_X6_92 : Cond.methodLink RX6 92 yX6_in ∈ xgt := (xgt_at 1020 (by decide +kernel) (by decide +kernel))
theorem ml_X6_100 : Cond.methodLink RX6 100 yX6_meet ∈ xgt := (xgt_at 1023 (by decide +kernel) (by decide +kernel))
theorem ml_X6_107 : Cond.methodLink RX6 107 yX6_setRow ∈ xgt := (xgt_at 1027 (by decide +kernel) (by decide +kernel))
theorem ml_L_26 : Cond.methodLink RL 26 yX6_at ∈ xgt := (xgt_at 1031 (by decide +kernel) (by decide +kernel))
theorem ml_X6_111 : Cond.methodLink RX6 111 yX6_askedRow ∈ xgt := (xgt_at 1035 (by decide +kernel) (by decide +kernel))
theorem ml_X6_114 : Cond.methodLink RX6 114 yX6_rowAt ∈ xgt := (xgt_at 1039 (by decide +kernel) (by decide +kernel))
theorem ml_X6_118 : Cond.methodLink RX6 118 yX6_ask ∈ xgt := (xgt_at 1043 (by decide +kernel) (by decide +kernel))
theorem ml_L_22 : Cond.methodLink RL 22 yX6_lay ∈ xgt := (xgt_at 1047 (by decide +kernel) (by decide +kernel))
theorem ml_X6_121 : Cond.methodLink RX6 121 yX6_at ∈ xgt := (xgt_at 1051 (by decide +kernel) (by decide +kernel))
theorem ml_L_31 : Cond.methodLink RL 31 yX6_tear ∈ xgt := (xgt_at 1052 (by decide +kernel) (by decide +kernel))
theorem ml_L_36 : Cond.methodLink RL 36 yX6_copy ∈ xgt := (xgt_at 1056 (by decide +kernel) (by decide +kernel))
theorem ml_L_40 : Cond.methodLink RL 40 yX6_mean ∈ xgt := (xgt_at 1060 (by decide +kernel) (by decide +kernel))
theorem ml_L_44 : Cond.methodLink RL 44 yX6_text ∈ xgt := (xgt_at 1064 (by decide +kernel) (by decide +kernel))
theorem ml_X6_104 : Cond.methodLink RX6 104 yX6_isText ∈ xgt := (xgt_at 1068 (by decide +kernel) (by decide +kernel))
theorem ml_L_48 : Cond.methodLink RL 48 yX6_put ∈ xgt := (xgt_at 1071 (by decide +kernel) (by decide +kernel))
theorem ml_X6_124 : Cond.methodLink RX6 124 yX6_askedText ∈ xgt := (xgt_at 1075 (by decide +kernel) (by decide +kernel))
theorem ml_L_52 : Cond.methodLink RL 52 yX6_fault ∈ xgt := (xgt_at 1079 (by decide +kernel) (by decide +kernel))
theorem ml_X6_148 : Cond.methodLink RX6 148 yX6_goesOn ∈ xgt := (xgt_at 1083 (by decide +kernel) (by decide +kernel))
theorem ml_X6_130 : Cond.methodLink RX6 130 yX6_here ∈ xgt := (xgt_at 1087 (by decide +kernel) (by decide +kernel))
theorem ml_X6_142 : Cond.methodLink RX6 142 yX6_readsGround ∈ xgt := (xgt_at 1091 (by decide +kernel) (by decide +kernel))
theorem ml_X6_145 : Cond.methodLink RX6 145 yX6_readsBand ∈ xgt := (xgt_at 1095 (by decide +kernel) (by decide +kernel))
theorem ml_X6_136 : Cond.methodLink RX6 136 yX6_kindOf ∈ xgt := (xgt_at 1099 (by decide +kernel) (by decide +kernel))
theorem ml_L_56 : Cond.methodLink RL 56 yX6_land ∈ xgt := (xgt_at 1102 (by decide +kernel) (by decide +kernel))
theorem ml_L_60 : Cond.methodLink RL 60 yX6_spot ∈ xgt := (xgt_at 1106 (by decide +kernel) (by decide +kernel))
theorem ml_X6_163 : Cond.methodLink RX6 163 yX6_isSpot ∈ xgt := (xgt_at 1110 (by decide +kernel) (by decide +kernel))
theorem ml_L_64 : Cond.methodLink RL 64 yX6_band ∈ xgt := (xgt_at 1114 (by decide +kernel) (by decide +kernel))
theorem ml_X6_179 : Cond.methodLink RX6 179 yX6_isBand ∈ xgt := (xgt_at 1118 (by decide +kernel) (by decide +kernel))
theorem ml_X6_182 : Cond.methodLink RX6 182 yX6_bandOf ∈ xgt := (xgt_at 1122 (by decide +kernel) (by decide +kernel))
theorem ml_X6_176 : Cond.methodLink RX6 176 yX6_heardOf ∈ xgt := (xgt_at 1126 (by decide +kernel) (by decide +kernel))
theorem ml_X6_172 : Cond.methodLink RX6 172 yX6_isHeard ∈ xgt := (xgt_at 1130 (by decide +kernel) (by decide +kernel))
theorem ml_X6_166 : Cond.methodLink RX6 166 yX6_size ∈ xgt := (xgt_at 1134 (by decide +kernel) (by decide +kernel))
theorem ml_X6_169 : Cond.methodLink RX6 169 yX6_reachOf ∈ xgt := (xgt_at 1137 (by decide +kernel) (by decide +kernel))
theorem ml_L_68 : Cond.methodLink RL 68 yX6_mark ∈ xgt := (xgt_at 1141 (by decide +kernel) (by decide +kernel))
theorem ml_X6_188 : Cond.methodLink RX6 188 yX6_isA ∈ xgt := (xgt_at 1145 (by decide +kernel) (by decide +kernel))
theorem ml_X6_211 : Cond.methodLink RX6 211 yX6_wouldMove ∈ xgt := (xgt_at 1149 (by decide +kernel) (by decide +kernel))
theorem ml_X6_204 : Cond.methodLink RX6 204 yX6_write ∈ xgt := (xgt_at 1153 (by decide +kernel) (by decide +kernel))
theorem ml_X6_201 : Cond.methodLink RX6 201 yX6_play ∈ xgt := (xgt_at 1157 (by decide +kernel) (by decide +kernel))
theorem ml_X6_194 : Cond.methodLink RX6 194 yX6_goSpot ∈ xgt := (xgt_at 1161 (by decide +kernel) (by decide +kernel))
theorem ml_X6_191 : Cond.methodLink RX6 191 yX6_inchesOf ∈ xgt := (xgt_at 1165 (by decide +kernel) (by decide +kernel))
theorem ml_X6_185 : Cond.methodLink RX6 185 yX6_has ∈ xgt := (xgt_at 1169 (by decide +kernel) (by decide +kernel))
theorem ml_X6_208 : Cond.methodLink RX6 208 yX6_read ∈ xgt := (xgt_at 1172 (by decide +kernel) (by decide +kernel))
theorem ml_L_72 : Cond.methodLink RL 72 yX6_frost ∈ xgt := (xgt_at 1176 (by decide +kernel) (by decide +kernel))
theorem ml_X6_214 : Cond.methodLink RX6 214 yX6_isSet ∈ xgt := (xgt_at 1180 (by decide +kernel) (by decide +kernel))
theorem ml_L_76 : Cond.methodLink RL 76 yX6_move ∈ xgt := (xgt_at 1184 (by decide +kernel) (by decide +kernel))
theorem ml_L_80 : Cond.methodLink RL 80 yX6_evening ∈ xgt := (xgt_at 1188 (by decide +kernel) (by decide +kernel))
theorem ml_X6_224 : Cond.methodLink RX6 224 yX6_isProgram ∈ xgt := (xgt_at 1192 (by decide +kernel) (by decide +kernel))
theorem ml_X6_217 : Cond.methodLink RX6 217 yX6_programs ∈ xgt := (xgt_at 1196 (by decide +kernel) (by decide +kernel))
theorem ml_X6_227 : Cond.methodLink RX6 227 yX6_goEvening ∈ xgt := (xgt_at 1200 (by decide +kernel) (by decide +kernel))
theorem ml_X6_221 : Cond.methodLink RX6 221 yX6_passEvening ∈ xgt := (xgt_at 1204 (by decide +kernel) (by decide +kernel))
theorem ml_X6_198 : Cond.methodLink RX6 198 yX6_tuneOf ∈ xgt := (xgt_at 1208 (by decide +kernel) (by decide +kernel))
theorem ml_X6_230 : Cond.methodLink RX6 230 yX6_breathOf ∈ xgt := (xgt_at 1211 (by decide +kernel) (by decide +kernel))
theorem ml_L_84 : Cond.methodLink RL 84 yX6_undo ∈ xgt := (xgt_at 1215 (by decide +kernel) (by decide +kernel))
theorem ml_L_88 : Cond.methodLink RL 88 yX6_heights ∈ xgt := (xgt_at 1219 (by decide +kernel) (by decide +kernel))
theorem ml_X6_233 : Cond.methodLink RX6 233 yX6_row ∈ xgt := (xgt_at 1223 (by decide +kernel) (by decide +kernel))
theorem ml_X6_236 : Cond.methodLink RX6 236 yX6_allHigh ∈ xgt := (xgt_at 1224 (by decide +kernel) (by decide +kernel))
theorem ml_L_92 : Cond.methodLink RL 92 yX6_keep ∈ xgt := (xgt_at 1228 (by decide +kernel) (by decide +kernel))
theorem ml_L_96 : Cond.methodLink RL 96 yX6_on ∈ xgt := (xgt_at 1232 (by decide +kernel) (by decide +kernel))
theorem ml_L_100 : Cond.methodLink RL 100 yX6_behind ∈ xgt := (xgt_at 1236 (by decide +kernel) (by decide +kernel))
theorem ml_X6_239 : Cond.methodLink RX6 239 yX6_putAhead ∈ xgt := (xgt_at 1240 (by decide +kernel) (by decide +kernel))
theorem ml_X6_242 : Cond.methodLink RX6 242 yX6_comeBack ∈ xgt := (xgt_at 1244 (by decide +kernel) (by decide +kernel))
theorem ml_L_104 : Cond.methodLink RL 104 yX6_rest ∈ xgt := (xgt_at 1248 (by decide +kernel) (by decide +kernel))
theorem ml_X6_248 : Cond.methodLink RX6 248 yX6_highestNow ∈ xgt := (xgt_at 1252 (by decide +kernel) (by decide +kernel))
theorem ml_X6_245 : Cond.methodLink RX6 245 yX6_topOf ∈ xgt := (xgt_at 1256 (by decide +kernel) (by decide +kernel))
theorem ml_X6_251 : Cond.methodLink RX6 251 yX6_setWas ∈ xgt := (xgt_at 1260 (by decide +kernel) (by decide +kernel))
theorem ml_X6_254 : Cond.methodLink RX6 254 yX6_isWas ∈ xgt := (xgt_at 1264 (by decide +kernel) (by decide +kernel))
theorem ml_L_108 : Cond.methodLink RL 108 yX6_round ∈ xgt := (xgt_at 1268 (by decide +kernel) (by decide +kernel))
theorem ml_L_112 : Cond.methodLink RL 112 yX6_highest ∈ xgt := (xgt_at 1272 (by decide +kernel) (by decide +kernel))
theorem ml_X6_258 : Cond.methodLink RX6 258 yX6_bestOf ∈ xgt := (xgt_at 1276 (by decide +kernel) (by decide +kernel))
theorem ml_L_116 : Cond.methodLink RL 116 yX6_lowest ∈ xgt := (xgt_at 1280 (by decide +kernel) (by decide +kernel))
theorem ml_L_120 : Cond.methodLink RL 120 yX6_flat ∈ xgt := (xgt_at 1284 (by decide +kernel) (by decide +kernel))
theorem ml_X6_276 : Cond.methodLink RX6 276 yX6_playOn ∈ xgt := (xgt_at 1289 (by decide +kernel) (by decide +kernel))
theorem ml_X6_270 : Cond.methodLink RX6 270 yX6_isGoal ∈ xgt := (xgt_at 1293 (by decide +kernel) (by decide +kernel))
theorem ml_X6_280 : Cond.methodLink RX6 280 yX6_layBest ∈ xgt := (xgt_at 1297 (by decide +kernel) (by decide +kernel))
theorem ml_L_125 : Cond.methodLink RL 125 yX6_raise ∈ xgt := (xgt_at 1301 (by decide +kernel) (by decide +kernel))
theorem ml_L_129 : Cond.methodLink RL 129 yX6_keeps ∈ xgt := (xgt_at 1305 (by decide +kernel) (by decide +kernel))
theorem ml_L_133 : Cond.methodLink RL 133 yX6_rivals ∈ xgt := (xgt_at 1309 (by decide +kernel) (by decide +kernel))
theorem ml_X6_284 : Cond.methodLink RX6 284 yX6_rivalOn ∈ xgt := (xgt_at 1313 (by decide +kernel) (by decide +kernel))
theorem ml_L_137 : Cond.methodLink RL 137 yX6_played ∈ xgt := (xgt_at 1317 (by decide +kernel) (by decide +kernel))
theorem ml_X6_303 : Cond.methodLink RX6 303 yX6_askedPlayed ∈ xgt := (xgt_at 1321 (by decide +kernel) (by decide +kernel))
theorem ml_X6_300 : Cond.methodLink RX6 300 yX6_askedHeights ∈ xgt := (xgt_at 1325 (by decide +kernel) (by decide +kernel))
theorem ml_X6_306 : Cond.methodLink RX6 306 yX6_setPlayed ∈ xgt := (xgt_at 1329 (by decide +kernel) (by decide +kernel))
theorem ml_X6_297 : Cond.methodLink RX6 297 yX6_isRowNow ∈ xgt := (xgt_at 1333 (by decide +kernel) (by decide +kernel))
theorem ml_L_141 : Cond.methodLink RL 141 yX6_could ∈ xgt := (xgt_at 1337 (by decide +kernel) (by decide +kernel))
theorem ml_L_145 : Cond.methodLink RL 145 yX6_twice ∈ xgt := (xgt_at 1341 (by decide +kernel) (by decide +kernel))
theorem ml_L_150 : Cond.methodLink RL 150 yX6_valleys ∈ xgt := (xgt_at 1345 (by decide +kernel) (by decide +kernel))
theorem ml_L_154 : Cond.methodLink RL 154 yX6_top ∈ xgt := (xgt_at 1349 (by decide +kernel) (by decide +kernel))
theorem ml_L_158 : Cond.methodLink RL 158 yX6_border ∈ xgt := (xgt_at 1353 (by decide +kernel) (by decide +kernel))
theorem ml_X6_310 : Cond.methodLink RX6 310 yX6_isSpan ∈ xgt := (xgt_at 1357 (by decide +kernel) (by decide +kernel))
theorem ml_L_162 : Cond.methodLink RL 162 yX6_shifts ∈ xgt := (xgt_at 1361 (by decide +kernel) (by decide +kernel))
theorem ml_L_166 : Cond.methodLink RL 166 yX6_far ∈ xgt := (xgt_at 1365 (by decide +kernel) (by decide +kernel))
theorem ml_L_170 : Cond.methodLink RL 170 yX6_season ∈ xgt := (xgt_at 1369 (by decide +kernel) (by decide +kernel))
theorem ml_L_174 : Cond.methodLink RL 174 yX6_asked ∈ xgt := (xgt_at 1379 (by decide +kernel) (by decide +kernel))
theorem ml_L_179 : Cond.methodLink RL 179 yX6_upper ∈ xgt := (xgt_at 1383 (by decide +kernel) (by decide +kernel))
theorem ml_X6_324 : Cond.methodLink RX6 324 yX6_divisor ∈ xgt := (xgt_at 1387 (by decide +kernel) (by decide +kernel))
theorem ml_L_183 : Cond.methodLink RL 183 yX6_lower ∈ xgt := (xgt_at 1390 (by decide +kernel) (by decide +kernel))
theorem ml_L_187 : Cond.methodLink RL 187 yX6_count ∈ xgt := (xgt_at 1394 (by decide +kernel) (by decide +kernel))
theorem ml_X6_330 : Cond.methodLink RX6 330 yX6_tells ∈ xgt := (xgt_at 1398 (by decide +kernel) (by decide +kernel))
theorem ml_X6_327 : Cond.methodLink RX6 327 yX6_sizeOf ∈ xgt := (xgt_at 1402 (by decide +kernel) (by decide +kernel))
theorem ml_L_191 : Cond.methodLink RL 191 yX6_finding ∈ xgt := (xgt_at 1405 (by decide +kernel) (by decide +kernel))
theorem ml_L_195 : Cond.methodLink RL 195 yX6_findings ∈ xgt := (xgt_at 1409 (by decide +kernel) (by decide +kernel))
theorem ml_L_199 : Cond.methodLink RL 199 yX6_digest ∈ xgt := (xgt_at 1413 (by decide +kernel) (by decide +kernel))
theorem ml_X6_339 : Cond.methodLink RX6 339 yX6_mix ∈ xgt := (xgt_at 1418 (by decide +kernel) (by decide +kernel))
theorem ml_X6_344 : Cond.methodLink RX6 344 yX6_mixLand ∈ xgt := (xgt_at 1423 (by decide +kernel) (by decide +kernel))
theorem kl_X5_277 : Cond.constantLong RX5 277 (48271) ∈ xgt := (xgt_at 802 (by decide +kernel) (by decide +kernel))
theorem kl_X5_279 : Cond.constantLong RX5 279 (2147483647) ∈ xgt := (xgt_at 803 (by decide +kernel) (by decide +kernel))
theorem kl_X5_329 : Cond.constantLong RX5 329 (128) ∈ xgt := (xgt_at 808 (by decide +kernel) (by decide +kernel))
theorem kl_X5_331 : Cond.constantLong RX5 331 (2) ∈ xgt := (xgt_at 809 (by decide +kernel) (by decide +kernel))
theorem kl_X5_333 : Cond.constantLong RX5 333 (256) ∈ xgt := (xgt_at 810 (by decide +kernel) (by decide +kernel))
theorem kl_X5_305 : Cond.constantLong RX5 305 (17) ∈ xgt := (xgt_at 861 (by decide +kernel) (by decide +kernel))
theorem kl_X5_307 : Cond.constantLong RX5 307 (31) ∈ xgt := (xgt_at 862 (by decide +kernel) (by decide +kernel))
theorem kl_X1_124 : Cond.constantLong RX1 124 (31) ∈ xgt := (xgt_at 868 (by decide +kernel) (by decide +kernel))
theorem kl_X4_46 : Cond.constantLong RX4 46 (31) ∈ xgt := (xgt_at 879 (by decide +kernel) (by decide +kernel))
theorem kl_X6_314 : Cond.constantLong RX6 314 (48271) ∈ xgt := (xgt_at 1374 (by decide +kernel) (by decide +kernel))
theorem kl_X6_316 : Cond.constantLong RX6 316 (2147483647) ∈ xgt := (xgt_at 1375 (by decide +kernel) (by decide +kernel))
theorem kl_X6_318 : Cond.constantLong RX6 318 (128) ∈ xgt := (xgt_at 1376 (by decide +kernel) (by decide +kernel))
theorem kl_X6_320 : Cond.constantLong RX6 320 (2) ∈ xgt := (xgt_at 1377 (by decide +kernel) (by decide +kernel))
theorem kl_X6_322 : Cond.constantLong RX6 322 (256) ∈ xgt := (xgt_at 1378 (by decide +kernel) (by decide +kernel))
theorem kl_X6_342 : Cond.constantLong RX6 342 (17) ∈ xgt := (xgt_at 1417 (by decide +kernel) (by decide +kernel))
theorem kl_X6_333 : Cond.constantLong RX6 333 (31) ∈ xgt := (xgt_at 1422 (by decide +kernel) (by decide +kernel))
theorem ki_X5_276 : Cond.constant RX5 276 (2147483646) ∈ xgt := (xgt_at 801 (by decide +kernel) (by decide +kernel))
theorem ki_J6_265 : Cond.constant RJ6 265 (1431655765) ∈ xgt := (xgt_at 833 (by decide +kernel) (by decide +kernel))
theorem ki_J6_266 : Cond.constant RJ6 266 (858993459) ∈ xgt := (xgt_at 834 (by decide +kernel) (by decide +kernel))
theorem ki_J6_267 : Cond.constant RJ6 267 (252645135) ∈ xgt := (xgt_at 835 (by decide +kernel) (by decide +kernel))
theorem ki_X6_279 : Cond.constant RX6 279 (1048576) ∈ xgt := (xgt_at 1288 (by decide +kernel) (by decide +kernel))
theorem ki_X6_313 : Cond.constant RX6 313 (2147483646) ∈ xgt := (xgt_at 1373 (by decide +kernel) (by decide +kernel))
theorem w_copy : Cond.native arraycopyName ∈ xgt ∧ Cond.static arraycopyName ∈ xgt ∧ Cond.initialized "java/lang/System" ∈ xgt := ⟨(xgt_at 399 (by decide +kernel) (by decide +kernel)), (xgt_at 398 (by decide +kernel) (by decide +kernel)), (xgt_at 83 (by decide +kernel) (by decide +kernel))⟩
theorem w_min : Cond.static Lib.Math.min.name ∈ xgt ∧ Cond.initialized "java/lang/Math" ∈ xgt ∧ Cond.code Lib.Math.min.name Lib.Math.min.code 2 (some .int) ∈ xgt := ⟨(xgt_at 521 (by decide +kernel) (by decide +kernel)), (xgt_at 84 (by decide +kernel) (by decide +kernel)), xgt_at 522 (by decide +kernel) (by decide +kernel)⟩
theorem w_max : Cond.static Lib.Math.max.name ∈ xgt ∧ Cond.initialized "java/lang/Math" ∈ xgt ∧ Cond.code Lib.Math.max.name Lib.Math.max.code 2 (some .int) ∈ xgt := ⟨(xgt_at 719 (by decide +kernel) (by decide +kernel)), (xgt_at 84 (by decide +kernel) (by decide +kernel)), xgt_at 720 (by decide +kernel) (by decide +kernel)⟩
theorem w_abs : Cond.static Lib.Math.abs.name ∈ xgt ∧ Cond.initialized "java/lang/Math" ∈ xgt ∧ Cond.code Lib.Math.abs.name Lib.Math.abs.code 1 (some .int) ∈ xgt := ⟨(xgt_at 491 (by decide +kernel) (by decide +kernel)), (xgt_at 84 (by decide +kernel) (by decide +kernel)), xgt_at 492 (by decide +kernel) (by decide +kernel)⟩
theorem bI_0 {z : xZ} (B : Base z) : xin z 0 5 11 := B.i (by decide +kernel) (by decide +kernel)
theorem bR_0_0 {z : xZ} (B : Base z) : z.2 0 0 = some 1 := B.2 0 (by decide +kernel) (by decide) 0 1 (by decide +kernel)
theorem bR_0_1 {z : xZ} (B : Base z) : z.2 0 1 = some 10 := B.2 0 (by decide +kernel) (by decide) 1 10 (by decide +kernel)
theorem bR_0_2 {z : xZ} (B : Base z) : z.2 0 2 = some 20 := B.2 0 (by decide +kernel) (by decide) 2 20 (by decide +kernel)
theorem bR_0_3 {z : xZ} (B : Base z) : z.2 0 3 = some 30 := B.2 0 (by decide +kernel) (by decide) 3 30 (by decide +kernel)
theorem bR_0_4 {z : xZ} (B : Base z) : z.2 0 4 = some 70 := B.2 0 (by decide +kernel) (by decide) 4 70 (by decide +kernel)
theorem bR_0_5 {z : xZ} (B : Base z) : z.2 0 5 = some 90 := B.2 0 (by decide +kernel) (by decide) 5 90 (by decide +kernel)
theorem bR_0_6 {z : xZ} (B : Base z) : z.2 0 6 = some 100 := B.2 0 (by decide +kernel) (by decide) 6 100 (by decide +kernel)
theorem bR_0_7 {z : xZ} (B : Base z) : z.2 0 7 = some 101 := B.2 0 (by decide +kernel) (by decide) 7 101 (by decide +kernel)
theorem bR_0_8 {z : xZ} (B : Base z) : z.2 0 8 = some 102 := B.2 0 (by decide +kernel) (by decide) 8 102 (by decide +kernel)
theorem bI_1 {z : xZ} (B : Base z) : xin z 1 4 3 := B.i (by decide +kernel) (by decide +kernel)
theorem bR_1_1 {z : xZ} (B : Base z) : z.2 1 1 = some 2 := B.2 1 (by decide +kernel) (by decide) 1 2 (by decide +kernel)
theorem bR_1_2 {z : xZ} (B : Base z) : z.2 1 2 = some 3 := B.2 1 (by decide +kernel) (by decide) 2 3 (by decide +kernel)
theorem bI_2 {z : xZ} (B : Base z) : xin z 2 12 6 := B.i (by decide +kernel) (by decide +kernel)
theorem bI_3 {z : xZ} (B : Base z) : xin z 3 10 6 := B.i (by decide +kernel) (by decide +kernel)
theorem bI_4 {z : xZ} (B : Base z) : xin z 4 10 40 := B.i (by decide +kernel) (by decide +kernel)
theorem bI_5 {z : xZ} (B : Base z) : xin z 5 10 40 := B.i (by decide +kernel) (by decide +kernel)
theorem bI_6 {z : xZ} (B : Base z) : xin z 6 10 40 := B.i (by decide +kernel) (by decide +kernel)
theorem bI_7 {z : xZ} (B : Base z) : xin z 7 10 40 := B.i (by decide +kernel) (by decide +kernel)
theorem bI_8 {z : xZ} (B : Base z) : xin z 8 10 40 := B.i (by decide +kernel) (by decide +kernel)
theorem bI_9 {z : xZ} (B : Base z) : xin z 9 10 40 := B.i (by decide +kernel) (by decide +kernel)
theorem bI_10 {z : xZ} (B : Base z) : xin z 10 4 3 := B.i (by decide +kernel) (by decide +kernel)
theorem bR_10_1 {z : xZ} (B : Base z) : z.2 10 1 = some 11 := B.2 10 (by decide +kernel) (by decide) 1 11 (by decide +kernel)
theorem bR_10_2 {z : xZ} (B : Base z) : z.2 10 2 = some 12 := B.2 10 (by decide +kernel) (by decide) 2 12 (by decide +kernel)
theorem bI_11 {z : xZ} (B : Base z) : xin z 11 12 4 := B.i (by decide +kernel) (by decide +kernel)
theorem bI_12 {z : xZ} (B : Base z) : xin z 12 10 4 := B.i (by decide +kernel) (by decide +kernel)
theorem bI_13 {z : xZ} (B : Base z) : xin z 13 10 80 := B.i (by decide +kernel) (by decide +kernel)
theorem bI_14 {z : xZ} (B : Base z) : xin z 14 10 80 := B.i (by decide +kernel) (by decide +kernel)
theorem bI_15 {z : xZ} (B : Base z) : xin z 15 10 80 := B.i (by decide +kernel) (by decide +kernel)
theorem bI_16 {z : xZ} (B : Base z) : xin z 16 10 80 := B.i (by decide +kernel) (by decide +kernel)
theorem bI_20 {z : xZ} (B : Base z) : xin z 20 3 6 := B.i (by decide +kernel) (by decide +kernel)
theorem bR_20_0 {z : xZ} (B : Base z) : z.2 20 0 = some 21 := B.2 20 (by decide +kernel) (by decide) 0 21 (by decide +kernel)
theorem bR_20_1 {z : xZ} (B : Base z) : z.2 20 1 = some 22 := B.2 20 (by decide +kernel) (by decide) 1 22 (by decide +kernel)
theorem bR_20_2 {z : xZ} (B : Base z) : z.2 20 2 = some 23 := B.2 20 (by decide +kernel) (by decide) 2 23 (by decide +kernel)
theorem bR_20_3 {z : xZ} (B : Base z) : z.2 20 3 = some 24 := B.2 20 (by decide +kernel) (by decide) 3 24 (by decide +kernel)
theorem bI_21 {z : xZ} (B : Base z) : xin z 21 10 10 := B.i (by decide +kernel) (by decide +kernel)
theorem bI_22 {z : xZ} (B : Base z) : xin z 22 10 3 := B.i (by decide +kernel) (by decide +kernel)
theorem bI_23 {z : xZ} (B : Base z) : xin z 23 10 3 := B.i (by decide +kernel) (by decide +kernel)
theorem bI_24 {z : xZ} (B : Base z) : xin z 24 10 3 := B.i (by decide +kernel) (by decide +kernel)
theorem bI_30 {z : xZ} (B : Base z) : xin z 30 1 12 := B.i (by decide +kernel) (by decide +kernel)
theorem bR_30_4 {z : xZ} (B : Base z) : z.2 30 4 = some 31 := B.2 30 (by decide +kernel) (by decide) 4 31 (by decide +kernel)
theorem bR_30_5 {z : xZ} (B : Base z) : z.2 30 5 = some 32 := B.2 30 (by decide +kernel) (by decide) 5 32 (by decide +kernel)
theorem bR_30_6 {z : xZ} (B : Base z) : z.2 30 6 = some 33 := B.2 30 (by decide +kernel) (by decide) 6 33 (by decide +kernel)
theorem bR_30_7 {z : xZ} (B : Base z) : z.2 30 7 = some 34 := B.2 30 (by decide +kernel) (by decide) 7 34 (by decide +kernel)
theorem bR_30_8 {z : xZ} (B : Base z) : z.2 30 8 = some 35 := B.2 30 (by decide +kernel) (by decide) 8 35 (by decide +kernel)
theorem bR_30_9 {z : xZ} (B : Base z) : z.2 30 9 = some 36 := B.2 30 (by decide +kernel) (by decide) 9 36 (by decide +kernel)
theorem bR_30_10 {z : xZ} (B : Base z) : z.2 30 10 = some 37 := B.2 30 (by decide +kernel) (by decide) 10 37 (by decide +kernel)
theorem bR_30_11 {z : xZ} (B : Base z) : z.2 30 11 = some 38 := B.2 30 (by decide +kernel) (by decide) 11 38 (by decide +kernel)
theorem bI_31 {z : xZ} (B : Base z) : xin z 31 10 10 := B.i (by decide +kernel) (by decide +kernel)
theorem bI_32 {z : xZ} (B : Base z) : xin z 32 10 3 := B.i (by decide +kernel) (by decide +kernel)
theorem bI_33 {z : xZ} (B : Base z) : xin z 33 10 3 := B.i (by decide +kernel) (by decide +kernel)
theorem bI_34 {z : xZ} (B : Base z) : xin z 34 10 3 := B.i (by decide +kernel) (by decide +kernel)
theorem bI_35 {z : xZ} (B : Base z) : xin z 35 10 3 := B.i (by decide +kernel) (by decide +kernel)
theorem bI_36 {z : xZ} (B : Base z) : xin z 36 10 60 := B.i (by decide +kernel) (by decide +kernel)
theorem bI_37 {z : xZ} (B : Base z) : xin z 37 10 600 := B.i (by decide +kernel) (by decide +kernel)
theorem bI_38 {z : xZ} (B : Base z) : xin z 38 10 180 := B.i (by decide +kernel) (by decide +kernel)
theorem bI_70 {z : xZ} (B : Base z) : xin z 70 0 8 := B.i (by decide +kernel) (by decide +kernel)
theorem bR_70_0 {z : xZ} (B : Base z) : z.2 70 0 = some 30 := B.2 70 (by decide +kernel) (by decide) 0 30 (by decide +kernel)
theorem bR_70_1 {z : xZ} (B : Base z) : z.2 70 1 = some 71 := B.2 70 (by decide +kernel) (by decide) 1 71 (by decide +kernel)
theorem bR_70_2 {z : xZ} (B : Base z) : z.2 70 2 = some 72 := B.2 70 (by decide +kernel) (by decide) 2 72 (by decide +kernel)
theorem bR_70_3 {z : xZ} (B : Base z) : z.2 70 3 = some 73 := B.2 70 (by decide +kernel) (by decide) 3 73 (by decide +kernel)
theorem bI_71 {z : xZ} (B : Base z) : xin z 71 10 10 := B.i (by decide +kernel) (by decide +kernel)
theorem bI_72 {z : xZ} (B : Base z) : xin z 72 10 10 := B.i (by decide +kernel) (by decide +kernel)
theorem bI_73 {z : xZ} (B : Base z) : xin z 73 12 7 := B.i (by decide +kernel) (by decide +kernel)
theorem bI_74 {z : xZ} (B : Base z) : xin z 74 10 10 := B.i (by decide +kernel) (by decide +kernel)
theorem bI_75 {z : xZ} (B : Base z) : xin z 75 10 10 := B.i (by decide +kernel) (by decide +kernel)
theorem bI_76 {z : xZ} (B : Base z) : xin z 76 10 10 := B.i (by decide +kernel) (by decide +kernel)
theorem bI_77 {z : xZ} (B : Base z) : xin z 77 10 10 := B.i (by decide +kernel) (by decide +kernel)
theorem bI_78 {z : xZ} (B : Base z) : xin z 78 10 10 := B.i (by decide +kernel) (by decide +kernel)
theorem bI_79 {z : xZ} (B : Base z) : xin z 79 10 10 := B.i (by decide +kernel) (by decide +kernel)
theorem bI_80 {z : xZ} (B : Base z) : xin z 80 10 10 := B.i (by decide +kernel) (by decide +kernel)
theorem bI_90 {z : xZ} (B : Base z) : xin z 90 2 12 := B.i (by decide +kernel) (by decide +kernel)
theorem bR_90_0 {z : xZ} (B : Base z) : z.2 90 0 = some 30 := B.2 90 (by decide +kernel) (by decide) 0 30 (by decide +kernel)
theorem bR_90_1 {z : xZ} (B : Base z) : z.2 90 1 = some 91 := B.2 90 (by decide +kernel) (by decide) 1 91 (by decide +kernel)
theorem bR_90_2 {z : xZ} (B : Base z) : z.2 90 2 = some 96 := B.2 90 (by decide +kernel) (by decide) 2 96 (by decide +kernel)
theorem bR_90_3 {z : xZ} (B : Base z) : z.2 90 3 = some 97 := B.2 90 (by decide +kernel) (by decide) 3 97 (by decide +kernel)
theorem bR_90_4 {z : xZ} (B : Base z) : z.2 90 4 = some 98 := B.2 90 (by decide +kernel) (by decide) 4 98 (by decide +kernel)
theorem bR_90_5 {z : xZ} (B : Base z) : z.2 90 5 = some 99 := B.2 90 (by decide +kernel) (by decide) 5 99 (by decide +kernel)
theorem bI_91 {z : xZ} (B : Base z) : xin z 91 12 4 := B.i (by decide +kernel) (by decide +kernel)
theorem bI_92 {z : xZ} (B : Base z) : xin z 92 10 10 := B.i (by decide +kernel) (by decide +kernel)
theorem bI_93 {z : xZ} (B : Base z) : xin z 93 10 10 := B.i (by decide +kernel) (by decide +kernel)
theorem bI_94 {z : xZ} (B : Base z) : xin z 94 10 10 := B.i (by decide +kernel) (by decide +kernel)
theorem bI_95 {z : xZ} (B : Base z) : xin z 95 10 10 := B.i (by decide +kernel) (by decide +kernel)
theorem bI_96 {z : xZ} (B : Base z) : xin z 96 10 27 := B.i (by decide +kernel) (by decide +kernel)
theorem bI_97 {z : xZ} (B : Base z) : xin z 97 10 3 := B.i (by decide +kernel) (by decide +kernel)
theorem bI_98 {z : xZ} (B : Base z) : xin z 98 10 10 := B.i (by decide +kernel) (by decide +kernel)
theorem bI_99 {z : xZ} (B : Base z) : xin z 99 10 3 := B.i (by decide +kernel) (by decide +kernel)
theorem bI_100 {z : xZ} (B : Base z) : xin z 100 11 3 := B.i (by decide +kernel) (by decide +kernel)
theorem bI_101 {z : xZ} (B : Base z) : xin z 101 13 3 := B.i (by decide +kernel) (by decide +kernel)
theorem bI_102 {z : xZ} (B : Base z) : xin z 102 10 6 := B.i (by decide +kernel) (by decide +kernel)
theorem bI_200 {z : xZ} (B : Base z) : xin z 200 6 42 := B.i (by decide +kernel) (by decide +kernel)
theorem bR_200_1 {z : xZ} (B : Base z) : z.2 200 1 = some 201 := B.2 200 (by decide +kernel) (by decide) 1 201 (by decide +kernel)
theorem bR_200_3 {z : xZ} (B : Base z) : z.2 200 3 = some 203 := B.2 200 (by decide +kernel) (by decide) 3 203 (by decide +kernel)
theorem bR_200_4 {z : xZ} (B : Base z) : z.2 200 4 = some 204 := B.2 200 (by decide +kernel) (by decide) 4 204 (by decide +kernel)
theorem bR_200_5 {z : xZ} (B : Base z) : z.2 200 5 = some 205 := B.2 200 (by decide +kernel) (by decide) 5 205 (by decide +kernel)
theorem bR_200_6 {z : xZ} (B : Base z) : z.2 200 6 = some 206 := B.2 200 (by decide +kernel) (by decide) 6 206 (by decide +kernel)
theorem bR_200_7 {z : xZ} (B : Base z) : z.2 200 7 = some 207 := B.2 200 (by decide +kernel) (by decide) 7 207 (by decide +kernel)
theorem bR_200_10 {z : xZ} (B : Base z) : z.2 200 10 = some 210 := B.2 200 (by decide +kernel) (by decide) 10 210 (by decide +kernel)
theorem bR_200_11 {z : xZ} (B : Base z) : z.2 200 11 = some 211 := B.2 200 (by decide +kernel) (by decide) 11 211 (by decide +kernel)
theorem bR_200_12 {z : xZ} (B : Base z) : z.2 200 12 = some 212 := B.2 200 (by decide +kernel) (by decide) 12 212 (by decide +kernel)
theorem bR_200_13 {z : xZ} (B : Base z) : z.2 200 13 = some 213 := B.2 200 (by decide +kernel) (by decide) 13 213 (by decide +kernel)
theorem bR_200_14 {z : xZ} (B : Base z) : z.2 200 14 = some 214 := B.2 200 (by decide +kernel) (by decide) 14 214 (by decide +kernel)
theorem bR_200_19 {z : xZ} (B : Base z) : z.2 200 19 = some 219 := B.2 200 (by decide +kernel) (by decide) 19 219 (by decide +kernel)
theorem bR_200_20 {z : xZ} (B : Base z) : z.2 200 20 = some 220 := B.2 200 (by decide +kernel) (by decide) 20 220 (by decide +kernel)
theorem bR_200_21 {z : xZ} (B : Base z) : z.2 200 21 = some 221 := B.2 200 (by decide +kernel) (by decide) 21 221 (by decide +kernel)
theorem bR_200_22 {z : xZ} (B : Base z) : z.2 200 22 = some 222 := B.2 200 (by decide +kernel) (by decide) 22 222 (by decide +kernel)
theorem bR_200_23 {z : xZ} (B : Base z) : z.2 200 23 = some 223 := B.2 200 (by decide +kernel) (by decide) 23 223 (by decide +kernel)
theorem bR_200_25 {z : xZ} (B : Base z) : z.2 200 25 = some 225 := B.2 200 (by decide +kernel) (by decide) 25 225 (by decide +kernel)
theorem bR_200_26 {z : xZ} (B : Base z) : z.2 200 26 = some 226 := B.2 200 (by decide +kernel) (by decide) 26 226 (by decide +kernel)
theorem bR_200_27 {z : xZ} (B : Base z) : z.2 200 27 = some 227 := B.2 200 (by decide +kernel) (by decide) 27 227 (by decide +kernel)
theorem bR_200_28 {z : xZ} (B : Base z) : z.2 200 28 = some 228 := B.2 200 (by decide +kernel) (by decide) 28 228 (by decide +kernel)
theorem bR_200_29 {z : xZ} (B : Base z) : z.2 200 29 = some 229 := B.2 200 (by decide +kernel) (by decide) 29 229 (by decide +kernel)
theorem bR_200_30 {z : xZ} (B : Base z) : z.2 200 30 = some 230 := B.2 200 (by decide +kernel) (by decide) 30 230 (by decide +kernel)
theorem bR_200_31 {z : xZ} (B : Base z) : z.2 200 31 = some 231 := B.2 200 (by decide +kernel) (by decide) 31 231 (by decide +kernel)
theorem bR_200_32 {z : xZ} (B : Base z) : z.2 200 32 = some 232 := B.2 200 (by decide +kernel) (by decide) 32 232 (by decide +kernel)
theorem bR_200_40 {z : xZ} (B : Base z) : z.2 200 40 = some 240 := B.2 200 (by decide +kernel) (by decide) 40 240 (by decide +kernel)
theorem bI_201 {z : xZ} (B : Base z) : xin z 201 10 6 := B.i (by decide +kernel) (by decide +kernel)
theorem bI_203 {z : xZ} (B : Base z) : xin z 203 10 6 := B.i (by decide +kernel) (by decide +kernel)
theorem bI_204 {z : xZ} (B : Base z) : xin z 204 10 240 := B.i (by decide +kernel) (by decide +kernel)
theorem bI_205 {z : xZ} (B : Base z) : xin z 205 10 40 := B.i (by decide +kernel) (by decide +kernel)
theorem bI_206 {z : xZ} (B : Base z) : xin z 206 10 4 := B.i (by decide +kernel) (by decide +kernel)
theorem bI_207 {z : xZ} (B : Base z) : xin z 207 10 320 := B.i (by decide +kernel) (by decide +kernel)
theorem bI_210 {z : xZ} (B : Base z) : xin z 210 10 10 := B.i (by decide +kernel) (by decide +kernel)
theorem bI_211 {z : xZ} (B : Base z) : xin z 211 10 3 := B.i (by decide +kernel) (by decide +kernel)
theorem bI_212 {z : xZ} (B : Base z) : xin z 212 10 3 := B.i (by decide +kernel) (by decide +kernel)
theorem bI_213 {z : xZ} (B : Base z) : xin z 213 10 3 := B.i (by decide +kernel) (by decide +kernel)
theorem bI_214 {z : xZ} (B : Base z) : xin z 214 10 3 := B.i (by decide +kernel) (by decide +kernel)
theorem bI_219 {z : xZ} (B : Base z) : xin z 219 10 10 := B.i (by decide +kernel) (by decide +kernel)
theorem bI_220 {z : xZ} (B : Base z) : xin z 220 10 3 := B.i (by decide +kernel) (by decide +kernel)
theorem bI_221 {z : xZ} (B : Base z) : xin z 221 10 3 := B.i (by decide +kernel) (by decide +kernel)
theorem bI_222 {z : xZ} (B : Base z) : xin z 222 10 3 := B.i (by decide +kernel) (by decide +kernel)
theorem bI_223 {z : xZ} (B : Base z) : xin z 223 10 14 := B.i (by decide +kernel) (by decide +kernel)
theorem bI_225 {z : xZ} (B : Base z) : xin z 225 10 60 := B.i (by decide +kernel) (by decide +kernel)
theorem bI_226 {z : xZ} (B : Base z) : xin z 226 10 840 := B.i (by decide +kernel) (by decide +kernel)
theorem bI_227 {z : xZ} (B : Base z) : xin z 227 10 2760 := B.i (by decide +kernel) (by decide +kernel)
theorem bI_228 {z : xZ} (B : Base z) : xin z 228 10 14 := B.i (by decide +kernel) (by decide +kernel)
theorem bI_229 {z : xZ} (B : Base z) : xin z 229 10 10 := B.i (by decide +kernel) (by decide +kernel)
theorem bI_230 {z : xZ} (B : Base z) : xin z 230 10 98 := B.i (by decide +kernel) (by decide +kernel)
theorem bI_231 {z : xZ} (B : Base z) : xin z 231 10 3 := B.i (by decide +kernel) (by decide +kernel)
theorem bI_232 {z : xZ} (B : Base z) : xin z 232 10 3 := B.i (by decide +kernel) (by decide +kernel)
theorem bI_240 {z : xZ} (B : Base z) : xin z 240 10 3 := B.i (by decide +kernel) (by decide +kernel)
