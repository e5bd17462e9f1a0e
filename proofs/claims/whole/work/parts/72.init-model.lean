/-! the constructor of the reference, by program (wip/whole/gen_init.py) -/
def zw1 : xZ := nz zu0 201
theorem zc_zw1 : Zc zw1 := nz_Zc zc_zu0
def vw2 : xS := nv vu0 201
def zw3 : xZ := wR zw1 200 1 (some 201)
theorem zc_zw3 : Zc zw3 := wR_Zc zc_zw1 (by decide +kernel)
def zw4 : xZ := nz zw3 203
theorem zc_zw4 : Zc zw4 := nz_Zc zc_zw3
def vw5 : xS := nv vw2 203
def zw6 : xZ := wR zw4 200 3 (some 203)
theorem zc_zw6 : Zc zw6 := wR_Zc zc_zw4 (by decide +kernel)
def zw7 : xZ := nz zw6 204
theorem zc_zw7 : Zc zw7 := nz_Zc zc_zw6
def vw8 : xS := nv vw5 204
def zw9 : xZ := wR zw7 200 4 (some 204)
theorem zc_zw9 : Zc zw9 := wR_Zc zc_zw7 (by decide +kernel)
def zw10 : xZ := nz zw9 205
theorem zc_zw10 : Zc zw10 := nz_Zc zc_zw9
def vw11 : xS := nv vw8 205
def zw12 : xZ := wR zw10 200 5 (some 205)
theorem zc_zw12 : Zc zw12 := wR_Zc zc_zw10 (by decide +kernel)
def zw13 : xZ := nz zw12 206
theorem zc_zw13 : Zc zw13 := nz_Zc zc_zw12
def vw14 : xS := nv vw11 206
def zw15 : xZ := wR zw13 200 6 (some 206)
theorem zc_zw15 : Zc zw15 := wR_Zc zc_zw13 (by decide +kernel)
def zw16 : xZ := nz zw15 207
theorem zc_zw16 : Zc zw16 := nz_Zc zc_zw15
def vw17 : xS := nv vw14 207
def zw18 : xZ := wR zw16 200 7 (some 207)
theorem zc_zw18 : Zc zw18 := wR_Zc zc_zw16 (by decide +kernel)
def zw19 : xZ := nz zw18 210
theorem zc_zw19 : Zc zw19 := nz_Zc zc_zw18
def vw20 : xS := nv vw17 210
def zw21 : xZ := wR zw19 200 10 (some 210)
theorem zc_zw21 : Zc zw21 := wR_Zc zc_zw19 (by decide +kernel)
def zw22 : xZ := nz zw21 211
theorem zc_zw22 : Zc zw22 := nz_Zc zc_zw21
def vw23 : xS := nv vw20 211
def zw24 : xZ := wR zw22 200 11 (some 211)
theorem zc_zw24 : Zc zw24 := wR_Zc zc_zw22 (by decide +kernel)
def zw25 : xZ := nz zw24 212
theorem zc_zw25 : Zc zw25 := nz_Zc zc_zw24
def vw26 : xS := nv vw23 212
def zw27 : xZ := wR zw25 200 12 (some 212)
theorem zc_zw27 : Zc zw27 := wR_Zc zc_zw25 (by decide +kernel)
def zw28 : xZ := nz zw27 213
theorem zc_zw28 : Zc zw28 := nz_Zc zc_zw27
def vw29 : xS := nv vw26 213
def zw30 : xZ := wR zw28 200 13 (some 213)
theorem zc_zw30 : Zc zw30 := wR_Zc zc_zw28 (by decide +kernel)
def zw31 : xZ := nz zw30 214
theorem zc_zw31 : Zc zw31 := nz_Zc zc_zw30
def vw32 : xS := nv vw29 214
def zw33 : xZ := wR zw31 200 14 (some 214)
theorem zc_zw33 : Zc zw33 := wR_Zc zc_zw31 (by decide +kernel)
def zw34 : xZ := nz zw33 219
theorem zc_zw34 : Zc zw34 := nz_Zc zc_zw33
def vw35 : xS := nv vw32 219
def zw36 : xZ := wR zw34 200 19 (some 219)
theorem zc_zw36 : Zc zw36 := wR_Zc zc_zw34 (by decide +kernel)
def zw37 : xZ := nz zw36 220
theorem zc_zw37 : Zc zw37 := nz_Zc zc_zw36
def vw38 : xS := nv vw35 220
def zw39 : xZ := wR zw37 200 20 (some 220)
theorem zc_zw39 : Zc zw39 := wR_Zc zc_zw37 (by decide +kernel)
def zw40 : xZ := nz zw39 221
theorem zc_zw40 : Zc zw40 := nz_Zc zc_zw39
def vw41 : xS := nv vw38 221
def zw42 : xZ := wR zw40 200 21 (some 221)
theorem zc_zw42 : Zc zw42 := wR_Zc zc_zw40 (by decide +kernel)
def zw43 : xZ := nz zw42 222
theorem zc_zw43 : Zc zw43 := nz_Zc zc_zw42
def vw44 : xS := nv vw41 222
def zw45 : xZ := wR zw43 200 22 (some 222)
theorem zc_zw45 : Zc zw45 := wR_Zc zc_zw43 (by decide +kernel)
def zw46 : xZ := nz zw45 223
theorem zc_zw46 : Zc zw46 := nz_Zc zc_zw45
def vw47 : xS := nv vw44 223
def zw48 : xZ := wR zw46 200 23 (some 223)
theorem zc_zw48 : Zc zw48 := wR_Zc zc_zw46 (by decide +kernel)
def zw49 : xZ := nz zw48 225
theorem zc_zw49 : Zc zw49 := nz_Zc zc_zw48
def vw50 : xS := nv vw47 225
def zw51 : xZ := wR zw49 200 25 (some 225)
theorem zc_zw51 : Zc zw51 := wR_Zc zc_zw49 (by decide +kernel)
def zw52 : xZ := nz zw51 226
theorem zc_zw52 : Zc zw52 := nz_Zc zc_zw51
def vw53 : xS := nv vw50 226
def zw54 : xZ := wR zw52 200 26 (some 226)
theorem zc_zw54 : Zc zw54 := wR_Zc zc_zw52 (by decide +kernel)
def zw55 : xZ := nz zw54 227
theorem zc_zw55 : Zc zw55 := nz_Zc zc_zw54
def vw56 : xS := nv vw53 227
def zw57 : xZ := wR zw55 200 27 (some 227)
theorem zc_zw57 : Zc zw57 := wR_Zc zc_zw55 (by decide +kernel)
def zw58 : xZ := nz zw57 228
theorem zc_zw58 : Zc zw58 := nz_Zc zc_zw57
def vw59 : xS := nv vw56 228
def zw60 : xZ := wR zw58 200 28 (some 228)
theorem zc_zw60 : Zc zw60 := wR_Zc zc_zw58 (by decide +kernel)
def zw61 : xZ := nz zw60 229
theorem zc_zw61 : Zc zw61 := nz_Zc zc_zw60
def vw62 : xS := nv vw59 229
def zw63 : xZ := wR zw61 200 29 (some 229)
theorem zc_zw63 : Zc zw63 := wR_Zc zc_zw61 (by decide +kernel)
def zw64 : xZ := nz zw63 230
theorem zc_zw64 : Zc zw64 := nz_Zc zc_zw63
def vw65 : xS := nv vw62 230
def zw66 : xZ := wR zw64 200 30 (some 230)
theorem zc_zw66 : Zc zw66 := wR_Zc zc_zw64 (by decide +kernel)
def zw67 : xZ := nz zw66 231
theorem zc_zw67 : Zc zw67 := nz_Zc zc_zw66
def vw68 : xS := nv vw65 231
def zw69 : xZ := wR zw67 200 31 (some 231)
theorem zc_zw69 : Zc zw69 := wR_Zc zc_zw67 (by decide +kernel)
def zw70 : xZ := nz zw69 232
theorem zc_zw70 : Zc zw70 := nz_Zc zc_zw69
def vw71 : xS := nv vw68 232
def zw72 : xZ := wR zw70 200 32 (some 232)
theorem zc_zw72 : Zc zw72 := wR_Zc zc_zw70 (by decide +kernel)
def zw73 : xZ := nz zw72 240
theorem zc_zw73 : Zc zw73 := nz_Zc zc_zw72
def vw74 : xS := nv vw71 240
def zw75 : xZ := wR zw73 200 40 (some 240)
theorem zc_zw75 : Zc zw75 := wR_Zc zc_zw73 (by decide +kernel)
def vw76 : xS := wV vw74 203 0 ((-9))
def vw77 : xS := wV vw76 203 1 ((-9))
def vw78 : xS := wV vw77 203 2 ((-9))
def vw79 : xS := wV vw78 203 3 ((-9))
def vw80 : xS := wV vw79 203 4 ((-9))
def vw81 : xS := wV vw80 203 5 ((-9))
def vw82 : xS := wV vw81 206 0 ((-9))
def vw83 : xS := wV vw82 206 1 ((-9))
def vw84 : xS := wV vw83 206 2 ((-9))
def vw85 : xS := wV vw84 206 3 ((-9))
def vw86 : xS := wV vw85 227 0 ((-9))
def vw87 : xS := wV vw86 227 920 ((-9))
def vw88 : xS := wV vw87 227 1840 ((-9))
set_option maxRecDepth 100000 in
set_option maxHeartbeats 8000000 in
theorem oc_X6 {G : xG} {d : Nat} : Ok G (d + 1) 25 4462 yX6_init cX6_init 2 none [.ref 200] zu0 vu0 (fun r z1 v1 => r = none ∧ z1 = zw75 ∧ v1 = vw88) := by
  refine Ok_of (own := RX6) (by decide) rfl (Nat.le_of_ble_eq_true rfl) ?_
  show AW G (d + 1) 25 4462 yX6_init cX6_init 2 none RX6 0 0 0 [some (.ref 200), none] [] zu0 vu0 _
  refine AW_aload_n dX6_init_0 rfl rfl ?_
  refine AW_objInit dX6_init_1 ml_X6_1 w_oi w_oc (Nat.succ_pos _) (by decide) ?_
  refine AW_aload_n dX6_init_4 rfl rfl ?_
  refine AW_bipush (x := nI 6) dX6_init_5 (by decide) ?_
  refine AW_newI (a := 201) (n := 6) dX6_init_7 (by decide +kernel) rfl (by decide) w_ai (by decide +kernel) zc_zu0 (by unfold nst; decide) (by constructor <;> simp) (by decide) (by decide) ?_
  refine AW_putFR (c := 6) (k := 1) dX6_init_9 ⟨(by decide +kernel), by decide +kernel⟩ fl_X6_7 rfl rfl rfl (fun _ => rfl) (fun _ => rfl) ?_
  refine AW_aload_n dX6_init_12 rfl rfl ?_
  refine AW_bipush (x := nI 6) dX6_init_13 (by decide) ?_
  refine AW_newI (a := 203) (n := 6) dX6_init_15 (by decide +kernel) rfl (by decide) w_ai (by decide +kernel) zc_zw3 (by unfold nst; decide) (by constructor <;> simp) (by decide) (by decide) ?_
  refine AW_putFR (c := 6) (k := 3) dX6_init_17 ⟨(by decide +kernel), by decide +kernel⟩ fl_X6_13 rfl rfl rfl (fun _ => rfl) (fun _ => rfl) ?_
  refine AW_aload_n dX6_init_20 rfl rfl ?_
  refine AW_sipush (x := nI 240) dX6_init_21 (by decide) ?_
  refine AW_newI (a := 204) (n := 240) dX6_init_24 (by decide +kernel) rfl (by decide) w_ai (by decide +kernel) zc_zw6 (by unfold nst; decide) (by constructor <;> simp) (by decide) (by decide) ?_
  refine AW_putFR (c := 6) (k := 4) dX6_init_26 ⟨(by decide +kernel), by decide +kernel⟩ fl_X6_16 rfl rfl rfl (fun _ => rfl) (fun _ => rfl) ?_
  refine AW_aload_n dX6_init_29 rfl rfl ?_
  refine AW_bipush (x := nI 40) dX6_init_30 (by decide) ?_
  refine AW_newI (a := 205) (n := 40) dX6_init_32 (by decide +kernel) rfl (by decide) w_ai (by decide +kernel) zc_zw9 (by unfold nst; decide) (by constructor <;> simp) (by decide) (by decide) ?_
  refine AW_putFR (c := 6) (k := 5) dX6_init_34 ⟨(by decide +kernel), by decide +kernel⟩ fl_X6_19 rfl rfl rfl (fun _ => rfl) (fun _ => rfl) ?_
  refine AW_aload_n dX6_init_37 rfl rfl ?_
  refine AW_iconst (x := nI 4) dX6_init_38 (by decide) ?_
  refine AW_newI (a := 206) (n := 4) dX6_init_39 (by decide +kernel) rfl (by decide) w_ai (by decide +kernel) zc_zw12 (by unfold nst; decide) (by constructor <;> simp) (by decide) (by decide) ?_
  refine AW_putFR (c := 6) (k := 6) dX6_init_41 ⟨(by decide +kernel), by decide +kernel⟩ fl_X6_22 rfl rfl rfl (fun _ => rfl) (fun _ => rfl) ?_
  refine AW_aload_n dX6_init_44 rfl rfl ?_
  refine AW_sipush (x := nI 320) dX6_init_45 (by decide) ?_
  refine AW_newI (a := 207) (n := 320) dX6_init_48 (by decide +kernel) rfl (by decide) w_ai (by decide +kernel) zc_zw15 (by unfold nst; decide) (by constructor <;> simp) (by decide) (by decide) ?_
  refine AW_putFR (c := 6) (k := 7) dX6_init_50 ⟨(by decide +kernel), by decide +kernel⟩ fl_X6_25 rfl rfl rfl (fun _ => rfl) (fun _ => rfl) ?_
  refine AW_aload_n dX6_init_53 rfl rfl ?_
  refine AW_bipush (x := nI 10) dX6_init_54 (by decide) ?_
  refine AW_newI (a := 210) (n := 10) dX6_init_56 (by decide +kernel) rfl (by decide) w_ai (by decide +kernel) zc_zw18 (by unfold nst; decide) (by constructor <;> simp) (by decide) (by decide) ?_
  refine AW_putFR (c := 6) (k := 10) dX6_init_58 ⟨(by decide +kernel), by decide +kernel⟩ fl_X6_28 rfl rfl rfl (fun _ => rfl) (fun _ => rfl) ?_
  refine AW_aload_n dX6_init_61 rfl rfl ?_
  refine AW_iconst (x := nI 3) dX6_init_62 (by decide) ?_
  refine AW_newI (a := 211) (n := 3) dX6_init_63 (by decide +kernel) rfl (by decide) w_ai (by decide +kernel) zc_zw21 (by unfold nst; decide) (by constructor <;> simp) (by decide) (by decide) ?_
  refine AW_putFR (c := 6) (k := 11) dX6_init_65 ⟨(by decide +kernel), by decide +kernel⟩ fl_X6_31 rfl rfl rfl (fun _ => rfl) (fun _ => rfl) ?_
  refine AW_aload_n dX6_init_68 rfl rfl ?_
  refine AW_iconst (x := nI 3) dX6_init_69 (by decide) ?_
  refine AW_newI (a := 212) (n := 3) dX6_init_70 (by decide +kernel) rfl (by decide) w_ai (by decide +kernel) zc_zw24 (by unfold nst; decide) (by constructor <;> simp) (by decide) (by decide) ?_
  refine AW_putFR (c := 6) (k := 12) dX6_init_72 ⟨(by decide +kernel), by decide +kernel⟩ fl_X6_34 rfl rfl rfl (fun _ => rfl) (fun _ => rfl) ?_
  refine AW_aload_n dX6_init_75 rfl rfl ?_
  refine AW_iconst (x := nI 3) dX6_init_76 (by decide) ?_
  refine AW_newI (a := 213) (n := 3) dX6_init_77 (by decide +kernel) rfl (by decide) w_ai (by decide +kernel) zc_zw27 (by unfold nst; decide) (by constructor <;> simp) (by decide) (by decide) ?_
  refine AW_putFR (c := 6) (k := 13) dX6_init_79 ⟨(by decide +kernel), by decide +kernel⟩ fl_X6_37 rfl rfl rfl (fun _ => rfl) (fun _ => rfl) ?_
  refine AW_aload_n dX6_init_82 rfl rfl ?_
  refine AW_iconst (x := nI 3) dX6_init_83 (by decide) ?_
  refine AW_newI (a := 214) (n := 3) dX6_init_84 (by decide +kernel) rfl (by decide) w_ai (by decide +kernel) zc_zw30 (by unfold nst; decide) (by constructor <;> simp) (by decide) (by decide) ?_
  refine AW_putFR (c := 6) (k := 14) dX6_init_86 ⟨(by decide +kernel), by decide +kernel⟩ fl_X6_40 rfl rfl rfl (fun _ => rfl) (fun _ => rfl) ?_
  refine AW_aload_n dX6_init_89 rfl rfl ?_
  refine AW_bipush (x := nI 10) dX6_init_90 (by decide) ?_
  refine AW_newI (a := 219) (n := 10) dX6_init_92 (by decide +kernel) rfl (by decide) w_ai (by decide +kernel) zc_zw33 (by unfold nst; decide) (by constructor <;> simp) (by decide) (by decide) ?_
  refine AW_putFR (c := 6) (k := 19) dX6_init_94 ⟨(by decide +kernel), by decide +kernel⟩ fl_X6_43 rfl rfl rfl (fun _ => rfl) (fun _ => rfl) ?_
  refine AW_aload_n dX6_init_97 rfl rfl ?_
  refine AW_iconst (x := nI 3) dX6_init_98 (by decide) ?_
  refine AW_newI (a := 220) (n := 3) dX6_init_99 (by decide +kernel) rfl (by decide) w_ai (by decide +kernel) zc_zw36 (by unfold nst; decide) (by constructor <;> simp) (by decide) (by decide) ?_
  refine AW_putFR (c := 6) (k := 20) dX6_init_101 ⟨(by decide +kernel), by decide +kernel⟩ fl_X6_46 rfl rfl rfl (fun _ => rfl) (fun _ => rfl) ?_
  refine AW_aload_n dX6_init_104 rfl rfl ?_
  refine AW_iconst (x := nI 3) dX6_init_105 (by decide) ?_
  refine AW_newI (a := 221) (n := 3) dX6_init_106 (by decide +kernel) rfl (by decide) w_ai (by decide +kernel) zc_zw39 (by unfold nst; decide) (by constructor <;> simp) (by decide) (by decide) ?_
  refine AW_putFR (c := 6) (k := 21) dX6_init_108 ⟨(by decide +kernel), by decide +kernel⟩ fl_X6_49 rfl rfl rfl (fun _ => rfl) (fun _ => rfl) ?_
  refine AW_aload_n dX6_init_111 rfl rfl ?_
  refine AW_iconst (x := nI 3) dX6_init_112 (by decide) ?_
  refine AW_newI (a := 222) (n := 3) dX6_init_113 (by decide +kernel) rfl (by decide) w_ai (by decide +kernel) zc_zw42 (by unfold nst; decide) (by constructor <;> simp) (by decide) (by decide) ?_
  refine AW_putFR (c := 6) (k := 22) dX6_init_115 ⟨(by decide +kernel), by decide +kernel⟩ fl_X6_52 rfl rfl rfl (fun _ => rfl) (fun _ => rfl) ?_
  refine AW_aload_n dX6_init_118 rfl rfl ?_
  refine AW_bipush (x := nI 14) dX6_init_119 (by decide) ?_
  refine AW_newI (a := 223) (n := 14) dX6_init_121 (by decide +kernel) rfl (by decide) w_ai (by decide +kernel) zc_zw45 (by unfold nst; decide) (by constructor <;> simp) (by decide) (by decide) ?_
  refine AW_putFR (c := 6) (k := 23) dX6_init_123 ⟨(by decide +kernel), by decide +kernel⟩ fl_X6_55 rfl rfl rfl (fun _ => rfl) (fun _ => rfl) ?_
  refine AW_aload_n dX6_init_126 rfl rfl ?_
  refine AW_bipush (x := nI 60) dX6_init_127 (by decide) ?_
  refine AW_newI (a := 225) (n := 60) dX6_init_129 (by decide +kernel) rfl (by decide) w_ai (by decide +kernel) zc_zw48 (by unfold nst; decide) (by constructor <;> simp) (by decide) (by decide) ?_
  refine AW_putFR (c := 6) (k := 25) dX6_init_131 ⟨(by decide +kernel), by decide +kernel⟩ fl_X6_58 rfl rfl rfl (fun _ => rfl) (fun _ => rfl) ?_
  refine AW_aload_n dX6_init_134 rfl rfl ?_
  refine AW_sipush (x := nI 840) dX6_init_135 (by decide) ?_
  refine AW_newI (a := 226) (n := 840) dX6_init_138 (by decide +kernel) rfl (by decide) w_ai (by decide +kernel) zc_zw51 (by unfold nst; decide) (by constructor <;> simp) (by decide) (by decide) ?_
  refine AW_putFR (c := 6) (k := 26) dX6_init_140 ⟨(by decide +kernel), by decide +kernel⟩ fl_X6_61 rfl rfl rfl (fun _ => rfl) (fun _ => rfl) ?_
  refine AW_aload_n dX6_init_143 rfl rfl ?_
  refine AW_sipush (x := nI 2760) dX6_init_144 (by decide) ?_
  refine AW_newI (a := 227) (n := 2760) dX6_init_147 (by decide +kernel) rfl (by decide) w_ai (by decide +kernel) zc_zw54 (by unfold nst; decide) (by constructor <;> simp) (by decide) (by decide) ?_
  refine AW_putFR (c := 6) (k := 27) dX6_init_149 ⟨(by decide +kernel), by decide +kernel⟩ fl_X6_64 rfl rfl rfl (fun _ => rfl) (fun _ => rfl) ?_
  refine AW_aload_n dX6_init_152 rfl rfl ?_
  refine AW_bipush (x := nI 14) dX6_init_153 (by decide) ?_
  refine AW_newI (a := 228) (n := 14) dX6_init_155 (by decide +kernel) rfl (by decide) w_ai (by decide +kernel) zc_zw57 (by unfold nst; decide) (by constructor <;> simp) (by decide) (by decide) ?_
  refine AW_putFR (c := 6) (k := 28) dX6_init_157 ⟨(by decide +kernel), by decide +kernel⟩ fl_X6_67 rfl rfl rfl (fun _ => rfl) (fun _ => rfl) ?_
  refine AW_aload_n dX6_init_160 rfl rfl ?_
  refine AW_bipush (x := nI 10) dX6_init_161 (by decide) ?_
  refine AW_newI (a := 229) (n := 10) dX6_init_163 (by decide +kernel) rfl (by decide) w_ai (by decide +kernel) zc_zw60 (by unfold nst; decide) (by constructor <;> simp) (by decide) (by decide) ?_
  refine AW_putFR (c := 6) (k := 29) dX6_init_165 ⟨(by decide +kernel), by decide +kernel⟩ fl_X6_70 rfl rfl rfl (fun _ => rfl) (fun _ => rfl) ?_
  refine AW_aload_n dX6_init_168 rfl rfl ?_
  refine AW_bipush (x := nI 98) dX6_init_169 (by decide) ?_
  refine AW_newI (a := 230) (n := 98) dX6_init_171 (by decide +kernel) rfl (by decide) w_ai (by decide +kernel) zc_zw63 (by unfold nst; decide) (by constructor <;> simp) (by decide) (by decide) ?_
  refine AW_putFR (c := 6) (k := 30) dX6_init_173 ⟨(by decide +kernel), by decide +kernel⟩ fl_X6_73 rfl rfl rfl (fun _ => rfl) (fun _ => rfl) ?_
  refine AW_aload_n dX6_init_176 rfl rfl ?_
  refine AW_iconst (x := nI 3) dX6_init_177 (by decide) ?_
  refine AW_newI (a := 231) (n := 3) dX6_init_178 (by decide +kernel) rfl (by decide) w_ai (by decide +kernel) zc_zw66 (by unfold nst; decide) (by constructor <;> simp) (by decide) (by decide) ?_
  refine AW_putFR (c := 6) (k := 31) dX6_init_180 ⟨(by decide +kernel), by decide +kernel⟩ fl_X6_76 rfl rfl rfl (fun _ => rfl) (fun _ => rfl) ?_
  refine AW_aload_n dX6_init_183 rfl rfl ?_
  refine AW_iconst (x := nI 3) dX6_init_184 (by decide) ?_
  refine AW_newI (a := 232) (n := 3) dX6_init_185 (by decide +kernel) rfl (by decide) w_ai (by decide +kernel) zc_zw69 (by unfold nst; decide) (by constructor <;> simp) (by decide) (by decide) ?_
  refine AW_putFR (c := 6) (k := 32) dX6_init_187 ⟨(by decide +kernel), by decide +kernel⟩ fl_X6_79 rfl rfl rfl (fun _ => rfl) (fun _ => rfl) ?_
  refine AW_aload_n dX6_init_190 rfl rfl ?_
  refine AW_iconst (x := nI 3) dX6_init_191 (by decide) ?_
  refine AW_newI (a := 240) (n := 3) dX6_init_192 (by decide +kernel) rfl (by decide) w_ai (by decide +kernel) zc_zw72 (by unfold nst; decide) (by constructor <;> simp) (by decide) (by decide) ?_
  refine AW_putFR (c := 6) (k := 40) dX6_init_194 ⟨(by decide +kernel), by decide +kernel⟩ fl_X6_82 rfl rfl rfl (fun _ => rfl) (fun _ => rfl) ?_
  refine AW_iconst (x := nI 0) dX6_init_197 (by decide) ?_
  refine AW_istore_n (L' := [some (.ref 200), some (.int (nI 0))]) dX6_init_198 rfl (by decide) rfl ?_
  refine AW_iload_n dX6_init_199 rfl rfl ?_
  refine AW_bipush (x := nI 6) dX6_init_200 (by decide) ?_
  refine AW_icmp_ge (tgt := 219) dX6_init_202 (by decide) (fun h => absurd h (by decide)) (fun _ => ?_)
  refine AW_aload_n dX6_init_205 rfl rfl ?_
  refine AW_getR (c := 6) (k := 3) (b := 203) dX6_init_206 ⟨(by decide +kernel), by decide +kernel⟩ fl_X6_13 (by decide +kernel) ?_
  refine AW_iload_n dX6_init_209 rfl rfl ?_
  refine AW_bipush (x := (-9)) dX6_init_210 (by decide) ?_
  refine AW_iast (a := 203) (n := 6) dX6_init_212 ⟨(by decide +kernel), by decide +kernel⟩ (vpN (by decide) (by decide)) ?_
  rw [clN (by decide)]
  refine AW_iinc (x' := nI 1) (L' := [some (.ref 200), some (.int (nI 1))]) dX6_init_213 rfl (by decide) (by decide) rfl ?_
  refine AW_goto (tgt := 199) dX6_init_216 (by decide) ?_
  refine AW_iload_n dX6_init_199 rfl rfl ?_
  refine AW_bipush (x := nI 6) dX6_init_200 (by decide) ?_
  refine AW_icmp_ge (tgt := 219) dX6_init_202 (by decide) (fun h => absurd h (by decide)) (fun _ => ?_)
  refine AW_aload_n dX6_init_205 rfl rfl ?_
  refine AW_getR (c := 6) (k := 3) (b := 203) dX6_init_206 ⟨(by decide +kernel), by decide +kernel⟩ fl_X6_13 (by decide +kernel) ?_
  refine AW_iload_n dX6_init_209 rfl rfl ?_
  refine AW_bipush (x := (-9)) dX6_init_210 (by decide) ?_
  refine AW_iast (a := 203) (n := 6) dX6_init_212 ⟨(by decide +kernel), by decide +kernel⟩ (vpN (by decide) (by decide)) ?_
  rw [clN (by decide)]
  refine AW_iinc (x' := nI 2) (L' := [some (.ref 200), some (.int (nI 2))]) dX6_init_213 rfl (by decide) (by decide) rfl ?_
  refine AW_goto (tgt := 199) dX6_init_216 (by decide) ?_
  refine AW_iload_n dX6_init_199 rfl rfl ?_
  refine AW_bipush (x := nI 6) dX6_init_200 (by decide) ?_
  refine AW_icmp_ge (tgt := 219) dX6_init_202 (by decide) (fun h => absurd h (by decide)) (fun _ => ?_)
  refine AW_aload_n dX6_init_205 rfl rfl ?_
  refine AW_getR (c := 6) (k := 3) (b := 203) dX6_init_206 ⟨(by decide +kernel), by decide +kernel⟩ fl_X6_13 (by decide +kernel) ?_
  refine AW_iload_n dX6_init_209 rfl rfl ?_
  refine AW_bipush (x := (-9)) dX6_init_210 (by decide) ?_
  refine AW_iast (a := 203) (n := 6) dX6_init_212 ⟨(by decide +kernel), by decide +kernel⟩ (vpN (by decide) (by decide)) ?_
  rw [clN (by decide)]
  refine AW_iinc (x' := nI 3) (L' := [some (.ref 200), some (.int (nI 3))]) dX6_init_213 rfl (by decide) (by decide) rfl ?_
  refine AW_goto (tgt := 199) dX6_init_216 (by decide) ?_
  refine AW_iload_n dX6_init_199 rfl rfl ?_
  refine AW_bipush (x := nI 6) dX6_init_200 (by decide) ?_
  refine AW_icmp_ge (tgt := 219) dX6_init_202 (by decide) (fun h => absurd h (by decide)) (fun _ => ?_)
  refine AW_aload_n dX6_init_205 rfl rfl ?_
  refine AW_getR (c := 6) (k := 3) (b := 203) dX6_init_206 ⟨(by decide +kernel), by decide +kernel⟩ fl_X6_13 (by decide +kernel) ?_
  refine AW_iload_n dX6_init_209 rfl rfl ?_
  refine AW_bipush (x := (-9)) dX6_init_210 (by decide) ?_
  refine AW_iast (a := 203) (n := 6) dX6_init_212 ⟨(by decide +kernel), by decide +kernel⟩ (vpN (by decide) (by decide)) ?_
  rw [clN (by decide)]
  refine AW_iinc (x' := nI 4) (L' := [some (.ref 200), some (.int (nI 4))]) dX6_init_213 rfl (by decide) (by decide) rfl ?_
  refine AW_goto (tgt := 199) dX6_init_216 (by decide) ?_
  refine AW_iload_n dX6_init_199 rfl rfl ?_
  refine AW_bipush (x := nI 6) dX6_init_200 (by decide) ?_
  refine AW_icmp_ge (tgt := 219) dX6_init_202 (by decide) (fun h => absurd h (by decide)) (fun _ => ?_)
  refine AW_aload_n dX6_init_205 rfl rfl ?_
  refine AW_getR (c := 6) (k := 3) (b := 203) dX6_init_206 ⟨(by decide +kernel), by decide +kernel⟩ fl_X6_13 (by decide +kernel) ?_
  refine AW_iload_n dX6_init_209 rfl rfl ?_
  refine AW_bipush (x := (-9)) dX6_init_210 (by decide) ?_
  refine AW_iast (a := 203) (n := 6) dX6_init_212 ⟨(by decide +kernel), by decide +kernel⟩ (vpN (by decide) (by decide)) ?_
  rw [clN (by decide)]
  refine AW_iinc (x' := nI 5) (L' := [some (.ref 200), some (.int (nI 5))]) dX6_init_213 rfl (by decide) (by decide) rfl ?_
  refine AW_goto (tgt := 199) dX6_init_216 (by decide) ?_
  refine AW_iload_n dX6_init_199 rfl rfl ?_
  refine AW_bipush (x := nI 6) dX6_init_200 (by decide) ?_
  refine AW_icmp_ge (tgt := 219) dX6_init_202 (by decide) (fun h => absurd h (by decide)) (fun _ => ?_)
  refine AW_aload_n dX6_init_205 rfl rfl ?_
  refine AW_getR (c := 6) (k := 3) (b := 203) dX6_init_206 ⟨(by decide +kernel), by decide +kernel⟩ fl_X6_13 (by decide +kernel) ?_
  refine AW_iload_n dX6_init_209 rfl rfl ?_
  refine AW_bipush (x := (-9)) dX6_init_210 (by decide) ?_
  refine AW_iast (a := 203) (n := 6) dX6_init_212 ⟨(by decide +kernel), by decide +kernel⟩ (vpN (by decide) (by decide)) ?_
  rw [clN (by decide)]
  refine AW_iinc (x' := nI 6) (L' := [some (.ref 200), some (.int (nI 6))]) dX6_init_213 rfl (by decide) (by decide) rfl ?_
  refine AW_goto (tgt := 199) dX6_init_216 (by decide) ?_
  refine AW_iload_n dX6_init_199 rfl rfl ?_
  refine AW_bipush (x := nI 6) dX6_init_200 (by decide) ?_
  refine AW_icmp_ge (tgt := 219) dX6_init_202 (by decide) (fun _ => ?_) (fun h => absurd (by decide) h)
  refine AW_iconst (x := nI 0) dX6_init_219 (by decide) ?_
  refine AW_istore_n (L' := [some (.ref 200), some (.int (nI 0))]) dX6_init_220 rfl (by decide) rfl ?_
  refine AW_iload_n dX6_init_221 rfl rfl ?_
  refine AW_iconst (x := nI 4) dX6_init_222 (by decide) ?_
  refine AW_icmp_ge (tgt := 240) dX6_init_223 (by decide) (fun h => absurd h (by decide)) (fun _ => ?_)
  refine AW_aload_n dX6_init_226 rfl rfl ?_
  refine AW_getR (c := 6) (k := 6) (b := 206) dX6_init_227 ⟨(by decide +kernel), by decide +kernel⟩ fl_X6_22 (by decide +kernel) ?_
  refine AW_iload_n dX6_init_230 rfl rfl ?_
  refine AW_bipush (x := (-9)) dX6_init_231 (by decide) ?_
  refine AW_iast (a := 206) (n := 4) dX6_init_233 ⟨(by decide +kernel), by decide +kernel⟩ (vpN (by decide) (by decide)) ?_
  rw [clN (by decide)]
  refine AW_iinc (x' := nI 1) (L' := [some (.ref 200), some (.int (nI 1))]) dX6_init_234 rfl (by decide) (by decide) rfl ?_
  refine AW_goto (tgt := 221) dX6_init_237 (by decide) ?_
  refine AW_iload_n dX6_init_221 rfl rfl ?_
  refine AW_iconst (x := nI 4) dX6_init_222 (by decide) ?_
  refine AW_icmp_ge (tgt := 240) dX6_init_223 (by decide) (fun h => absurd h (by decide)) (fun _ => ?_)
  refine AW_aload_n dX6_init_226 rfl rfl ?_
  refine AW_getR (c := 6) (k := 6) (b := 206) dX6_init_227 ⟨(by decide +kernel), by decide +kernel⟩ fl_X6_22 (by decide +kernel) ?_
  refine AW_iload_n dX6_init_230 rfl rfl ?_
  refine AW_bipush (x := (-9)) dX6_init_231 (by decide) ?_
  refine AW_iast (a := 206) (n := 4) dX6_init_233 ⟨(by decide +kernel), by decide +kernel⟩ (vpN (by decide) (by decide)) ?_
  rw [clN (by decide)]
  refine AW_iinc (x' := nI 2) (L' := [some (.ref 200), some (.int (nI 2))]) dX6_init_234 rfl (by decide) (by decide) rfl ?_
  refine AW_goto (tgt := 221) dX6_init_237 (by decide) ?_
  refine AW_iload_n dX6_init_221 rfl rfl ?_
  refine AW_iconst (x := nI 4) dX6_init_222 (by decide) ?_
  refine AW_icmp_ge (tgt := 240) dX6_init_223 (by decide) (fun h => absurd h (by decide)) (fun _ => ?_)
  refine AW_aload_n dX6_init_226 rfl rfl ?_
  refine AW_getR (c := 6) (k := 6) (b := 206) dX6_init_227 ⟨(by decide +kernel), by decide +kernel⟩ fl_X6_22 (by decide +kernel) ?_
  refine AW_iload_n dX6_init_230 rfl rfl ?_
  refine AW_bipush (x := (-9)) dX6_init_231 (by decide) ?_
  refine AW_iast (a := 206) (n := 4) dX6_init_233 ⟨(by decide +kernel), by decide +kernel⟩ (vpN (by decide) (by decide)) ?_
  rw [clN (by decide)]
  refine AW_iinc (x' := nI 3) (L' := [some (.ref 200), some (.int (nI 3))]) dX6_init_234 rfl (by decide) (by decide) rfl ?_
  refine AW_goto (tgt := 221) dX6_init_237 (by decide) ?_
  refine AW_iload_n dX6_init_221 rfl rfl ?_
  refine AW_iconst (x := nI 4) dX6_init_222 (by decide) ?_
  refine AW_icmp_ge (tgt := 240) dX6_init_223 (by decide) (fun h => absurd h (by decide)) (fun _ => ?_)
  refine AW_aload_n dX6_init_226 rfl rfl ?_
  refine AW_getR (c := 6) (k := 6) (b := 206) dX6_init_227 ⟨(by decide +kernel), by decide +kernel⟩ fl_X6_22 (by decide +kernel) ?_
  refine AW_iload_n dX6_init_230 rfl rfl ?_
  refine AW_bipush (x := (-9)) dX6_init_231 (by decide) ?_
  refine AW_iast (a := 206) (n := 4) dX6_init_233 ⟨(by decide +kernel), by decide +kernel⟩ (vpN (by decide) (by decide)) ?_
  rw [clN (by decide)]
  refine AW_iinc (x' := nI 4) (L' := [some (.ref 200), some (.int (nI 4))]) dX6_init_234 rfl (by decide) (by decide) rfl ?_
  refine AW_goto (tgt := 221) dX6_init_237 (by decide) ?_
  refine AW_iload_n dX6_init_221 rfl rfl ?_
  refine AW_iconst (x := nI 4) dX6_init_222 (by decide) ?_
  refine AW_icmp_ge (tgt := 240) dX6_init_223 (by decide) (fun _ => ?_) (fun h => absurd (by decide) h)
  refine AW_iconst (x := nI 0) dX6_init_240 (by decide) ?_
  refine AW_istore_n (L' := [some (.ref 200), some (.int (nI 0))]) dX6_init_241 rfl (by decide) rfl ?_
  refine AW_iload_n dX6_init_242 rfl rfl ?_
  refine AW_iconst (x := nI 3) dX6_init_243 (by decide) ?_
  refine AW_icmp_ge (tgt := 265) dX6_init_244 (by decide) (fun h => absurd h (by decide)) (fun _ => ?_)
  refine AW_aload_n dX6_init_247 rfl rfl ?_
  refine AW_getR (c := 6) (k := 27) (b := 227) dX6_init_248 ⟨(by decide +kernel), by decide +kernel⟩ fl_X6_64 (by decide +kernel) ?_
  refine AW_sipush (x := nI 920) dX6_init_251 (by decide) ?_
  refine AW_iload_n dX6_init_254 rfl rfl ?_
  refine AW_imul dX6_init_255 ?_
  rw [show (nI 920 : Int32) * nI 0 = nI 0 by decide]
  refine AW_bipush (x := (-9)) dX6_init_256 (by decide) ?_
  refine AW_iast (a := 227) (n := 2760) dX6_init_258 ⟨(by decide +kernel), by decide +kernel⟩ (vpN (by decide) (by decide)) ?_
  rw [clN (by decide)]
  refine AW_iinc (x' := nI 1) (L' := [some (.ref 200), some (.int (nI 1))]) dX6_init_259 rfl (by decide) (by decide) rfl ?_
  refine AW_goto (tgt := 242) dX6_init_262 (by decide) ?_
  refine AW_iload_n dX6_init_242 rfl rfl ?_
  refine AW_iconst (x := nI 3) dX6_init_243 (by decide) ?_
  refine AW_icmp_ge (tgt := 265) dX6_init_244 (by decide) (fun h => absurd h (by decide)) (fun _ => ?_)
  refine AW_aload_n dX6_init_247 rfl rfl ?_
  refine AW_getR (c := 6) (k := 27) (b := 227) dX6_init_248 ⟨(by decide +kernel), by decide +kernel⟩ fl_X6_64 (by decide +kernel) ?_
  refine AW_sipush (x := nI 920) dX6_init_251 (by decide) ?_
  refine AW_iload_n dX6_init_254 rfl rfl ?_
  refine AW_imul dX6_init_255 ?_
  rw [show (nI 920 : Int32) * nI 1 = nI 920 by decide]
  refine AW_bipush (x := (-9)) dX6_init_256 (by decide) ?_
  refine AW_iast (a := 227) (n := 2760) dX6_init_258 ⟨(by decide +kernel), by decide +kernel⟩ (vpN (by decide) (by decide)) ?_
  rw [clN (by decide)]
  refine AW_iinc (x' := nI 2) (L' := [some (.ref 200), some (.int (nI 2))]) dX6_init_259 rfl (by decide) (by decide) rfl ?_
  refine AW_goto (tgt := 242) dX6_init_262 (by decide) ?_
  refine AW_iload_n dX6_init_242 rfl rfl ?_
  refine AW_iconst (x := nI 3) dX6_init_243 (by decide) ?_
  refine AW_icmp_ge (tgt := 265) dX6_init_244 (by decide) (fun h => absurd h (by decide)) (fun _ => ?_)
  refine AW_aload_n dX6_init_247 rfl rfl ?_
  refine AW_getR (c := 6) (k := 27) (b := 227) dX6_init_248 ⟨(by decide +kernel), by decide +kernel⟩ fl_X6_64 (by decide +kernel) ?_
  refine AW_sipush (x := nI 920) dX6_init_251 (by decide) ?_
  refine AW_iload_n dX6_init_254 rfl rfl ?_
  refine AW_imul dX6_init_255 ?_
  rw [show (nI 920 : Int32) * nI 2 = nI 1840 by decide]
  refine AW_bipush (x := (-9)) dX6_init_256 (by decide) ?_
  refine AW_iast (a := 227) (n := 2760) dX6_init_258 ⟨(by decide +kernel), by decide +kernel⟩ (vpN (by decide) (by decide)) ?_
  rw [clN (by decide)]
  refine AW_iinc (x' := nI 3) (L' := [some (.ref 200), some (.int (nI 3))]) dX6_init_259 rfl (by decide) (by decide) rfl ?_
  refine AW_goto (tgt := 242) dX6_init_262 (by decide) ?_
  refine AW_iload_n dX6_init_242 rfl rfl ?_
  refine AW_iconst (x := nI 3) dX6_init_243 (by decide) ?_
  refine AW_icmp_ge (tgt := 265) dX6_init_244 (by decide) (fun _ => ?_) (fun h => absurd (by decide) h)
  exact AW_vret dX6_init_265 rfl (by decide) (by decide) ⟨rfl, rfl, rfl⟩
def zF : xZ := zw75
def vF : xS := vw88
theorem zc_zF : Zc zF := zc_zw75
