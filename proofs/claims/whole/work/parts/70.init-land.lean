/-! the constructors, by program (wip/whole/gen_init.py) -/
def lz_30 (z : xZ) : xZ := (wR (nz (wR (nz (wR (nz (wR (nz (wR (nz (wR (nz (wR (nz (wR (nz z 31) 30 4 (some 31)) 32) 30 5 (some 32)) 33) 30 6 (some 33)) 34) 30 7 (some 34)) 35) 30 8 (some 35)) 36) 30 9 (some 36)) 37) 30 10 (some 37)) 38) 30 11 (some 38))
def lw_30 (v : xS) : xS := (nv (nv (nv (nv (nv (nv (nv (nv (wV (wV (wV (wV v 30 0 (nI 0)) 30 1 (nI 0)) 30 2 (nI 0)) 30 3 (nI 0)) 31) 32) 33) 34) 35) 36) 37) 38)
theorem zc_lz_30 {z : xZ} (hz : Zc z) (ha : 30 ∈ z.1) : Zc (lz_30 z) := (wR_Zc (nz_Zc (wR_Zc (nz_Zc (wR_Zc (nz_Zc (wR_Zc (nz_Zc (wR_Zc (nz_Zc (wR_Zc (nz_Zc (wR_Zc (nz_Zc (wR_Zc (nz_Zc hz) (by simp [mem_nz, mem_wR]))) (by simp [mem_nz, mem_wR]))) (by simp [mem_nz, mem_wR]))) (by simp [mem_nz, mem_wR]))) (by simp [mem_nz, mem_wR]))) (by simp [mem_nz, mem_wR]))) (by simp [mem_nz, mem_wR]))) (by simp [mem_nz, mem_wR]))
set_option maxRecDepth 100000 in
set_option maxHeartbeats 8000000 in
theorem oc_X1_30 {G : xG} {d : Nat} {z : xZ} {v : xS} (hz : Zc z) (ha : 30 ∈ z.1) (h1 : 31 ∉ z.1) (h2 : 32 ∉ z.1) (h3 : 33 ∉ z.1) (h4 : 34 ∉ z.1) (h5 : 35 ∉ z.1) (h6 : 36 ∉ z.1) (h7 : 37 ∉ z.1) (h8 : 38 ∉ z.1) : Ok G (d + 1) 8 862 yX1_init cX1_init 1 none [.ref 30] z v (fun r z1 v1 => r = none ∧ z1 = lz_30 z ∧ v1 = lw_30 v) := by
  refine Ok_of (own := RX1) (by decide) rfl (Nat.le_of_ble_eq_true rfl) ?_
  show AW G (d + 1) 8 862 yX1_init cX1_init 1 none RX1 0 0 0 [some (.ref 30)] [] z v _
  refine AW_aload_n dX1_init_0 rfl rfl ?_
  refine AW_objInit dX1_init_1 ml_X1_3 w_oi w_oc (Nat.succ_pos _) (by decide) ?_
  refine AW_aload_n dX1_init_4 rfl rfl ?_
  refine AW_iconst (x := nI 0) dX1_init_5 (by decide) ?_
  refine AW_putI (c := 1) (k := 0) dX1_init_6 ⟨(by simp [mem_nz, mem_wR, ha]), by decide +kernel⟩ fl_X1_9 rfl (by decide) (by decide) ?_
  refine AW_aload_n dX1_init_9 rfl rfl ?_
  refine AW_iconst (x := nI 0) dX1_init_10 (by decide) ?_
  refine AW_putI (c := 1) (k := 1) dX1_init_11 ⟨(by simp [mem_nz, mem_wR, ha]), by decide +kernel⟩ fl_X1_15 rfl (by decide) (by decide) ?_
  refine AW_aload_n dX1_init_14 rfl rfl ?_
  refine AW_iconst (x := nI 0) dX1_init_15 (by decide) ?_
  refine AW_putI (c := 1) (k := 2) dX1_init_16 ⟨(by simp [mem_nz, mem_wR, ha]), by decide +kernel⟩ fl_X1_18 rfl (by decide) (by decide) ?_
  refine AW_aload_n dX1_init_19 rfl rfl ?_
  refine AW_iconst (x := nI 0) dX1_init_20 (by decide) ?_
  refine AW_putI (c := 1) (k := 3) dX1_init_21 ⟨(by simp [mem_nz, mem_wR, ha]), by decide +kernel⟩ fl_X1_21 rfl (by decide) (by decide) ?_
  refine AW_aload_n dX1_init_24 rfl rfl ?_
  refine AW_bipush (x := nI 10) dX1_init_25 (by decide) ?_
  refine AW_newI (a := 31) (n := 10) dX1_init_27 (by decide +kernel) rfl (by decide) w_ai (by simp [mem_nz, mem_wR, h1, h2, h3, h4, h5, h6, h7, h8]) hz (by unfold nst; decide) (by constructor <;> simp) (by decide) (by decide) ?_
  refine AW_putFR (c := 1) (k := 4) dX1_init_29 ⟨(by simp [mem_nz, mem_wR, ha]), by decide +kernel⟩ fl_X1_24 rfl rfl rfl (fun _ => rfl) (fun _ => rfl) ?_
  refine AW_aload_n dX1_init_32 rfl rfl ?_
  refine AW_iconst (x := nI 3) dX1_init_33 (by decide) ?_
  refine AW_newI (a := 32) (n := 3) dX1_init_34 (by decide +kernel) rfl (by decide) w_ai (by simp [mem_nz, mem_wR, h1, h2, h3, h4, h5, h6, h7, h8]) (wR_Zc (nz_Zc hz) (by simp [mem_nz, mem_wR])) (by unfold nst; decide) (by constructor <;> simp) (by decide) (by decide) ?_
  refine AW_putFR (c := 1) (k := 5) dX1_init_36 ⟨(by simp [mem_nz, mem_wR, ha]), by decide +kernel⟩ fl_X1_28 rfl rfl rfl (fun _ => rfl) (fun _ => rfl) ?_
  refine AW_aload_n dX1_init_39 rfl rfl ?_
  refine AW_iconst (x := nI 3) dX1_init_40 (by decide) ?_
  refine AW_newI (a := 33) (n := 3) dX1_init_41 (by decide +kernel) rfl (by decide) w_ai (by simp [mem_nz, mem_wR, h1, h2, h3, h4, h5, h6, h7, h8]) (wR_Zc (nz_Zc (wR_Zc (nz_Zc hz) (by simp [mem_nz, mem_wR]))) (by simp [mem_nz, mem_wR])) (by unfold nst; decide) (by constructor <;> simp) (by decide) (by decide) ?_
  refine AW_putFR (c := 1) (k := 6) dX1_init_43 ⟨(by simp [mem_nz, mem_wR, ha]), by decide +kernel⟩ fl_X1_31 rfl rfl rfl (fun _ => rfl) (fun _ => rfl) ?_
  refine AW_aload_n dX1_init_46 rfl rfl ?_
  refine AW_iconst (x := nI 3) dX1_init_47 (by decide) ?_
  refine AW_newI (a := 34) (n := 3) dX1_init_48 (by decide +kernel) rfl (by decide) w_ai (by simp [mem_nz, mem_wR, h1, h2, h3, h4, h5, h6, h7, h8]) (wR_Zc (nz_Zc (wR_Zc (nz_Zc (wR_Zc (nz_Zc hz) (by simp [mem_nz, mem_wR]))) (by simp [mem_nz, mem_wR]))) (by simp [mem_nz, mem_wR])) (by unfold nst; decide) (by constructor <;> simp) (by decide) (by decide) ?_
  refine AW_putFR (c := 1) (k := 7) dX1_init_50 ⟨(by simp [mem_nz, mem_wR, ha]), by decide +kernel⟩ fl_X1_34 rfl rfl rfl (fun _ => rfl) (fun _ => rfl) ?_
  refine AW_aload_n dX1_init_53 rfl rfl ?_
  refine AW_iconst (x := nI 3) dX1_init_54 (by decide) ?_
  refine AW_newI (a := 35) (n := 3) dX1_init_55 (by decide +kernel) rfl (by decide) w_ai (by simp [mem_nz, mem_wR, h1, h2, h3, h4, h5, h6, h7, h8]) (wR_Zc (nz_Zc (wR_Zc (nz_Zc (wR_Zc (nz_Zc (wR_Zc (nz_Zc hz) (by simp [mem_nz, mem_wR]))) (by simp [mem_nz, mem_wR]))) (by simp [mem_nz, mem_wR]))) (by simp [mem_nz, mem_wR])) (by unfold nst; decide) (by constructor <;> simp) (by decide) (by decide) ?_
  refine AW_putFR (c := 1) (k := 8) dX1_init_57 ⟨(by simp [mem_nz, mem_wR, ha]), by decide +kernel⟩ fl_X1_37 rfl rfl rfl (fun _ => rfl) (fun _ => rfl) ?_
  refine AW_aload_n dX1_init_60 rfl rfl ?_
  refine AW_bipush (x := nI 60) dX1_init_61 (by decide) ?_
  refine AW_newI (a := 36) (n := 60) dX1_init_63 (by decide +kernel) rfl (by decide) w_ai (by simp [mem_nz, mem_wR, h1, h2, h3, h4, h5, h6, h7, h8]) (wR_Zc (nz_Zc (wR_Zc (nz_Zc (wR_Zc (nz_Zc (wR_Zc (nz_Zc (wR_Zc (nz_Zc hz) (by simp [mem_nz, mem_wR]))) (by simp [mem_nz, mem_wR]))) (by simp [mem_nz, mem_wR]))) (by simp [mem_nz, mem_wR]))) (by simp [mem_nz, mem_wR])) (by unfold nst; decide) (by constructor <;> simp) (by decide) (by decide) ?_
  refine AW_putFR (c := 1) (k := 9) dX1_init_65 ⟨(by simp [mem_nz, mem_wR, ha]), by decide +kernel⟩ fl_X1_40 rfl rfl rfl (fun _ => rfl) (fun _ => rfl) ?_
  refine AW_aload_n dX1_init_68 rfl rfl ?_
  refine AW_sipush (x := nI 600) dX1_init_69 (by decide) ?_
  refine AW_newI (a := 37) (n := 600) dX1_init_72 (by decide +kernel) rfl (by decide) w_ai (by simp [mem_nz, mem_wR, h1, h2, h3, h4, h5, h6, h7, h8]) (wR_Zc (nz_Zc (wR_Zc (nz_Zc (wR_Zc (nz_Zc (wR_Zc (nz_Zc (wR_Zc (nz_Zc (wR_Zc (nz_Zc hz) (by simp [mem_nz, mem_wR]))) (by simp [mem_nz, mem_wR]))) (by simp [mem_nz, mem_wR]))) (by simp [mem_nz, mem_wR]))) (by simp [mem_nz, mem_wR]))) (by simp [mem_nz, mem_wR])) (by unfold nst; decide) (by constructor <;> simp) (by decide) (by decide) ?_
  refine AW_putFR (c := 1) (k := 10) dX1_init_74 ⟨(by simp [mem_nz, mem_wR, ha]), by decide +kernel⟩ fl_X1_43 rfl rfl rfl (fun _ => rfl) (fun _ => rfl) ?_
  refine AW_aload_n dX1_init_77 rfl rfl ?_
  refine AW_sipush (x := nI 180) dX1_init_78 (by decide) ?_
  refine AW_newI (a := 38) (n := 180) dX1_init_81 (by decide +kernel) rfl (by decide) w_ai (by simp [mem_nz, mem_wR, h1, h2, h3, h4, h5, h6, h7, h8]) (wR_Zc (nz_Zc (wR_Zc (nz_Zc (wR_Zc (nz_Zc (wR_Zc (nz_Zc (wR_Zc (nz_Zc (wR_Zc (nz_Zc (wR_Zc (nz_Zc hz) (by simp [mem_nz, mem_wR]))) (by simp [mem_nz, mem_wR]))) (by simp [mem_nz, mem_wR]))) (by simp [mem_nz, mem_wR]))) (by simp [mem_nz, mem_wR]))) (by simp [mem_nz, mem_wR]))) (by simp [mem_nz, mem_wR])) (by unfold nst; decide) (by constructor <;> simp) (by decide) (by decide) ?_
  refine AW_putFR (c := 1) (k := 11) dX1_init_83 ⟨(by simp [mem_nz, mem_wR, ha]), by decide +kernel⟩ fl_X1_46 rfl rfl rfl (fun _ => rfl) (fun _ => rfl) ?_
  exact AW_vret dX1_init_86 rfl (by decide) (by decide) ⟨rfl, rfl, rfl⟩
def lz_40 (z : xZ) : xZ := (wR (nz (wR (nz (wR (nz (wR (nz (wR (nz (wR (nz (wR (nz (wR (nz z 41) 40 4 (some 41)) 42) 40 5 (some 42)) 43) 40 6 (some 43)) 44) 40 7 (some 44)) 45) 40 8 (some 45)) 46) 40 9 (some 46)) 47) 40 10 (some 47)) 48) 40 11 (some 48))
def lw_40 (v : xS) : xS := (nv (nv (nv (nv (nv (nv (nv (nv (wV (wV (wV (wV v 40 0 (nI 0)) 40 1 (nI 0)) 40 2 (nI 0)) 40 3 (nI 0)) 41) 42) 43) 44) 45) 46) 47) 48)
theorem zc_lz_40 {z : xZ} (hz : Zc z) (ha : 40 ∈ z.1) : Zc (lz_40 z) := (wR_Zc (nz_Zc (wR_Zc (nz_Zc (wR_Zc (nz_Zc (wR_Zc (nz_Zc (wR_Zc (nz_Zc (wR_Zc (nz_Zc (wR_Zc (nz_Zc (wR_Zc (nz_Zc hz) (by simp [mem_nz, mem_wR]))) (by simp [mem_nz, mem_wR]))) (by simp [mem_nz, mem_wR]))) (by simp [mem_nz, mem_wR]))) (by simp [mem_nz, mem_wR]))) (by simp [mem_nz, mem_wR]))) (by simp [mem_nz, mem_wR]))) (by simp [mem_nz, mem_wR]))
set_option maxRecDepth 100000 in
set_option maxHeartbeats 8000000 in
theorem oc_X1_40 {G : xG} {d : Nat} {z : xZ} {v : xS} (hz : Zc z) (ha : 40 ∈ z.1) (h1 : 41 ∉ z.1) (h2 : 42 ∉ z.1) (h3 : 43 ∉ z.1) (h4 : 44 ∉ z.1) (h5 : 45 ∉ z.1) (h6 : 46 ∉ z.1) (h7 : 47 ∉ z.1) (h8 : 48 ∉ z.1) : Ok G (d + 1) 8 862 yX1_init cX1_init 1 none [.ref 40] z v (fun r z1 v1 => r = none ∧ z1 = lz_40 z ∧ v1 = lw_40 v) := by
  refine Ok_of (own := RX1) (by decide) rfl (Nat.le_of_ble_eq_true rfl) ?_
  show AW G (d + 1) 8 862 yX1_init cX1_init 1 none RX1 0 0 0 [some (.ref 40)] [] z v _
  refine AW_aload_n dX1_init_0 rfl rfl ?_
  refine AW_objInit dX1_init_1 ml_X1_3 w_oi w_oc (Nat.succ_pos _) (by decide) ?_
  refine AW_aload_n dX1_init_4 rfl rfl ?_
  refine AW_iconst (x := nI 0) dX1_init_5 (by decide) ?_
  refine AW_putI (c := 1) (k := 0) dX1_init_6 ⟨(by simp [mem_nz, mem_wR, ha]), by decide +kernel⟩ fl_X1_9 rfl (by decide) (by decide) ?_
  refine AW_aload_n dX1_init_9 rfl rfl ?_
  refine AW_iconst (x := nI 0) dX1_init_10 (by decide) ?_
  refine AW_putI (c := 1) (k := 1) dX1_init_11 ⟨(by simp [mem_nz, mem_wR, ha]), by decide +kernel⟩ fl_X1_15 rfl (by decide) (by decide) ?_
  refine AW_aload_n dX1_init_14 rfl rfl ?_
  refine AW_iconst (x := nI 0) dX1_init_15 (by decide) ?_
  refine AW_putI (c := 1) (k := 2) dX1_init_16 ⟨(by simp [mem_nz, mem_wR, ha]), by decide +kernel⟩ fl_X1_18 rfl (by decide) (by decide) ?_
  refine AW_aload_n dX1_init_19 rfl rfl ?_
  refine AW_iconst (x := nI 0) dX1_init_20 (by decide) ?_
  refine AW_putI (c := 1) (k := 3) dX1_init_21 ⟨(by simp [mem_nz, mem_wR, ha]), by decide +kernel⟩ fl_X1_21 rfl (by decide) (by decide) ?_
  refine AW_aload_n dX1_init_24 rfl rfl ?_
  refine AW_bipush (x := nI 10) dX1_init_25 (by decide) ?_
  refine AW_newI (a := 41) (n := 10) dX1_init_27 (by decide +kernel) rfl (by decide) w_ai (by simp [mem_nz, mem_wR, h1, h2, h3, h4, h5, h6, h7, h8]) hz (by unfold nst; decide) (by constructor <;> simp) (by decide) (by decide) ?_
  refine AW_putFR (c := 1) (k := 4) dX1_init_29 ⟨(by simp [mem_nz, mem_wR, ha]), by decide +kernel⟩ fl_X1_24 rfl rfl rfl (fun _ => rfl) (fun _ => rfl) ?_
  refine AW_aload_n dX1_init_32 rfl rfl ?_
  refine AW_iconst (x := nI 3) dX1_init_33 (by decide) ?_
  refine AW_newI (a := 42) (n := 3) dX1_init_34 (by decide +kernel) rfl (by decide) w_ai (by simp [mem_nz, mem_wR, h1, h2, h3, h4, h5, h6, h7, h8]) (wR_Zc (nz_Zc hz) (by simp [mem_nz, mem_wR])) (by unfold nst; decide) (by constructor <;> simp) (by decide) (by decide) ?_
  refine AW_putFR (c := 1) (k := 5) dX1_init_36 ⟨(by simp [mem_nz, mem_wR, ha]), by decide +kernel⟩ fl_X1_28 rfl rfl rfl (fun _ => rfl) (fun _ => rfl) ?_
  refine AW_aload_n dX1_init_39 rfl rfl ?_
  refine AW_iconst (x := nI 3) dX1_init_40 (by decide) ?_
  refine AW_newI (a := 43) (n := 3) dX1_init_41 (by decide +kernel) rfl (by decide) w_ai (by simp [mem_nz, mem_wR, h1, h2, h3, h4, h5, h6, h7, h8]) (wR_Zc (nz_Zc (wR_Zc (nz_Zc hz) (by simp [mem_nz, mem_wR]))) (by simp [mem_nz, mem_wR])) (by unfold nst; decide) (by constructor <;> simp) (by decide) (by decide) ?_
  refine AW_putFR (c := 1) (k := 6) dX1_init_43 ⟨(by simp [mem_nz, mem_wR, ha]), by decide +kernel⟩ fl_X1_31 rfl rfl rfl (fun _ => rfl) (fun _ => rfl) ?_
  refine AW_aload_n dX1_init_46 rfl rfl ?_
  refine AW_iconst (x := nI 3) dX1_init_47 (by decide) ?_
  refine AW_newI (a := 44) (n := 3) dX1_init_48 (by decide +kernel) rfl (by decide) w_ai (by simp [mem_nz, mem_wR, h1, h2, h3, h4, h5, h6, h7, h8]) (wR_Zc (nz_Zc (wR_Zc (nz_Zc (wR_Zc (nz_Zc hz) (by simp [mem_nz, mem_wR]))) (by simp [mem_nz, mem_wR]))) (by simp [mem_nz, mem_wR])) (by unfold nst; decide) (by constructor <;> simp) (by decide) (by decide) ?_
  refine AW_putFR (c := 1) (k := 7) dX1_init_50 ⟨(by simp [mem_nz, mem_wR, ha]), by decide +kernel⟩ fl_X1_34 rfl rfl rfl (fun _ => rfl) (fun _ => rfl) ?_
  refine AW_aload_n dX1_init_53 rfl rfl ?_
  refine AW_iconst (x := nI 3) dX1_init_54 (by decide) ?_
  refine AW_newI (a := 45) (n := 3) dX1_init_55 (by decide +kernel) rfl (by decide) w_ai (by simp [mem_nz, mem_wR, h1, h2, h3, h4, h5, h6, h7, h8]) (wR_Zc (nz_Zc (wR_Zc (nz_Zc (wR_Zc (nz_Zc (wR_Zc (nz_Zc hz) (by simp [mem_nz, mem_wR]))) (by simp [mem_nz, mem_wR]))) (by simp [mem_nz, mem_wR]))) (by simp [mem_nz, mem_wR])) (by unfold nst; decide) (by constructor <;> simp) (by decide) (by decide) ?_
  refine AW_putFR (c := 1) (k := 8) dX1_init_57 ⟨(by simp [mem_nz, mem_wR, ha]), by decide +kernel⟩ fl_X1_37 rfl rfl rfl (fun _ => rfl) (fun _ => rfl) ?_
  refine AW_aload_n dX1_init_60 rfl rfl ?_
  refine AW_bipush (x := nI 60) dX1_init_61 (by decide) ?_
  refine AW_newI (a := 46) (n := 60) dX1_init_63 (by decide +kernel) rfl (by decide) w_ai (by simp [mem_nz, mem_wR, h1, h2, h3, h4, h5, h6, h7, h8]) (wR_Zc (nz_Zc (wR_Zc (nz_Zc (wR_Zc (nz_Zc (wR_Zc (nz_Zc (wR_Zc (nz_Zc hz) (by simp [mem_nz, mem_wR]))) (by simp [mem_nz, mem_wR]))) (by simp [mem_nz, mem_wR]))) (by simp [mem_nz, mem_wR]))) (by simp [mem_nz, mem_wR])) (by unfold nst; decide) (by constructor <;> simp) (by decide) (by decide) ?_
  refine AW_putFR (c := 1) (k := 9) dX1_init_65 ⟨(by simp [mem_nz, mem_wR, ha]), by decide +kernel⟩ fl_X1_40 rfl rfl rfl (fun _ => rfl) (fun _ => rfl) ?_
  refine AW_aload_n dX1_init_68 rfl rfl ?_
  refine AW_sipush (x := nI 600) dX1_init_69 (by decide) ?_
  refine AW_newI (a := 47) (n := 600) dX1_init_72 (by decide +kernel) rfl (by decide) w_ai (by simp [mem_nz, mem_wR, h1, h2, h3, h4, h5, h6, h7, h8]) (wR_Zc (nz_Zc (wR_Zc (nz_Zc (wR_Zc (nz_Zc (wR_Zc (nz_Zc (wR_Zc (nz_Zc (wR_Zc (nz_Zc hz) (by simp [mem_nz, mem_wR]))) (by simp [mem_nz, mem_wR]))) (by simp [mem_nz, mem_wR]))) (by simp [mem_nz, mem_wR]))) (by simp [mem_nz, mem_wR]))) (by simp [mem_nz, mem_wR])) (by unfold nst; decide) (by constructor <;> simp) (by decide) (by decide) ?_
  refine AW_putFR (c := 1) (k := 10) dX1_init_74 ⟨(by simp [mem_nz, mem_wR, ha]), by decide +kernel⟩ fl_X1_43 rfl rfl rfl (fun _ => rfl) (fun _ => rfl) ?_
  refine AW_aload_n dX1_init_77 rfl rfl ?_
  refine AW_sipush (x := nI 180) dX1_init_78 (by decide) ?_
  refine AW_newI (a := 48) (n := 180) dX1_init_81 (by decide +kernel) rfl (by decide) w_ai (by simp [mem_nz, mem_wR, h1, h2, h3, h4, h5, h6, h7, h8]) (wR_Zc (nz_Zc (wR_Zc (nz_Zc (wR_Zc (nz_Zc (wR_Zc (nz_Zc (wR_Zc (nz_Zc (wR_Zc (nz_Zc (wR_Zc (nz_Zc hz) (by simp [mem_nz, mem_wR]))) (by simp [mem_nz, mem_wR]))) (by simp [mem_nz, mem_wR]))) (by simp [mem_nz, mem_wR]))) (by simp [mem_nz, mem_wR]))) (by simp [mem_nz, mem_wR]))) (by simp [mem_nz, mem_wR])) (by unfold nst; decide) (by constructor <;> simp) (by decide) (by decide) ?_
  refine AW_putFR (c := 1) (k := 11) dX1_init_83 ⟨(by simp [mem_nz, mem_wR, ha]), by decide +kernel⟩ fl_X1_46 rfl rfl rfl (fun _ => rfl) (fun _ => rfl) ?_
  exact AW_vret dX1_init_86 rfl (by decide) (by decide) ⟨rfl, rfl, rfl⟩
def lz_50 (z : xZ) : xZ := (wR (nz (wR (nz (wR (nz (wR (nz (wR (nz (wR (nz (wR (nz (wR (nz z 51) 50 4 (some 51)) 52) 50 5 (some 52)) 53) 50 6 (some 53)) 54) 50 7 (some 54)) 55) 50 8 (some 55)) 56) 50 9 (some 56)) 57) 50 10 (some 57)) 58) 50 11 (some 58))
def lw_50 (v : xS) : xS := (nv (nv (nv (nv (nv (nv (nv (nv (wV (wV (wV (wV v 50 0 (nI 0)) 50 1 (nI 0)) 50 2 (nI 0)) 50 3 (nI 0)) 51) 52) 53) 54) 55) 56) 57) 58)
theorem zc_lz_50 {z : xZ} (hz : Zc z) (ha : 50 ∈ z.1) : Zc (lz_50 z) := (wR_Zc (nz_Zc (wR_Zc (nz_Zc (wR_Zc (nz_Zc (wR_Zc (nz_Zc (wR_Zc (nz_Zc (wR_Zc (nz_Zc (wR_Zc (nz_Zc (wR_Zc (nz_Zc hz) (by simp [mem_nz, mem_wR]))) (by simp [mem_nz, mem_wR]))) (by simp [mem_nz, mem_wR]))) (by simp [mem_nz, mem_wR]))) (by simp [mem_nz, mem_wR]))) (by simp [mem_nz, mem_wR]))) (by simp [mem_nz, mem_wR]))) (by simp [mem_nz, mem_wR]))
set_option maxRecDepth 100000 in
set_option maxHeartbeats 8000000 in
theorem oc_X1_50 {G : xG} {d : Nat} {z : xZ} {v : xS} (hz : Zc z) (ha : 50 ∈ z.1) (h1 : 51 ∉ z.1) (h2 : 52 ∉ z.1) (h3 : 53 ∉ z.1) (h4 : 54 ∉ z.1) (h5 : 55 ∉ z.1) (h6 : 56 ∉ z.1) (h7 : 57 ∉ z.1) (h8 : 58 ∉ z.1) : Ok G (d + 1) 8 862 yX1_init cX1_init 1 none [.ref 50] z v (fun r z1 v1 => r = none ∧ z1 = lz_50 z ∧ v1 = lw_50 v) := by
  refine Ok_of (own := RX1) (by decide) rfl (Nat.le_of_ble_eq_true rfl) ?_
  show AW G (d + 1) 8 862 yX1_init cX1_init 1 none RX1 0 0 0 [some (.ref 50)] [] z v _
  refine AW_aload_n dX1_init_0 rfl rfl ?_
  refine AW_objInit dX1_init_1 ml_X1_3 w_oi w_oc (Nat.succ_pos _) (by decide) ?_
  refine AW_aload_n dX1_init_4 rfl rfl ?_
  refine AW_iconst (x := nI 0) dX1_init_5 (by decide) ?_
  refine AW_putI (c := 1) (k := 0) dX1_init_6 ⟨(by simp [mem_nz, mem_wR, ha]), by decide +kernel⟩ fl_X1_9 rfl (by decide) (by decide) ?_
  refine AW_aload_n dX1_init_9 rfl rfl ?_
  refine AW_iconst (x := nI 0) dX1_init_10 (by decide) ?_
  refine AW_putI (c := 1) (k := 1) dX1_init_11 ⟨(by simp [mem_nz, mem_wR, ha]), by decide +kernel⟩ fl_X1_15 rfl (by decide) (by decide) ?_
  refine AW_aload_n dX1_init_14 rfl rfl ?_
  refine AW_iconst (x := nI 0) dX1_init_15 (by decide) ?_
  refine AW_putI (c := 1) (k := 2) dX1_init_16 ⟨(by simp [mem_nz, mem_wR, ha]), by decide +kernel⟩ fl_X1_18 rfl (by decide) (by decide) ?_
  refine AW_aload_n dX1_init_19 rfl rfl ?_
  refine AW_iconst (x := nI 0) dX1_init_20 (by decide) ?_
  refine AW_putI (c := 1) (k := 3) dX1_init_21 ⟨(by simp [mem_nz, mem_wR, ha]), by decide +kernel⟩ fl_X1_21 rfl (by decide) (by decide) ?_
  refine AW_aload_n dX1_init_24 rfl rfl ?_
  refine AW_bipush (x := nI 10) dX1_init_25 (by decide) ?_
  refine AW_newI (a := 51) (n := 10) dX1_init_27 (by decide +kernel) rfl (by decide) w_ai (by simp [mem_nz, mem_wR, h1, h2, h3, h4, h5, h6, h7, h8]) hz (by unfold nst; decide) (by constructor <;> simp) (by decide) (by decide) ?_
  refine AW_putFR (c := 1) (k := 4) dX1_init_29 ⟨(by simp [mem_nz, mem_wR, ha]), by decide +kernel⟩ fl_X1_24 rfl rfl rfl (fun _ => rfl) (fun _ => rfl) ?_
  refine AW_aload_n dX1_init_32 rfl rfl ?_
  refine AW_iconst (x := nI 3) dX1_init_33 (by decide) ?_
  refine AW_newI (a := 52) (n := 3) dX1_init_34 (by decide +kernel) rfl (by decide) w_ai (by simp [mem_nz, mem_wR, h1, h2, h3, h4, h5, h6, h7, h8]) (wR_Zc (nz_Zc hz) (by simp [mem_nz, mem_wR])) (by unfold nst; decide) (by constructor <;> simp) (by decide) (by decide) ?_
  refine AW_putFR (c := 1) (k := 5) dX1_init_36 ⟨(by simp [mem_nz, mem_wR, ha]), by decide +kernel⟩ fl_X1_28 rfl rfl rfl (fun _ => rfl) (fun _ => rfl) ?_
  refine AW_aload_n dX1_init_39 rfl rfl ?_
  refine AW_iconst (x := nI 3) dX1_init_40 (by decide) ?_
  refine AW_newI (a := 53) (n := 3) dX1_init_41 (by decide +kernel) rfl (by decide) w_ai (by simp [mem_nz, mem_wR, h1, h2, h3, h4, h5, h6, h7, h8]) (wR_Zc (nz_Zc (wR_Zc (nz_Zc hz) (by simp [mem_nz, mem_wR]))) (by simp [mem_nz, mem_wR])) (by unfold nst; decide) (by constructor <;> simp) (by decide) (by decide) ?_
  refine AW_putFR (c := 1) (k := 6) dX1_init_43 ⟨(by simp [mem_nz, mem_wR, ha]), by decide +kernel⟩ fl_X1_31 rfl rfl rfl (fun _ => rfl) (fun _ => rfl) ?_
  refine AW_aload_n dX1_init_46 rfl rfl ?_
  refine AW_iconst (x := nI 3) dX1_init_47 (by decide) ?_
  refine AW_newI (a := 54) (n := 3) dX1_init_48 (by decide +kernel) rfl (by decide) w_ai (by simp [mem_nz, mem_wR, h1, h2, h3, h4, h5, h6, h7, h8]) (wR_Zc (nz_Zc (wR_Zc (nz_Zc (wR_Zc (nz_Zc hz) (by simp [mem_nz, mem_wR]))) (by simp [mem_nz, mem_wR]))) (by simp [mem_nz, mem_wR])) (by unfold nst; decide) (by constructor <;> simp) (by decide) (by decide) ?_
  refine AW_putFR (c := 1) (k := 7) dX1_init_50 ⟨(by simp [mem_nz, mem_wR, ha]), by decide +kernel⟩ fl_X1_34 rfl rfl rfl (fun _ => rfl) (fun _ => rfl) ?_
  refine AW_aload_n dX1_init_53 rfl rfl ?_
  refine AW_iconst (x := nI 3) dX1_init_54 (by decide) ?_
  refine AW_newI (a := 55) (n := 3) dX1_init_55 (by decide +kernel) rfl (by decide) w_ai (by simp [mem_nz, mem_wR, h1, h2, h3, h4, h5, h6, h7, h8]) (wR_Zc (nz_Zc (wR_Zc (nz_Zc (wR_Zc (nz_Zc (wR_Zc (nz_Zc hz) (by simp [mem_nz, mem_wR]))) (by simp [mem_nz, mem_wR]))) (by simp [mem_nz, mem_wR]))) (by simp [mem_nz, mem_wR])) (by unfold nst; decide) (by constructor <;> simp) (by decide) (by decide) ?_
  refine AW_putFR (c := 1) (k := 8) dX1_init_57 ⟨(by simp [mem_nz, mem_wR, ha]), by decide +kernel⟩ fl_X1_37 rfl rfl rfl (fun _ => rfl) (fun _ => rfl) ?_
  refine AW_aload_n dX1_init_60 rfl rfl ?_
  refine AW_bipush (x := nI 60) dX1_init_61 (by decide) ?_
  refine AW_newI (a := 56) (n := 60) dX1_init_63 (by decide +kernel) rfl (by decide) w_ai (by simp [mem_nz, mem_wR, h1, h2, h3, h4, h5, h6, h7, h8]) (wR_Zc (nz_Zc (wR_Zc (nz_Zc (wR_Zc (nz_Zc (wR_Zc (nz_Zc (wR_Zc (nz_Zc hz) (by simp [mem_nz, mem_wR]))) (by simp [mem_nz, mem_wR]))) (by simp [mem_nz, mem_wR]))) (by simp [mem_nz, mem_wR]))) (by simp [mem_nz, mem_wR])) (by unfold nst; decide) (by constructor <;> simp) (by decide) (by decide) ?_
  refine AW_putFR (c := 1) (k := 9) dX1_init_65 ⟨(by simp [mem_nz, mem_wR, ha]), by decide +kernel⟩ fl_X1_40 rfl rfl rfl (fun _ => rfl) (fun _ => rfl) ?_
  refine AW_aload_n dX1_init_68 rfl rfl ?_
  refine AW_sipush (x := nI 600) dX1_init_69 (by decide) ?_
  refine AW_newI (a := 57) (n := 600) dX1_init_72 (by decide +kernel) rfl (by decide) w_ai (by simp [mem_nz, mem_wR, h1, h2, h3, h4, h5, h6, h7, h8]) (wR_Zc (nz_Zc (wR_Zc (nz_Zc (wR_Zc (nz_Zc (wR_Zc (nz_Zc (wR_Zc (nz_Zc (wR_Zc (nz_Zc hz) (by simp [mem_nz, mem_wR]))) (by simp [mem_nz, mem_wR]))) (by simp [mem_nz, mem_wR]))) (by simp [mem_nz, mem_wR]))) (by simp [mem_nz, mem_wR]))) (by simp [mem_nz, mem_wR])) (by unfold nst; decide) (by constructor <;> simp) (by decide) (by decide) ?_
  refine AW_putFR (c := 1) (k := 10) dX1_init_74 ⟨(by simp [mem_nz, mem_wR, ha]), by decide +kernel⟩ fl_X1_43 rfl rfl rfl (fun _ => rfl) (fun _ => rfl) ?_
  refine AW_aload_n dX1_init_77 rfl rfl ?_
  refine AW_sipush (x := nI 180) dX1_init_78 (by decide) ?_
  refine AW_newI (a := 58) (n := 180) dX1_init_81 (by decide +kernel) rfl (by decide) w_ai (by simp [mem_nz, mem_wR, h1, h2, h3, h4, h5, h6, h7, h8]) (wR_Zc (nz_Zc (wR_Zc (nz_Zc (wR_Zc (nz_Zc (wR_Zc (nz_Zc (wR_Zc (nz_Zc (wR_Zc (nz_Zc (wR_Zc (nz_Zc hz) (by simp [mem_nz, mem_wR]))) (by simp [mem_nz, mem_wR]))) (by simp [mem_nz, mem_wR]))) (by simp [mem_nz, mem_wR]))) (by simp [mem_nz, mem_wR]))) (by simp [mem_nz, mem_wR]))) (by simp [mem_nz, mem_wR])) (by unfold nst; decide) (by constructor <;> simp) (by decide) (by decide) ?_
  refine AW_putFR (c := 1) (k := 11) dX1_init_83 ⟨(by simp [mem_nz, mem_wR, ha]), by decide +kernel⟩ fl_X1_46 rfl rfl rfl (fun _ => rfl) (fun _ => rfl) ?_
  exact AW_vret dX1_init_86 rfl (by decide) (by decide) ⟨rfl, rfl, rfl⟩
def lz_60 (z : xZ) : xZ := (wR (nz (wR (nz (wR (nz (wR (nz (wR (nz (wR (nz (wR (nz (wR (nz z 61) 60 4 (some 61)) 62) 60 5 (some 62)) 63) 60 6 (some 63)) 64) 60 7 (some 64)) 65) 60 8 (some 65)) 66) 60 9 (some 66)) 67) 60 10 (some 67)) 68) 60 11 (some 68))
def lw_60 (v : xS) : xS := (nv (nv (nv (nv (nv (nv (nv (nv (wV (wV (wV (wV v 60 0 (nI 0)) 60 1 (nI 0)) 60 2 (nI 0)) 60 3 (nI 0)) 61) 62) 63) 64) 65) 66) 67) 68)
theorem zc_lz_60 {z : xZ} (hz : Zc z) (ha : 60 ∈ z.1) : Zc (lz_60 z) := (wR_Zc (nz_Zc (wR_Zc (nz_Zc (wR_Zc (nz_Zc (wR_Zc (nz_Zc (wR_Zc (nz_Zc (wR_Zc (nz_Zc (wR_Zc (nz_Zc (wR_Zc (nz_Zc hz) (by simp [mem_nz, mem_wR]))) (by simp [mem_nz, mem_wR]))) (by simp [mem_nz, mem_wR]))) (by simp [mem_nz, mem_wR]))) (by simp [mem_nz, mem_wR]))) (by simp [mem_nz, mem_wR]))) (by simp [mem_nz, mem_wR]))) (by simp [mem_nz, mem_wR]))
set_option maxRecDepth 100000 in
set_option maxHeartbeats 8000000 in
theorem oc_X1_60 {G : xG} {d : Nat} {z : xZ} {v : xS} (hz : Zc z) (ha : 60 ∈ z.1) (h1 : 61 ∉ z.1) (h2 : 62 ∉ z.1) (h3 : 63 ∉ z.1) (h4 : 64 ∉ z.1) (h5 : 65 ∉ z.1) (h6 : 66 ∉ z.1) (h7 : 67 ∉ z.1) (h8 : 68 ∉ z.1) : Ok G (d + 1) 8 862 yX1_init cX1_init 1 none [.ref 60] z v (fun r z1 v1 => r = none ∧ z1 = lz_60 z ∧ v1 = lw_60 v) := by
  refine Ok_of (own := RX1) (by decide) rfl (Nat.le_of_ble_eq_true rfl) ?_
  show AW G (d + 1) 8 862 yX1_init cX1_init 1 none RX1 0 0 0 [some (.ref 60)] [] z v _
  refine AW_aload_n dX1_init_0 rfl rfl ?_
  refine AW_objInit dX1_init_1 ml_X1_3 w_oi w_oc (Nat.succ_pos _) (by decide) ?_
  refine AW_aload_n dX1_init_4 rfl rfl ?_
  refine AW_iconst (x := nI 0) dX1_init_5 (by decide) ?_
  refine AW_putI (c := 1) (k := 0) dX1_init_6 ⟨(by simp [mem_nz, mem_wR, ha]), by decide +kernel⟩ fl_X1_9 rfl (by decide) (by decide) ?_
  refine AW_aload_n dX1_init_9 rfl rfl ?_
  refine AW_iconst (x := nI 0) dX1_init_10 (by decide) ?_
  refine AW_putI (c := 1) (k := 1) dX1_init_11 ⟨(by simp [mem_nz, mem_wR, ha]), by decide +kernel⟩ fl_X1_15 rfl (by decide) (by decide) ?_
  refine AW_aload_n dX1_init_14 rfl rfl ?_
  refine AW_iconst (x := nI 0) dX1_init_15 (by decide) ?_
  refine AW_putI (c := 1) (k := 2) dX1_init_16 ⟨(by simp [mem_nz, mem_wR, ha]), by decide +kernel⟩ fl_X1_18 rfl (by decide) (by decide) ?_
  refine AW_aload_n dX1_init_19 rfl rfl ?_
  refine AW_iconst (x := nI 0) dX1_init_20 (by decide) ?_
  refine AW_putI (c := 1) (k := 3) dX1_init_21 ⟨(by simp [mem_nz, mem_wR, ha]), by decide +kernel⟩ fl_X1_21 rfl (by decide) (by decide) ?_
  refine AW_aload_n dX1_init_24 rfl rfl ?_
  refine AW_bipush (x := nI 10) dX1_init_25 (by decide) ?_
  refine AW_newI (a := 61) (n := 10) dX1_init_27 (by decide +kernel) rfl (by decide) w_ai (by simp [mem_nz, mem_wR, h1, h2, h3, h4, h5, h6, h7, h8]) hz (by unfold nst; decide) (by constructor <;> simp) (by decide) (by decide) ?_
  refine AW_putFR (c := 1) (k := 4) dX1_init_29 ⟨(by simp [mem_nz, mem_wR, ha]), by decide +kernel⟩ fl_X1_24 rfl rfl rfl (fun _ => rfl) (fun _ => rfl) ?_
  refine AW_aload_n dX1_init_32 rfl rfl ?_
  refine AW_iconst (x := nI 3) dX1_init_33 (by decide) ?_
  refine AW_newI (a := 62) (n := 3) dX1_init_34 (by decide +kernel) rfl (by decide) w_ai (by simp [mem_nz, mem_wR, h1, h2, h3, h4, h5, h6, h7, h8]) (wR_Zc (nz_Zc hz) (by simp [mem_nz, mem_wR])) (by unfold nst; decide) (by constructor <;> simp) (by decide) (by decide) ?_
  refine AW_putFR (c := 1) (k := 5) dX1_init_36 ⟨(by simp [mem_nz, mem_wR, ha]), by decide +kernel⟩ fl_X1_28 rfl rfl rfl (fun _ => rfl) (fun _ => rfl) ?_
  refine AW_aload_n dX1_init_39 rfl rfl ?_
  refine AW_iconst (x := nI 3) dX1_init_40 (by decide) ?_
  refine AW_newI (a := 63) (n := 3) dX1_init_41 (by decide +kernel) rfl (by decide) w_ai (by simp [mem_nz, mem_wR, h1, h2, h3, h4, h5, h6, h7, h8]) (wR_Zc (nz_Zc (wR_Zc (nz_Zc hz) (by simp [mem_nz, mem_wR]))) (by simp [mem_nz, mem_wR])) (by unfold nst; decide) (by constructor <;> simp) (by decide) (by decide) ?_
  refine AW_putFR (c := 1) (k := 6) dX1_init_43 ⟨(by simp [mem_nz, mem_wR, ha]), by decide +kernel⟩ fl_X1_31 rfl rfl rfl (fun _ => rfl) (fun _ => rfl) ?_
  refine AW_aload_n dX1_init_46 rfl rfl ?_
  refine AW_iconst (x := nI 3) dX1_init_47 (by decide) ?_
  refine AW_newI (a := 64) (n := 3) dX1_init_48 (by decide +kernel) rfl (by decide) w_ai (by simp [mem_nz, mem_wR, h1, h2, h3, h4, h5, h6, h7, h8]) (wR_Zc (nz_Zc (wR_Zc (nz_Zc (wR_Zc (nz_Zc hz) (by simp [mem_nz, mem_wR]))) (by simp [mem_nz, mem_wR]))) (by simp [mem_nz, mem_wR])) (by unfold nst; decide) (by constructor <;> simp) (by decide) (by decide) ?_
  refine AW_putFR (c := 1) (k := 7) dX1_init_50 ⟨(by simp [mem_nz, mem_wR, ha]), by decide +kernel⟩ fl_X1_34 rfl rfl rfl (fun _ => rfl) (fun _ => rfl) ?_
  refine AW_aload_n dX1_init_53 rfl rfl ?_
  refine AW_iconst (x := nI 3) dX1_init_54 (by decide) ?_
  refine AW_newI (a := 65) (n := 3) dX1_init_55 (by decide +kernel) rfl (by decide) w_ai (by simp [mem_nz, mem_wR, h1, h2, h3, h4, h5, h6, h7, h8]) (wR_Zc (nz_Zc (wR_Zc (nz_Zc (wR_Zc (nz_Zc (wR_Zc (nz_Zc hz) (by simp [mem_nz, mem_wR]))) (by simp [mem_nz, mem_wR]))) (by simp [mem_nz, mem_wR]))) (by simp [mem_nz, mem_wR])) (by unfold nst; decide) (by constructor <;> simp) (by decide) (by decide) ?_
  refine AW_putFR (c := 1) (k := 8) dX1_init_57 ⟨(by simp [mem_nz, mem_wR, ha]), by decide +kernel⟩ fl_X1_37 rfl rfl rfl (fun _ => rfl) (fun _ => rfl) ?_
  refine AW_aload_n dX1_init_60 rfl rfl ?_
  refine AW_bipush (x := nI 60) dX1_init_61 (by decide) ?_
  refine AW_newI (a := 66) (n := 60) dX1_init_63 (by decide +kernel) rfl (by decide) w_ai (by simp [mem_nz, mem_wR, h1, h2, h3, h4, h5, h6, h7, h8]) (wR_Zc (nz_Zc (wR_Zc (nz_Zc (wR_Zc (nz_Zc (wR_Zc (nz_Zc (wR_Zc (nz_Zc hz) (by simp [mem_nz, mem_wR]))) (by simp [mem_nz, mem_wR]))) (by simp [mem_nz, mem_wR]))) (by simp [mem_nz, mem_wR]))) (by simp [mem_nz, mem_wR])) (by unfold nst; decide) (by constructor <;> simp) (by decide) (by decide) ?_
  refine AW_putFR (c := 1) (k := 9) dX1_init_65 ⟨(by simp [mem_nz, mem_wR, ha]), by decide +kernel⟩ fl_X1_40 rfl rfl rfl (fun _ => rfl) (fun _ => rfl) ?_
  refine AW_aload_n dX1_init_68 rfl rfl ?_
  refine AW_sipush (x := nI 600) dX1_init_69 (by decide) ?_
  refine AW_newI (a := 67) (n := 600) dX1_init_72 (by decide +kernel) rfl (by decide) w_ai (by simp [mem_nz, mem_wR, h1, h2, h3, h4, h5, h6, h7, h8]) (wR_Zc (nz_Zc (wR_Zc (nz_Zc (wR_Zc (nz_Zc (wR_Zc (nz_Zc (wR_Zc (nz_Zc (wR_Zc (nz_Zc hz) (by simp [mem_nz, mem_wR]))) (by simp [mem_nz, mem_wR]))) (by simp [mem_nz, mem_wR]))) (by simp [mem_nz, mem_wR]))) (by simp [mem_nz, mem_wR]))) (by simp [mem_nz, mem_wR])) (by unfold nst; decide) (by constructor <;> simp) (by decide) (by decide) ?_
  refine AW_putFR (c := 1) (k := 10) dX1_init_74 ⟨(by simp [mem_nz, mem_wR, ha]), by decide +kernel⟩ fl_X1_43 rfl rfl rfl (fun _ => rfl) (fun _ => rfl) ?_
  refine AW_aload_n dX1_init_77 rfl rfl ?_
  refine AW_sipush (x := nI 180) dX1_init_78 (by decide) ?_
  refine AW_newI (a := 68) (n := 180) dX1_init_81 (by decide +kernel) rfl (by decide) w_ai (by simp [mem_nz, mem_wR, h1, h2, h3, h4, h5, h6, h7, h8]) (wR_Zc (nz_Zc (wR_Zc (nz_Zc (wR_Zc (nz_Zc (wR_Zc (nz_Zc (wR_Zc (nz_Zc (wR_Zc (nz_Zc (wR_Zc (nz_Zc hz) (by simp [mem_nz, mem_wR]))) (by simp [mem_nz, mem_wR]))) (by simp [mem_nz, mem_wR]))) (by simp [mem_nz, mem_wR]))) (by simp [mem_nz, mem_wR]))) (by simp [mem_nz, mem_wR]))) (by simp [mem_nz, mem_wR])) (by unfold nst; decide) (by constructor <;> simp) (by decide) (by decide) ?_
  refine AW_putFR (c := 1) (k := 11) dX1_init_83 ⟨(by simp [mem_nz, mem_wR, ha]), by decide +kernel⟩ fl_X1_46 rfl rfl rfl (fun _ => rfl) (fun _ => rfl) ?_
  exact AW_vret dX1_init_86 rfl (by decide) (by decide) ⟨rfl, rfl, rfl⟩
