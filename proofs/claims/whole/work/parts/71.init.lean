/-! the constructors of a new object, by program (wip/whole/gen_init.py) -/
def zt0 : xZ := nz ([], fun _ _ => none) 0
def vt0 : xS := nv (fun _ _ => 0, fun _ _ => 0) 0
theorem zc_zt0 : Zc zt0 := nz_Zc (fun b hb => absurd hb List.not_mem_nil)
def zm1 : xZ := nz zt0 1
theorem zc_zm1 : Zc zm1 := nz_Zc zc_zt0
def vm2 : xS := nv vt0 1
def va1 : xS := wV vm2 1 0 (nI 40)
def za2 : xZ := mz zm1 2 4 6
theorem zc_za2 : Zc za2 := mz_Zc zc_zm1
def va3 : xS := mv va1 2 4 6
def za4 : xZ := wR za2 1 1 (some 2)
theorem zc_za4 : Zc za4 := wR_Zc zc_za2 (by decide +kernel)
def za5 : xZ := nz za4 3
theorem zc_za5 : Zc za5 := nz_Zc zc_za4
def va6 : xS := nv va3 3
def za7 : xZ := wR za5 1 2 (some 3)
theorem zc_za7 : Zc za7 := wR_Zc zc_za5 (by decide +kernel)
def va8 : xS := wV va6 3 0 ((-1))
def va9 : xS := wV va8 3 1 ((-1))
def va10 : xS := wV va9 3 2 ((-1))
def va11 : xS := wV va10 3 3 ((-1))
def va12 : xS := wV va11 3 4 ((-1))
def va13 : xS := wV va12 3 5 ((-1))
set_option maxRecDepth 100000 in
set_option maxHeartbeats 8000000 in
theorem oc_X4_1 {G : xG} {d : Nat} : Ok G (d + 1) 8 252 yX4_init cX4_init 4 none [.ref 1, .int (nI 6), .int (nI 40)] zm1 vm2 (fun r z1 v1 => r = none ∧ z1 = za7 ∧ v1 = va13) := by
  refine Ok_of (own := RX4) (by decide) rfl (Nat.le_of_ble_eq_true rfl) ?_
  show AW G (d + 1) 8 252 yX4_init cX4_init 4 none RX4 0 0 0 [some (.ref 1), some (.int (nI 6)), some (.int (nI 40)), none] [] zm1 vm2 _
  refine AW_aload_n dX4_init_0 rfl rfl ?_
  refine AW_objInit dX4_init_1 ml_X4_3 w_oi w_oc (Nat.succ_pos _) (by decide) ?_
  refine AW_aload_n dX4_init_4 rfl rfl ?_
  refine AW_iload_n dX4_init_5 rfl rfl ?_
  refine AW_putFI (c := 4) (k := 0) dX4_init_6 ⟨(by decide +kernel), by decide +kernel⟩ fl_X4_9 rfl rfl rfl (by decide) (by decide) ?_
  refine AW_aload_n dX4_init_9 rfl rfl ?_
  refine AW_iload_n dX4_init_10 rfl rfl ?_
  refine AW_iload_n dX4_init_11 rfl rfl ?_
  refine AW_mna (a := 2) (b := 4) (n := 6) (k := 40) dX4_init_12 cl_X4_15 (by decide +kernel) (by decide +kernel) rfl rfl (by decide) (by decide) w_ai (by decide +kernel) (by decide +kernel) (by decide) zc_zm1 (by unfold nst; decide) (by unfold nst; decide) (live_of (by decide +kernel)) (by decide) (by decide) ?_
  refine AW_putFR (c := 4) (k := 1) dX4_init_16 ⟨(by decide +kernel), by decide +kernel⟩ fl_X4_17 rfl rfl rfl (fun _ => rfl) (fun _ => rfl) ?_
  refine AW_aload_n dX4_init_19 rfl rfl ?_
  refine AW_iload_n dX4_init_20 rfl rfl ?_
  refine AW_newI (a := 3) (n := 6) dX4_init_21 (by decide +kernel) rfl (by decide) w_ai (by decide +kernel) zc_za4 (by unfold nst; decide) (by constructor <;> simp) (by decide) (by decide) ?_
  refine AW_putFR (c := 4) (k := 2) dX4_init_23 ⟨(by decide +kernel), by decide +kernel⟩ fl_X4_20 rfl rfl rfl (fun _ => rfl) (fun _ => rfl) ?_
  refine AW_iconst (x := nI 0) dX4_init_26 (by decide) ?_
  refine AW_istore_n (L' := [some (.ref 1), some (.int (nI 6)), some (.int (nI 40)), some (.int (nI 0))]) dX4_init_27 rfl (by decide) rfl ?_
  refine AW_iload_n dX4_init_28 rfl rfl ?_
  refine AW_iload_n dX4_init_29 rfl rfl ?_
  refine AW_icmp_ge (tgt := 46) dX4_init_30 (by decide) (fun h => absurd h (by decide)) (fun _ => ?_)
  refine AW_aload_n dX4_init_33 rfl rfl ?_
  refine AW_getR (c := 4) (k := 2) (b := 3) dX4_init_34 ⟨(by decide +kernel), by decide +kernel⟩ fl_X4_20 (by decide +kernel) ?_
  refine AW_iload_n dX4_init_37 rfl rfl ?_
  refine AW_iconst (x := (-1)) dX4_init_38 (by decide) ?_
  refine AW_iast (a := 3) (n := 6) dX4_init_39 ⟨(by decide +kernel), by decide +kernel⟩ (vpN (by decide) (by decide)) ?_
  rw [clN (by decide)]
  refine AW_iinc (x' := nI 1) (L' := [some (.ref 1), some (.int (nI 6)), some (.int (nI 40)), some (.int (nI 1))]) dX4_init_40 rfl (by decide) (by decide) rfl ?_
  refine AW_goto (tgt := 28) dX4_init_43 (by decide) ?_
  refine AW_iload_n dX4_init_28 rfl rfl ?_
  refine AW_iload_n dX4_init_29 rfl rfl ?_
  refine AW_icmp_ge (tgt := 46) dX4_init_30 (by decide) (fun h => absurd h (by decide)) (fun _ => ?_)
  refine AW_aload_n dX4_init_33 rfl rfl ?_
  refine AW_getR (c := 4) (k := 2) (b := 3) dX4_init_34 ⟨(by decide +kernel), by decide +kernel⟩ fl_X4_20 (by decide +kernel) ?_
  refine AW_iload_n dX4_init_37 rfl rfl ?_
  refine AW_iconst (x := (-1)) dX4_init_38 (by decide) ?_
  refine AW_iast (a := 3) (n := 6) dX4_init_39 ⟨(by decide +kernel), by decide +kernel⟩ (vpN (by decide) (by decide)) ?_
  rw [clN (by decide)]
  refine AW_iinc (x' := nI 2) (L' := [some (.ref 1), some (.int (nI 6)), some (.int (nI 40)), some (.int (nI 2))]) dX4_init_40 rfl (by decide) (by decide) rfl ?_
  refine AW_goto (tgt := 28) dX4_init_43 (by decide) ?_
  refine AW_iload_n dX4_init_28 rfl rfl ?_
  refine AW_iload_n dX4_init_29 rfl rfl ?_
  refine AW_icmp_ge (tgt := 46) dX4_init_30 (by decide) (fun h => absurd h (by decide)) (fun _ => ?_)
  refine AW_aload_n dX4_init_33 rfl rfl ?_
  refine AW_getR (c := 4) (k := 2) (b := 3) dX4_init_34 ⟨(by decide +kernel), by decide +kernel⟩ fl_X4_20 (by decide +kernel) ?_
  refine AW_iload_n dX4_init_37 rfl rfl ?_
  refine AW_iconst (x := (-1)) dX4_init_38 (by decide) ?_
  refine AW_iast (a := 3) (n := 6) dX4_init_39 ⟨(by decide +kernel), by decide +kernel⟩ (vpN (by decide) (by decide)) ?_
  rw [clN (by decide)]
  refine AW_iinc (x' := nI 3) (L' := [some (.ref 1), some (.int (nI 6)), some (.int (nI 40)), some (.int (nI 3))]) dX4_init_40 rfl (by decide) (by decide) rfl ?_
  refine AW_goto (tgt := 28) dX4_init_43 (by decide) ?_
  refine AW_iload_n dX4_init_28 rfl rfl ?_
  refine AW_iload_n dX4_init_29 rfl rfl ?_
  refine AW_icmp_ge (tgt := 46) dX4_init_30 (by decide) (fun h => absurd h (by decide)) (fun _ => ?_)
  refine AW_aload_n dX4_init_33 rfl rfl ?_
  refine AW_getR (c := 4) (k := 2) (b := 3) dX4_init_34 ⟨(by decide +kernel), by decide +kernel⟩ fl_X4_20 (by decide +kernel) ?_
  refine AW_iload_n dX4_init_37 rfl rfl ?_
  refine AW_iconst (x := (-1)) dX4_init_38 (by decide) ?_
  refine AW_iast (a := 3) (n := 6) dX4_init_39 ⟨(by decide +kernel), by decide +kernel⟩ (vpN (by decide) (by decide)) ?_
  rw [clN (by decide)]
  refine AW_iinc (x' := nI 4) (L' := [some (.ref 1), some (.int (nI 6)), some (.int (nI 40)), some (.int (nI 4))]) dX4_init_40 rfl (by decide) (by decide) rfl ?_
  refine AW_goto (tgt := 28) dX4_init_43 (by decide) ?_
  refine AW_iload_n dX4_init_28 rfl rfl ?_
  refine AW_iload_n dX4_init_29 rfl rfl ?_
  refine AW_icmp_ge (tgt := 46) dX4_init_30 (by decide) (fun h => absurd h (by decide)) (fun _ => ?_)
  refine AW_aload_n dX4_init_33 rfl rfl ?_
  refine AW_getR (c := 4) (k := 2) (b := 3) dX4_init_34 ⟨(by decide +kernel), by decide +kernel⟩ fl_X4_20 (by decide +kernel) ?_
  refine AW_iload_n dX4_init_37 rfl rfl ?_
  refine AW_iconst (x := (-1)) dX4_init_38 (by decide) ?_
  refine AW_iast (a := 3) (n := 6) dX4_init_39 ⟨(by decide +kernel), by decide +kernel⟩ (vpN (by decide) (by decide)) ?_
  rw [clN (by decide)]
  refine AW_iinc (x' := nI 5) (L' := [some (.ref 1), some (.int (nI 6)), some (.int (nI 40)), some (.int (nI 5))]) dX4_init_40 rfl (by decide) (by decide) rfl ?_
  refine AW_goto (tgt := 28) dX4_init_43 (by decide) ?_
  refine AW_iload_n dX4_init_28 rfl rfl ?_
  refine AW_iload_n dX4_init_29 rfl rfl ?_
  refine AW_icmp_ge (tgt := 46) dX4_init_30 (by decide) (fun h => absurd h (by decide)) (fun _ => ?_)
  refine AW_aload_n dX4_init_33 rfl rfl ?_
  refine AW_getR (c := 4) (k := 2) (b := 3) dX4_init_34 ⟨(by decide +kernel), by decide +kernel⟩ fl_X4_20 (by decide +kernel) ?_
  refine AW_iload_n dX4_init_37 rfl rfl ?_
  refine AW_iconst (x := (-1)) dX4_init_38 (by decide) ?_
  refine AW_iast (a := 3) (n := 6) dX4_init_39 ⟨(by decide +kernel), by decide +kernel⟩ (vpN (by decide) (by decide)) ?_
  rw [clN (by decide)]
  refine AW_iinc (x' := nI 6) (L' := [some (.ref 1), some (.int (nI 6)), some (.int (nI 40)), some (.int (nI 6))]) dX4_init_40 rfl (by decide) (by decide) rfl ?_
  refine AW_goto (tgt := 28) dX4_init_43 (by decide) ?_
  refine AW_iload_n dX4_init_28 rfl rfl ?_
  refine AW_iload_n dX4_init_29 rfl rfl ?_
  refine AW_icmp_ge (tgt := 46) dX4_init_30 (by decide) (fun _ => ?_) (fun h => absurd (by decide) h)
  exact AW_vret dX4_init_46 rfl (by decide) (by decide) ⟨rfl, rfl, rfl⟩
def zm3 : xZ := wR za7 0 0 (some 1)
theorem zc_zm3 : Zc zm3 := wR_Zc zc_za7 (by decide +kernel)
def zm4 : xZ := nz zm3 10
theorem zc_zm4 : Zc zm4 := nz_Zc zc_zm3
def vm5 : xS := nv va13 10
def vb1 : xS := wV vm5 10 0 (nI 80)
def zb2 : xZ := mz zm4 11 13 4
theorem zc_zb2 : Zc zb2 := mz_Zc zc_zm4
def vb3 : xS := mv vb1 11 13 4
def zb4 : xZ := wR zb2 10 1 (some 11)
theorem zc_zb4 : Zc zb4 := wR_Zc zc_zb2 (by decide +kernel)
def zb5 : xZ := nz zb4 12
theorem zc_zb5 : Zc zb5 := nz_Zc zc_zb4
def vb6 : xS := nv vb3 12
def zb7 : xZ := wR zb5 10 2 (some 12)
theorem zc_zb7 : Zc zb7 := wR_Zc zc_zb5 (by decide +kernel)
def vb8 : xS := wV vb6 12 0 ((-1))
def vb9 : xS := wV vb8 12 1 ((-1))
def vb10 : xS := wV vb9 12 2 ((-1))
def vb11 : xS := wV vb10 12 3 ((-1))
set_option maxRecDepth 100000 in
set_option maxHeartbeats 8000000 in
theorem oc_X4_10 {G : xG} {d : Nat} : Ok G (d + 1) 6 328 yX4_init cX4_init 4 none [.ref 10, .int (nI 4), .int (nI 80)] zm4 vm5 (fun r z1 v1 => r = none ∧ z1 = zb7 ∧ v1 = vb11) := by
  refine Ok_of (own := RX4) (by decide) rfl (Nat.le_of_ble_eq_true rfl) ?_
  show AW G (d + 1) 6 328 yX4_init cX4_init 4 none RX4 0 0 0 [some (.ref 10), some (.int (nI 4)), some (.int (nI 80)), none] [] zm4 vm5 _
  refine AW_aload_n dX4_init_0 rfl rfl ?_
  refine AW_objInit dX4_init_1 ml_X4_3 w_oi w_oc (Nat.succ_pos _) (by decide) ?_
  refine AW_aload_n dX4_init_4 rfl rfl ?_
  refine AW_iload_n dX4_init_5 rfl rfl ?_
  refine AW_putFI (c := 4) (k := 0) dX4_init_6 ⟨(by decide +kernel), by decide +kernel⟩ fl_X4_9 rfl rfl rfl (by decide) (by decide) ?_
  refine AW_aload_n dX4_init_9 rfl rfl ?_
  refine AW_iload_n dX4_init_10 rfl rfl ?_
  refine AW_iload_n dX4_init_11 rfl rfl ?_
  refine AW_mna (a := 11) (b := 13) (n := 4) (k := 80) dX4_init_12 cl_X4_15 (by decide +kernel) (by decide +kernel) rfl rfl (by decide) (by decide) w_ai (by decide +kernel) (by decide +kernel) (by decide) zc_zm4 (by unfold nst; decide) (by unfold nst; decide) (live_of (by decide +kernel)) (by decide) (by decide) ?_
  refine AW_putFR (c := 4) (k := 1) dX4_init_16 ⟨(by decide +kernel), by decide +kernel⟩ fl_X4_17 rfl rfl rfl (fun _ => rfl) (fun _ => rfl) ?_
  refine AW_aload_n dX4_init_19 rfl rfl ?_
  refine AW_iload_n dX4_init_20 rfl rfl ?_
  refine AW_newI (a := 12) (n := 4) dX4_init_21 (by decide +kernel) rfl (by decide) w_ai (by decide +kernel) zc_zb4 (by unfold nst; decide) (by constructor <;> simp) (by decide) (by decide) ?_
  refine AW_putFR (c := 4) (k := 2) dX4_init_23 ⟨(by decide +kernel), by decide +kernel⟩ fl_X4_20 rfl rfl rfl (fun _ => rfl) (fun _ => rfl) ?_
  refine AW_iconst (x := nI 0) dX4_init_26 (by decide) ?_
  refine AW_istore_n (L' := [some (.ref 10), some (.int (nI 4)), some (.int (nI 80)), some (.int (nI 0))]) dX4_init_27 rfl (by decide) rfl ?_
  refine AW_iload_n dX4_init_28 rfl rfl ?_
  refine AW_iload_n dX4_init_29 rfl rfl ?_
  refine AW_icmp_ge (tgt := 46) dX4_init_30 (by decide) (fun h => absurd h (by decide)) (fun _ => ?_)
  refine AW_aload_n dX4_init_33 rfl rfl ?_
  refine AW_getR (c := 4) (k := 2) (b := 12) dX4_init_34 ⟨(by decide +kernel), by decide +kernel⟩ fl_X4_20 (by decide +kernel) ?_
  refine AW_iload_n dX4_init_37 rfl rfl ?_
  refine AW_iconst (x := (-1)) dX4_init_38 (by decide) ?_
  refine AW_iast (a := 12) (n := 4) dX4_init_39 ⟨(by decide +kernel), by decide +kernel⟩ (vpN (by decide) (by decide)) ?_
  rw [clN (by decide)]
  refine AW_iinc (x' := nI 1) (L' := [some (.ref 10), some (.int (nI 4)), some (.int (nI 80)), some (.int (nI 1))]) dX4_init_40 rfl (by decide) (by decide) rfl ?_
  refine AW_goto (tgt := 28) dX4_init_43 (by decide) ?_
  refine AW_iload_n dX4_init_28 rfl rfl ?_
  refine AW_iload_n dX4_init_29 rfl rfl ?_
  refine AW_icmp_ge (tgt := 46) dX4_init_30 (by decide) (fun h => absurd h (by decide)) (fun _ => ?_)
  refine AW_aload_n dX4_init_33 rfl rfl ?_
  refine AW_getR (c := 4) (k := 2) (b := 12) dX4_init_34 ⟨(by decide +kernel), by decide +kernel⟩ fl_X4_20 (by decide +kernel) ?_
  refine AW_iload_n dX4_init_37 rfl rfl ?_
  refine AW_iconst (x := (-1)) dX4_init_38 (by decide) ?_
  refine AW_iast (a := 12) (n := 4) dX4_init_39 ⟨(by decide +kernel), by decide +kernel⟩ (vpN (by decide) (by decide)) ?_
  rw [clN (by decide)]
  refine AW_iinc (x' := nI 2) (L' := [some (.ref 10), some (.int (nI 4)), some (.int (nI 80)), some (.int (nI 2))]) dX4_init_40 rfl (by decide) (by decide) rfl ?_
  refine AW_goto (tgt := 28) dX4_init_43 (by decide) ?_
  refine AW_iload_n dX4_init_28 rfl rfl ?_
  refine AW_iload_n dX4_init_29 rfl rfl ?_
  refine AW_icmp_ge (tgt := 46) dX4_init_30 (by decide) (fun h => absurd h (by decide)) (fun _ => ?_)
  refine AW_aload_n dX4_init_33 rfl rfl ?_
  refine AW_getR (c := 4) (k := 2) (b := 12) dX4_init_34 ⟨(by decide +kernel), by decide +kernel⟩ fl_X4_20 (by decide +kernel) ?_
  refine AW_iload_n dX4_init_37 rfl rfl ?_
  refine AW_iconst (x := (-1)) dX4_init_38 (by decide) ?_
  refine AW_iast (a := 12) (n := 4) dX4_init_39 ⟨(by decide +kernel), by decide +kernel⟩ (vpN (by decide) (by decide)) ?_
  rw [clN (by decide)]
  refine AW_iinc (x' := nI 3) (L' := [some (.ref 10), some (.int (nI 4)), some (.int (nI 80)), some (.int (nI 3))]) dX4_init_40 rfl (by decide) (by decide) rfl ?_
  refine AW_goto (tgt := 28) dX4_init_43 (by decide) ?_
  refine AW_iload_n dX4_init_28 rfl rfl ?_
  refine AW_iload_n dX4_init_29 rfl rfl ?_
  refine AW_icmp_ge (tgt := 46) dX4_init_30 (by decide) (fun h => absurd h (by decide)) (fun _ => ?_)
  refine AW_aload_n dX4_init_33 rfl rfl ?_
  refine AW_getR (c := 4) (k := 2) (b := 12) dX4_init_34 ⟨(by decide +kernel), by decide +kernel⟩ fl_X4_20 (by decide +kernel) ?_
  refine AW_iload_n dX4_init_37 rfl rfl ?_
  refine AW_iconst (x := (-1)) dX4_init_38 (by decide) ?_
  refine AW_iast (a := 12) (n := 4) dX4_init_39 ⟨(by decide +kernel), by decide +kernel⟩ (vpN (by decide) (by decide)) ?_
  rw [clN (by decide)]
  refine AW_iinc (x' := nI 4) (L' := [some (.ref 10), some (.int (nI 4)), some (.int (nI 80)), some (.int (nI 4))]) dX4_init_40 rfl (by decide) (by decide) rfl ?_
  refine AW_goto (tgt := 28) dX4_init_43 (by decide) ?_
  refine AW_iload_n dX4_init_28 rfl rfl ?_
  refine AW_iload_n dX4_init_29 rfl rfl ?_
  refine AW_icmp_ge (tgt := 46) dX4_init_30 (by decide) (fun _ => ?_) (fun h => absurd (by decide) h)
  exact AW_vret dX4_init_46 rfl (by decide) (by decide) ⟨rfl, rfl, rfl⟩
def zm6 : xZ := wR zb7 0 1 (some 10)
theorem zc_zm6 : Zc zm6 := wR_Zc zc_zb7 (by decide +kernel)
def zm7 : xZ := nz zm6 20
theorem zc_zm7 : Zc zm7 := nz_Zc zc_zm6
def vm8 : xS := nv vb11 20
def zc1 : xZ := nz zm7 21
theorem zc_zc1 : Zc zc1 := nz_Zc zc_zm7
def vc2 : xS := nv vm8 21
def zc3 : xZ := wR zc1 20 0 (some 21)
theorem zc_zc3 : Zc zc3 := wR_Zc zc_zc1 (by decide +kernel)
def zc4 : xZ := nz zc3 22
theorem zc_zc4 : Zc zc4 := nz_Zc zc_zc3
def vc5 : xS := nv vc2 22
def zc6 : xZ := wR zc4 20 1 (some 22)
theorem zc_zc6 : Zc zc6 := wR_Zc zc_zc4 (by decide +kernel)
def zc7 : xZ := nz zc6 23
theorem zc_zc7 : Zc zc7 := nz_Zc zc_zc6
def vc8 : xS := nv vc5 23
def zc9 : xZ := wR zc7 20 2 (some 23)
theorem zc_zc9 : Zc zc9 := wR_Zc zc_zc7 (by decide +kernel)
def zc10 : xZ := nz zc9 24
theorem zc_zc10 : Zc zc10 := nz_Zc zc_zc9
def vc11 : xS := nv vc8 24
def zc12 : xZ := wR zc10 20 3 (some 24)
theorem zc_zc12 : Zc zc12 := wR_Zc zc_zc10 (by decide +kernel)
def vc13 : xS := wV vc11 20 4 (nI 0)
def vc14 : xS := wV vc13 20 5 (nI 0)
set_option maxRecDepth 100000 in
set_option maxHeartbeats 8000000 in
theorem oc_X3_20 {G : xG} {d : Nat} : Ok G (d + 1) 4 19 yX3_init cX3_init 1 none [.ref 20] zm7 vm8 (fun r z1 v1 => r = none ∧ z1 = zc12 ∧ v1 = vc14) := by
  refine Ok_of (own := RX3) (by decide) rfl (Nat.le_of_ble_eq_true rfl) ?_
  show AW G (d + 1) 4 19 yX3_init cX3_init 1 none RX3 0 0 0 [some (.ref 20)] [] zm7 vm8 _
  refine AW_aload_n dX3_init_0 rfl rfl ?_
  refine AW_objInit dX3_init_1 ml_X3_3 w_oi w_oc (Nat.succ_pos _) (by decide) ?_
  refine AW_aload_n dX3_init_4 rfl rfl ?_
  refine AW_bipush (x := nI 10) dX3_init_5 (by decide) ?_
  refine AW_newI (a := 21) (n := 10) dX3_init_7 (by decide +kernel) rfl (by decide) w_ai (by decide +kernel) zc_zm7 (by unfold nst; decide) (by constructor <;> simp) (by decide) (by decide) ?_
  refine AW_putFR (c := 3) (k := 0) dX3_init_9 ⟨(by decide +kernel), by decide +kernel⟩ fl_X3_9 rfl rfl rfl (fun _ => rfl) (fun _ => rfl) ?_
  refine AW_aload_n dX3_init_12 rfl rfl ?_
  refine AW_iconst (x := nI 3) dX3_init_13 (by decide) ?_
  refine AW_newI (a := 22) (n := 3) dX3_init_14 (by decide +kernel) rfl (by decide) w_ai (by decide +kernel) zc_zc3 (by unfold nst; decide) (by constructor <;> simp) (by decide) (by decide) ?_
  refine AW_putFR (c := 3) (k := 1) dX3_init_16 ⟨(by decide +kernel), by decide +kernel⟩ fl_X3_15 rfl rfl rfl (fun _ => rfl) (fun _ => rfl) ?_
  refine AW_aload_n dX3_init_19 rfl rfl ?_
  refine AW_iconst (x := nI 3) dX3_init_20 (by decide) ?_
  refine AW_newI (a := 23) (n := 3) dX3_init_21 (by decide +kernel) rfl (by decide) w_ai (by decide +kernel) zc_zc6 (by unfold nst; decide) (by constructor <;> simp) (by decide) (by decide) ?_
  refine AW_putFR (c := 3) (k := 2) dX3_init_23 ⟨(by decide +kernel), by decide +kernel⟩ fl_X3_18 rfl rfl rfl (fun _ => rfl) (fun _ => rfl) ?_
  refine AW_aload_n dX3_init_26 rfl rfl ?_
  refine AW_iconst (x := nI 3) dX3_init_27 (by decide) ?_
  refine AW_newI (a := 24) (n := 3) dX3_init_28 (by decide +kernel) rfl (by decide) w_ai (by decide +kernel) zc_zc9 (by unfold nst; decide) (by constructor <;> simp) (by decide) (by decide) ?_
  refine AW_putFR (c := 3) (k := 3) dX3_init_30 ⟨(by decide +kernel), by decide +kernel⟩ fl_X3_21 rfl rfl rfl (fun _ => rfl) (fun _ => rfl) ?_
  refine AW_aload_n dX3_init_33 rfl rfl ?_
  refine AW_iconst (x := nI 0) dX3_init_34 (by decide) ?_
  refine AW_putI (c := 3) (k := 4) dX3_init_35 ⟨(by decide +kernel), by decide +kernel⟩ fl_X3_24 rfl (by decide) (by decide) ?_
  refine AW_aload_n dX3_init_38 rfl rfl ?_
  refine AW_iconst (x := nI 0) dX3_init_39 (by decide) ?_
  refine AW_putI (c := 3) (k := 5) dX3_init_40 ⟨(by decide +kernel), by decide +kernel⟩ fl_X3_28 rfl (by decide) (by decide) ?_
  exact AW_vret dX3_init_43 rfl (by decide) (by decide) ⟨rfl, rfl, rfl⟩
def zm9 : xZ := wR zc12 0 2 (some 20)
theorem zc_zm9 : Zc zm9 := wR_Zc zc_zc12 (by decide +kernel)
def zm10 : xZ := nz zm9 30
theorem zc_zm10 : Zc zm10 := nz_Zc zc_zm9
def vm11 : xS := nv vc14 30
def zl1 : xZ := lz_30 zm10
def vl1 : xS := lw_30 vm11
theorem zc_zl1 : Zc zl1 := zc_lz_30 zc_zm10 (by decide +kernel)
def zm12 : xZ := wR zl1 0 3 (some 30)
theorem zc_zm12 : Zc zm12 := wR_Zc zc_zl1 (by decide +kernel)
def zm13 : xZ := nz zm12 70
theorem zc_zm13 : Zc zm13 := nz_Zc zc_zm12
def vm14 : xS := nv vl1 70
def ze1 : xZ := nz zm13 71
theorem zc_ze1 : Zc ze1 := nz_Zc zc_zm13
def ve2 : xS := nv vm14 71
def ze3 : xZ := wR ze1 70 1 (some 71)
theorem zc_ze3 : Zc ze3 := wR_Zc zc_ze1 (by decide +kernel)
def ze4 : xZ := nz ze3 72
theorem zc_ze4 : Zc ze4 := nz_Zc zc_ze3
def ve5 : xS := nv ve2 72
def ze6 : xZ := wR ze4 70 2 (some 72)
theorem zc_ze6 : Zc ze6 := wR_Zc zc_ze4 (by decide +kernel)
def ze7 : xZ := mz ze6 73 74 7
theorem zc_ze7 : Zc ze7 := mz_Zc zc_ze6
def ve8 : xS := mv ve5 73 74 7
def ze9 : xZ := wR ze7 70 3 (some 73)
theorem zc_ze9 : Zc ze9 := wR_Zc zc_ze7 (by decide +kernel)
def ve10 : xS := wV ve8 70 4 (nI 0)
def ve11 : xS := wV ve10 70 5 (nI 0)
def ve12 : xS := wV ve11 70 6 (nI 0)
def ve13 : xS := wV ve12 70 7 (nI 0)
def ze14 : xZ := wR ze9 70 0 (some 30)
theorem zc_ze14 : Zc ze14 := wR_Zc zc_ze9 (by decide +kernel)
set_option maxRecDepth 100000 in
set_option maxHeartbeats 8000000 in
theorem oc_X0_70 {G : xG} {d : Nat} : Ok G (d + 1) 10 97 yX0_init cX0_init 2 none [.ref 70, .ref 30] zm13 vm14 (fun r z1 v1 => r = none ∧ z1 = ze14 ∧ v1 = ve13) := by
  refine Ok_of (own := RX0) (by decide) rfl (Nat.le_of_ble_eq_true rfl) ?_
  show AW G (d + 1) 10 97 yX0_init cX0_init 2 none RX0 0 0 0 [some (.ref 70), some (.ref 30)] [] zm13 vm14 _
  refine AW_aload_n dX0_init_0 rfl rfl ?_
  refine AW_objInit dX0_init_1 ml_X0_3 w_oi w_oc (Nat.succ_pos _) (by decide) ?_
  refine AW_aload_n dX0_init_4 rfl rfl ?_
  refine AW_bipush (x := nI 10) dX0_init_5 (by decide) ?_
  refine AW_newI (a := 71) (n := 10) dX0_init_7 (by decide +kernel) rfl (by decide) w_ai (by decide +kernel) zc_zm13 (by unfold nst; decide) (by constructor <;> simp) (by decide) (by decide) ?_
  refine AW_putFR (c := 0) (k := 1) dX0_init_9 ⟨(by decide +kernel), by decide +kernel⟩ fl_X0_9 rfl rfl rfl (fun _ => rfl) (fun _ => rfl) ?_
  refine AW_aload_n dX0_init_12 rfl rfl ?_
  refine AW_bipush (x := nI 10) dX0_init_13 (by decide) ?_
  refine AW_newI (a := 72) (n := 10) dX0_init_15 (by decide +kernel) rfl (by decide) w_ai (by decide +kernel) zc_ze3 (by unfold nst; decide) (by constructor <;> simp) (by decide) (by decide) ?_
  refine AW_putFR (c := 0) (k := 2) dX0_init_17 ⟨(by decide +kernel), by decide +kernel⟩ fl_X0_15 rfl rfl rfl (fun _ => rfl) (fun _ => rfl) ?_
  refine AW_aload_n dX0_init_20 rfl rfl ?_
  refine AW_bipush (x := nI 7) dX0_init_21 (by decide) ?_
  refine AW_bipush (x := nI 10) dX0_init_23 (by decide) ?_
  refine AW_mna (a := 73) (b := 74) (n := 7) (k := 10) dX0_init_25 cl_X0_18 (by decide +kernel) (by decide +kernel) rfl rfl (by decide) (by decide) w_ai (by decide +kernel) (by decide +kernel) (by decide) zc_ze6 (by unfold nst; decide) (by unfold nst; decide) (live_of (by decide +kernel)) (by decide) (by decide) ?_
  refine AW_putFR (c := 0) (k := 3) dX0_init_29 ⟨(by decide +kernel), by decide +kernel⟩ fl_X0_20 rfl rfl rfl (fun _ => rfl) (fun _ => rfl) ?_
  refine AW_aload_n dX0_init_32 rfl rfl ?_
  refine AW_iconst (x := nI 0) dX0_init_33 (by decide) ?_
  refine AW_putI (c := 0) (k := 4) dX0_init_34 ⟨(by decide +kernel), by decide +kernel⟩ fl_X0_23 rfl (by decide) (by decide) ?_
  refine AW_aload_n dX0_init_37 rfl rfl ?_
  refine AW_iconst (x := nI 0) dX0_init_38 (by decide) ?_
  refine AW_putI (c := 0) (k := 5) dX0_init_39 ⟨(by decide +kernel), by decide +kernel⟩ fl_X0_27 rfl (by decide) (by decide) ?_
  refine AW_aload_n dX0_init_42 rfl rfl ?_
  refine AW_iconst (x := nI 0) dX0_init_43 (by decide) ?_
  refine AW_putI (c := 0) (k := 6) dX0_init_44 ⟨(by decide +kernel), by decide +kernel⟩ fl_X0_30 rfl (by decide) (by decide) ?_
  refine AW_aload_n dX0_init_47 rfl rfl ?_
  refine AW_iconst (x := nI 0) dX0_init_48 (by decide) ?_
  refine AW_putI (c := 0) (k := 7) dX0_init_49 ⟨(by decide +kernel), by decide +kernel⟩ fl_X0_33 rfl (by decide) (by decide) ?_
  refine AW_aload_n dX0_init_52 rfl rfl ?_
  refine AW_aload_n dX0_init_53 rfl rfl ?_
  refine AW_putFR (c := 0) (k := 0) dX0_init_54 ⟨(by decide +kernel), by decide +kernel⟩ fl_X0_36 rfl rfl rfl (fun _ => rfl) (fun _ => rfl) ?_
  exact AW_vret dX0_init_57 rfl (by decide) (by decide) ⟨rfl, rfl, rfl⟩
def zm15 : xZ := wR ze14 0 4 (some 70)
theorem zc_zm15 : Zc zm15 := wR_Zc zc_ze14 (by decide +kernel)
def zm16 : xZ := nz zm15 90
theorem zc_zm16 : Zc zm16 := nz_Zc zc_zm15
def vm17 : xS := nv ve13 90
def zg1 : xZ := mz zm16 91 92 4
theorem zc_zg1 : Zc zg1 := mz_Zc zc_zm16
def vg2 : xS := mv vm17 91 92 4
def zg3 : xZ := wR zg1 90 1 (some 91)
theorem zc_zg3 : Zc zg3 := wR_Zc zc_zg1 (by decide +kernel)
def zg4 : xZ := nz zg3 96
theorem zc_zg4 : Zc zg4 := nz_Zc zc_zg3
def vg5 : xS := nv vg2 96
def zg6 : xZ := wR zg4 90 2 (some 96)
theorem zc_zg6 : Zc zg6 := wR_Zc zc_zg4 (by decide +kernel)
def zg7 : xZ := nz zg6 97
theorem zc_zg7 : Zc zg7 := nz_Zc zc_zg6
def vg8 : xS := nv vg5 97
def zg9 : xZ := wR zg7 90 3 (some 97)
theorem zc_zg9 : Zc zg9 := wR_Zc zc_zg7 (by decide +kernel)
def zg10 : xZ := nz zg9 98
theorem zc_zg10 : Zc zg10 := nz_Zc zc_zg9
def vg11 : xS := nv vg8 98
def zg12 : xZ := wR zg10 90 4 (some 98)
theorem zc_zg12 : Zc zg12 := wR_Zc zc_zg10 (by decide +kernel)
def zg13 : xZ := nz zg12 99
theorem zc_zg13 : Zc zg13 := nz_Zc zc_zg12
def vg14 : xS := nv vg11 99
def zg15 : xZ := wR zg13 90 5 (some 99)
theorem zc_zg15 : Zc zg15 := wR_Zc zc_zg13 (by decide +kernel)
def vg16 : xS := wV vg14 90 6 (nI 1000)
def vg17 : xS := wV vg16 90 7 (nI 0)
def vg18 : xS := wV vg17 90 8 (nI 0)
def vg19 : xS := wV vg18 90 9 (nI 0)
def vg20 : xS := wV vg19 90 10 (nI 0)
def vg21 : xS := wV vg20 90 11 (nI 0)
def zg22 : xZ := wR zg15 90 0 (some 30)
theorem zc_zg22 : Zc zg22 := wR_Zc zc_zg15 (by decide +kernel)
set_option maxRecDepth 100000 in
set_option maxHeartbeats 8000000 in
theorem oc_X2_90 {G : xG} {d : Nat} : Ok G (d + 1) 9 87 yX2_init cX2_init 2 none [.ref 90, .ref 30] zm16 vm17 (fun r z1 v1 => r = none ∧ z1 = zg22 ∧ v1 = vg21) := by
  refine Ok_of (own := RX2) (by decide) rfl (Nat.le_of_ble_eq_true rfl) ?_
  show AW G (d + 1) 9 87 yX2_init cX2_init 2 none RX2 0 0 0 [some (.ref 90), some (.ref 30)] [] zm16 vm17 _
  refine AW_aload_n dX2_init_0 rfl rfl ?_
  refine AW_objInit dX2_init_1 ml_X2_3 w_oi w_oc (Nat.succ_pos _) (by decide) ?_
  refine AW_aload_n dX2_init_4 rfl rfl ?_
  refine AW_iconst (x := nI 4) dX2_init_5 (by decide) ?_
  refine AW_bipush (x := nI 10) dX2_init_6 (by decide) ?_
  refine AW_mna (a := 91) (b := 92) (n := 4) (k := 10) dX2_init_8 cl_X2_9 (by decide +kernel) (by decide +kernel) rfl rfl (by decide) (by decide) w_ai (by decide +kernel) (by decide +kernel) (by decide) zc_zm16 (by unfold nst; decide) (by unfold nst; decide) (live_of (by decide +kernel)) (by decide) (by decide) ?_
  refine AW_putFR (c := 2) (k := 1) dX2_init_12 ⟨(by decide +kernel), by decide +kernel⟩ fl_X2_11 rfl rfl rfl (fun _ => rfl) (fun _ => rfl) ?_
  refine AW_aload_n dX2_init_15 rfl rfl ?_
  refine AW_bipush (x := nI 27) dX2_init_16 (by decide) ?_
  refine AW_newI (a := 96) (n := 27) dX2_init_18 (by decide +kernel) rfl (by decide) w_ai (by decide +kernel) zc_zg3 (by unfold nst; decide) (by constructor <;> simp) (by decide) (by decide) ?_
  refine AW_putFR (c := 2) (k := 2) dX2_init_20 ⟨(by decide +kernel), by decide +kernel⟩ fl_X2_16 rfl rfl rfl (fun _ => rfl) (fun _ => rfl) ?_
  refine AW_aload_n dX2_init_23 rfl rfl ?_
  refine AW_iconst (x := nI 3) dX2_init_24 (by decide) ?_
  refine AW_newI (a := 97) (n := 3) dX2_init_25 (by decide +kernel) rfl (by decide) w_ai (by decide +kernel) zc_zg6 (by unfold nst; decide) (by constructor <;> simp) (by decide) (by decide) ?_
  refine AW_putFR (c := 2) (k := 3) dX2_init_27 ⟨(by decide +kernel), by decide +kernel⟩ fl_X2_20 rfl rfl rfl (fun _ => rfl) (fun _ => rfl) ?_
  refine AW_aload_n dX2_init_30 rfl rfl ?_
  refine AW_bipush (x := nI 10) dX2_init_31 (by decide) ?_
  refine AW_newI (a := 98) (n := 10) dX2_init_33 (by decide +kernel) rfl (by decide) w_ai (by decide +kernel) zc_zg9 (by unfold nst; decide) (by constructor <;> simp) (by decide) (by decide) ?_
  refine AW_putFR (c := 2) (k := 4) dX2_init_35 ⟨(by decide +kernel), by decide +kernel⟩ fl_X2_23 rfl rfl rfl (fun _ => rfl) (fun _ => rfl) ?_
  refine AW_aload_n dX2_init_38 rfl rfl ?_
  refine AW_iconst (x := nI 3) dX2_init_39 (by decide) ?_
  refine AW_newI (a := 99) (n := 3) dX2_init_40 (by decide +kernel) rfl (by decide) w_ai (by decide +kernel) zc_zg12 (by unfold nst; decide) (by constructor <;> simp) (by decide) (by decide) ?_
  refine AW_putFR (c := 2) (k := 5) dX2_init_42 ⟨(by decide +kernel), by decide +kernel⟩ fl_X2_26 rfl rfl rfl (fun _ => rfl) (fun _ => rfl) ?_
  refine AW_aload_n dX2_init_45 rfl rfl ?_
  refine AW_sipush (x := nI 1000) dX2_init_46 (by decide) ?_
  refine AW_putI (c := 2) (k := 6) dX2_init_49 ⟨(by decide +kernel), by decide +kernel⟩ fl_X2_29 rfl (by decide) (by decide) ?_
  refine AW_aload_n dX2_init_52 rfl rfl ?_
  refine AW_iconst (x := nI 0) dX2_init_53 (by decide) ?_
  refine AW_putI (c := 2) (k := 7) dX2_init_54 ⟨(by decide +kernel), by decide +kernel⟩ fl_X2_33 rfl (by decide) (by decide) ?_
  refine AW_aload_n dX2_init_57 rfl rfl ?_
  refine AW_iconst (x := nI 0) dX2_init_58 (by decide) ?_
  refine AW_putI (c := 2) (k := 8) dX2_init_59 ⟨(by decide +kernel), by decide +kernel⟩ fl_X2_37 rfl (by decide) (by decide) ?_
  refine AW_aload_n dX2_init_62 rfl rfl ?_
  refine AW_iconst (x := nI 0) dX2_init_63 (by decide) ?_
  refine AW_putI (c := 2) (k := 9) dX2_init_64 ⟨(by decide +kernel), by decide +kernel⟩ fl_X2_40 rfl (by decide) (by decide) ?_
  refine AW_aload_n dX2_init_67 rfl rfl ?_
  refine AW_iconst (x := nI 0) dX2_init_68 (by decide) ?_
  refine AW_putI (c := 2) (k := 10) dX2_init_69 ⟨(by decide +kernel), by decide +kernel⟩ fl_X2_43 rfl (by decide) (by decide) ?_
  refine AW_aload_n dX2_init_72 rfl rfl ?_
  refine AW_iconst (x := nI 0) dX2_init_73 (by decide) ?_
  refine AW_putI (c := 2) (k := 11) dX2_init_74 ⟨(by decide +kernel), by decide +kernel⟩ fl_X2_46 rfl (by decide) (by decide) ?_
  refine AW_aload_n dX2_init_77 rfl rfl ?_
  refine AW_aload_n dX2_init_78 rfl rfl ?_
  refine AW_putFR (c := 2) (k := 0) dX2_init_79 ⟨(by decide +kernel), by decide +kernel⟩ fl_X2_49 rfl rfl rfl (fun _ => rfl) (fun _ => rfl) ?_
  exact AW_vret dX2_init_82 rfl (by decide) (by decide) ⟨rfl, rfl, rfl⟩
def zm18 : xZ := wR zg22 0 5 (some 90)
theorem zc_zm18 : Zc zm18 := wR_Zc zc_zg22 (by decide +kernel)
def zm19 : xZ := nz zm18 100
theorem zc_zm19 : Zc zm19 := nz_Zc zc_zm18
def vm20 : xS := nv vg21 100
def zm21 : xZ := wR zm19 0 6 (some 100)
theorem zc_zm21 : Zc zm21 := wR_Zc zc_zm19 (by decide +kernel)
def zm22 : xZ := nz zm21 101
theorem zc_zm22 : Zc zm22 := nz_Zc zc_zm21
def vm23 : xS := nv vm20 101
def zm24 : xZ := wR zm22 0 7 (some 101)
theorem zc_zm24 : Zc zm24 := wR_Zc zc_zm22 (by decide +kernel)
def zm25 : xZ := nz zm24 102
theorem zc_zm25 : Zc zm25 := nz_Zc zc_zm24
def vm26 : xS := nv vm23 102
def zm27 : xZ := wR zm25 0 8 (some 102)
theorem zc_zm27 : Zc zm27 := wR_Zc zc_zm25 (by decide +kernel)
def vm28 : xS := wV vm26 0 9 (nI 0)
def vm29 : xS := wV vm28 0 10 (nI 0)
set_option maxRecDepth 100000 in
set_option maxHeartbeats 8000000 in
theorem oc_X5 {G : xG} {d : Nat} : Ok G (d + 2) 54 1701 yX5_init cX5_init 1 none [.ref 0] zt0 vt0 (fun r z1 v1 => r = none ∧ z1 = zm27 ∧ v1 = vm29) := by
  refine Ok_of (own := RX5) (by decide) rfl (Nat.le_of_ble_eq_true rfl) ?_
  show AW G (d + 2) 54 1701 yX5_init cX5_init 1 none RX5 0 0 0 [some (.ref 0)] [] zt0 vt0 _
  refine AW_aload_n dX5_init_0 rfl rfl ?_
  refine AW_objInit dX5_init_1 ml_X5_1 w_oi w_oc (Nat.succ_pos _) (by decide) ?_
  refine AW_aload_n dX5_init_4 rfl rfl ?_
  refine AW_new (a := 1) (c := 4) dX5_init_5 (by decide) (by decide +kernel) cl_X5_7 in_X4 iz_X4 (by decide +kernel) zc_zt0 (by unfold nst; decide) (by constructor <;> simp) (by decide) (by decide) ?_
  refine AW_dup dX5_init_8 rfl ?_
  refine AW_bipush (x := nI 6) dX5_init_9 (by decide) ?_
  refine AW_bipush (x := nI 40) dX5_init_11 (by decide) ?_
  refine AW_cI (as := [.int (nI 6), .int (nI 40)]) (a := 1) (st := [.ref 1, .ref 0]) (Z1 := za7) (V1 := va13) dX5_init_13 mv_X4_init ii_X4 ml_X5_11 (Nat.lt_succ_self _) (by decide) rfl (by decide) (by decide) (live_of (by decide +kernel)) (oc_X4_1) ?_
  refine AW_putFR (c := 5) (k := 0) dX5_init_16 ⟨(by decide +kernel), by decide +kernel⟩ fl_X5_14 rfl rfl rfl (fun _ => rfl) (fun _ => rfl) ?_
  refine AW_aload_n dX5_init_19 rfl rfl ?_
  refine AW_new (a := 10) (c := 4) dX5_init_20 (by decide) (by decide +kernel) cl_X5_7 in_X4 iz_X4 (by decide +kernel) zc_zm3 (by unfold nst; decide) (by constructor <;> simp) (by decide) (by decide) ?_
  refine AW_dup dX5_init_23 rfl ?_
  refine AW_iconst (x := nI 4) dX5_init_24 (by decide) ?_
  refine AW_bipush (x := nI 80) dX5_init_25 (by decide) ?_
  refine AW_cI (as := [.int (nI 4), .int (nI 80)]) (a := 10) (st := [.ref 10, .ref 0]) (Z1 := zb7) (V1 := vb11) dX5_init_27 mv_X4_init ii_X4 ml_X5_11 (Nat.lt_succ_self _) (by decide) rfl (by decide) (by decide) (live_of (by decide +kernel)) (oc_X4_10) ?_
  refine AW_putFR (c := 5) (k := 1) dX5_init_30 ⟨(by decide +kernel), by decide +kernel⟩ fl_X5_18 rfl rfl rfl (fun _ => rfl) (fun _ => rfl) ?_
  refine AW_aload_n dX5_init_33 rfl rfl ?_
  refine AW_new (a := 20) (c := 3) dX5_init_34 (by decide) (by decide +kernel) cl_X5_21 in_X3 iz_X3 (by decide +kernel) zc_zm6 (by unfold nst; decide) (by constructor <;> simp) (by decide) (by decide) ?_
  refine AW_dup dX5_init_37 rfl ?_
  refine AW_cIN (host := "MovingHills") (as := []) (a := 20) (st := [.ref 20, .ref 0]) (Z1 := zc12) (V1 := vc14) dX5_init_38 mv_X3_init ii_X3 (by decide +kernel) (Nat.lt_succ_self _) (by decide) rfl (by decide) (by decide) (live_of (by decide +kernel)) (oc_X3_20) ?_
  refine AW_putFR (c := 5) (k := 2) dX5_init_41 ⟨(by decide +kernel), by decide +kernel⟩ fl_X5_24 rfl rfl rfl (fun _ => rfl) (fun _ => rfl) ?_
  refine AW_aload_n dX5_init_44 rfl rfl ?_
  refine AW_new (a := 30) (c := 1) dX5_init_45 (by decide) (by decide +kernel) cl_X5_28 in_X1 iz_X1 (by decide +kernel) zc_zm9 (by unfold nst; decide) (by constructor <;> simp) (by decide) (by decide) ?_
  refine AW_dup dX5_init_48 rfl ?_
  refine AW_cIN (host := "MovingHills") (as := []) (a := 30) (st := [.ref 30, .ref 0]) (Z1 := zl1) (V1 := vl1) dX5_init_49 mv_X1_init ii_X1 (by decide +kernel) (Nat.lt_succ_self _) (by decide) rfl (by decide) (by decide) (live_of (by decide +kernel)) (oc_X1_30 (z := zm10) (v := vm11) zc_zm10 (by decide +kernel) (by decide +kernel) (by decide +kernel) (by decide +kernel) (by decide +kernel) (by decide +kernel) (by decide +kernel) (by decide +kernel) (by decide +kernel)) ?_
  refine AW_putFR (c := 5) (k := 3) dX5_init_52 ⟨(by decide +kernel), by decide +kernel⟩ fl_X5_31 rfl rfl rfl (fun _ => rfl) (fun _ => rfl) ?_
  refine AW_aload_n dX5_init_55 rfl rfl ?_
  refine AW_new (a := 70) (c := 0) dX5_init_56 (by decide) (by decide +kernel) cl_X5_35 in_X0 iz_X0 (by decide +kernel) zc_zm12 (by unfold nst; decide) (by constructor <;> simp) (by decide) (by decide) ?_
  refine AW_dup dX5_init_59 rfl ?_
  refine AW_aload_n dX5_init_60 rfl rfl ?_
  refine AW_getR (c := 5) (k := 3) (b := 30) dX5_init_61 ⟨(by decide +kernel), by decide +kernel⟩ fl_X5_31 (by decide +kernel) ?_
  refine AW_cI (as := [.ref 30]) (a := 70) (st := [.ref 70, .ref 0]) (Z1 := ze14) (V1 := ve13) dX5_init_64 mv_X0_init ii_X0 ml_X5_37 (Nat.lt_succ_self _) (by decide) rfl (by decide) (by decide) (live_of (by decide +kernel)) (oc_X0_70) ?_
  refine AW_putFR (c := 5) (k := 4) dX5_init_67 ⟨(by decide +kernel), by decide +kernel⟩ fl_X5_40 rfl rfl rfl (fun _ => rfl) (fun _ => rfl) ?_
  refine AW_aload_n dX5_init_70 rfl rfl ?_
  refine AW_new (a := 90) (c := 2) dX5_init_71 (by decide) (by decide +kernel) cl_X5_44 in_X2 iz_X2 (by decide +kernel) zc_zm15 (by unfold nst; decide) (by constructor <;> simp) (by decide) (by decide) ?_
  refine AW_dup dX5_init_74 rfl ?_
  refine AW_aload_n dX5_init_75 rfl rfl ?_
  refine AW_getR (c := 5) (k := 3) (b := 30) dX5_init_76 ⟨(by decide +kernel), by decide +kernel⟩ fl_X5_31 (by decide +kernel) ?_
  refine AW_cI (as := [.ref 30]) (a := 90) (st := [.ref 90, .ref 0]) (Z1 := zg22) (V1 := vg21) dX5_init_79 mv_X2_init ii_X2 ml_X5_46 (Nat.lt_succ_self _) (by decide) rfl (by decide) (by decide) (live_of (by decide +kernel)) (oc_X2_90) ?_
  refine AW_putFR (c := 5) (k := 5) dX5_init_82 ⟨(by decide +kernel), by decide +kernel⟩ fl_X5_47 rfl rfl rfl (fun _ => rfl) (fun _ => rfl) ?_
  refine AW_aload_n dX5_init_85 rfl rfl ?_
  refine AW_iconst (x := nI 3) dX5_init_86 (by decide) ?_
  refine AW_newq (a := 100) (n := 3) dX5_init_87 cl_X5_28 (by decide +kernel) rfl (by decide) (by decide +kernel) zc_zm18 (by unfold nst; decide) (by constructor <;> simp) (by decide) (by decide) ?_
  refine AW_putFR (c := 5) (k := 6) dX5_init_90 ⟨(by decide +kernel), by decide +kernel⟩ fl_X5_51 rfl rfl rfl (fun _ => rfl) (fun _ => rfl) ?_
  refine AW_aload_n dX5_init_93 rfl rfl ?_
  refine AW_iconst (x := nI 3) dX5_init_94 (by decide) ?_
  refine AW_newZ (a := 101) (n := 3) dX5_init_95 (by decide +kernel) rfl (by decide) w_az (by decide +kernel) zc_zm21 (by unfold nst; decide) (by constructor <;> simp) (by decide) (by decide) ?_
  refine AW_putFR (c := 5) (k := 7) dX5_init_97 ⟨(by decide +kernel), by decide +kernel⟩ fl_X5_55 rfl rfl rfl (fun _ => rfl) (fun _ => rfl) ?_
  refine AW_aload_n dX5_init_100 rfl rfl ?_
  refine AW_bipush (x := nI 6) dX5_init_101 (by decide) ?_
  refine AW_newI (a := 102) (n := 6) dX5_init_103 (by decide +kernel) rfl (by decide) w_ai (by decide +kernel) zc_zm24 (by unfold nst; decide) (by constructor <;> simp) (by decide) (by decide) ?_
  refine AW_putFR (c := 5) (k := 8) dX5_init_105 ⟨(by decide +kernel), by decide +kernel⟩ fl_X5_59 rfl rfl rfl (fun _ => rfl) (fun _ => rfl) ?_
  refine AW_aload_n dX5_init_108 rfl rfl ?_
  refine AW_iconst (x := nI 0) dX5_init_109 (by decide) ?_
  refine AW_putI (c := 5) (k := 9) dX5_init_110 ⟨(by decide +kernel), by decide +kernel⟩ fl_X5_63 rfl (by decide) (by decide) ?_
  refine AW_aload_n dX5_init_113 rfl rfl ?_
  refine AW_iconst (x := nI 0) dX5_init_114 (by decide) ?_
  refine AW_putI (c := 5) (k := 10) dX5_init_115 ⟨(by decide +kernel), by decide +kernel⟩ fl_X5_67 rfl (by decide) (by decide) ?_
  exact AW_vret dX5_init_118 rfl (by decide) (by decide) ⟨rfl, rfl, rfl⟩
def zu0 : xZ := nz zm27 200
def vu0 : xS := nv vm29 200
theorem zc_zu0 : Zc zu0 := nz_Zc zc_zm27
