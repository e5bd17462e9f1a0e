set_option maxRecDepth 100000 in
set_option maxHeartbeats 4000000 in
theorem vc_X3_read {G : xG} {d : Nat} {z : xZ} {v : xS} {Q : Int32 → xS → Prop} (B : Base z) {xa : Int32} 
    (H : (∀ v1 : xS, v1 = wV v 20 4 0 → (∀ v2 : xS, v2 = wV v1 20 5 0 → (oX4_sizeOf G d [(.ref 10), (.int xa)] z v2 (fun r4 v3 => (oX3_behindBlanks G d [(.ref 20), (.ref 10), (.int xa), (.int 0)] z v3 (fun r6 v5 => ((r4 ≤ r6 → Q r6 v5) ∧ (¬ r4 ≤ r6 → (oX4_get G d [(.ref 10), (.int xa), (.int r6)] z v5 (fun r8 v7 => ((r8 = 103 → (oX3_behindHeights G d [(.ref 20), (.ref 10), (.int xa), (.int (r6 + 1))] z v7 (fun r10 v9 => ((2 ≤ (v9.1 20 4) → aX3_read G (d + 1) 72 [some (.ref 20), some (.ref 10), some (.int xa), some (.int r4), some (.int r10), some (.int 0), none] [] z v9 Q) ∧ (¬ 2 ≤ (v9.1 20 4) → Q r10 v9))))) ∧ (¬ r8 = 103 → Q r6 v7))))))))))))) :
    oX3_read G (d + 1) [(.ref 20), (.ref 10), (.int xa)] z v Q := by
  refine Ok_of (own := RX3) (by decide) rfl (Nat.le_of_ble_eq_true rfl) ?_
  show AW G (d + 1) 0 0 yX3_read cX3_read 7 (some .int) RX3 0 0 0 [some (.ref 20), some (.ref 10), some (.int xa), none, none, none, none] [] z v _
  refine AW_aload_n dX3_read_0 rfl rfl ?_
  refine AW_iconst (x := 0) dX3_read_1 (by decide) ?_
  refine AW_putIN dX3_read_2 (bI_20 B) fl_X3_24 rfl rfl rfl (fun v1 hv1 => ?_)
  replace H := H v1 hv1
  refine AW_aload_n dX3_read_5 rfl rfl ?_
  refine AW_iconst (x := 0) dX3_read_6 (by decide) ?_
  refine AW_putIN dX3_read_7 (bI_20 B) fl_X3_28 rfl rfl rfl (fun v2 hv2 => ?_)
  replace H := H v2 hv2
  refine AW_aload_n dX3_read_10 rfl rfl ?_
  refine AW_iload_n dX3_read_11 rfl rfl ?_
  refine AW_vI (as := [(.int xa)]) (st := []) dX3_read_12 (bS_10 B).1 (by decide) rfl mv_X4_sizeOf mi_X4_sizeOf ml_X3_31 (Nat.le_of_ble_eq_true rfl) rfl (Nat.le_refl 0) (Nat.le_refl 0) H (fun r4 v3 H => ?_)
  refine AW_istore_n (L' := [some (.ref 20), some (.ref 10), some (.int xa), some (.int r4), none, none, none]) dX3_read_15 rfl (by decide) rfl ?_
  refine AW_aload_n dX3_read_16 rfl rfl ?_
  refine AW_aload_n dX3_read_17 rfl rfl ?_
  refine AW_iload_n dX3_read_18 rfl rfl ?_
  refine AW_iconst (x := 0) dX3_read_19 (by decide) ?_
  refine AW_vI (as := [(.ref 10), (.int xa), (.int 0)]) (st := []) dX3_read_20 (bI_20 B) (by decide) rfl mv_X3_behindBlanks mi_X3_behindBlanks ml_X3_37 (Nat.le_of_ble_eq_true rfl) rfl (Nat.le_refl 0) (Nat.le_refl 0) H (fun r6 v5 H => ?_)
  refine AW_istore (L' := [some (.ref 20), some (.ref 10), some (.int xa), some (.int r4), some (.int r6), none, none]) dX3_read_23 (by decide) rfl ?_
  refine AW_iload dX3_read_25 rfl ?_
  refine AW_iload_n dX3_read_27 rfl rfl ?_
  refine AW_icmp_ge (tgt := 43) dX3_read_28 (by decide) (fun c => ?_) (fun c => ?_)
  · replace H := H.1 c
    refine AW_iload dX3_read_43 rfl ?_
    exact AW_rI dX3_read_45 rfl rfl H
  · replace H := H.2 c
    refine AW_aload_n dX3_read_31 rfl rfl ?_
    refine AW_iload_n dX3_read_32 rfl rfl ?_
    refine AW_iload dX3_read_33 rfl ?_
    refine AW_vI (as := [(.int xa), (.int r6)]) (st := []) dX3_read_35 (bS_10 B).1 (by decide) rfl mv_X4_get mi_X4_get ml_X3_41 (Nat.le_of_ble_eq_true rfl) rfl (Nat.le_refl 0) (Nat.le_refl 0) H (fun r8 v7 H => ?_)
    refine AW_bipush (x := 103) dX3_read_38 (by decide) ?_
    refine AW_icmp_eq (tgt := 46) dX3_read_40 (by decide) (fun c => ?_) (fun c => ?_)
    · replace H := H.1 c
      refine AW_aload_n dX3_read_46 rfl rfl ?_
      refine AW_aload_n dX3_read_47 rfl rfl ?_
      refine AW_iload_n dX3_read_48 rfl rfl ?_
      refine AW_iload dX3_read_49 rfl ?_
      refine AW_iconst (x := 1) dX3_read_51 (by decide) ?_
      refine AW_iadd dX3_read_52 ?_
      refine AW_vI (as := [(.ref 10), (.int xa), (.int (r6 + 1))]) (st := []) dX3_read_53 (bI_20 B) (by decide) rfl mv_X3_behindHeights mi_X3_behindHeights ml_X3_45 (Nat.le_of_ble_eq_true rfl) rfl (Nat.le_refl 0) (Nat.le_refl 0) H (fun r10 v9 H => ?_)
      refine AW_istore (L' := [some (.ref 20), some (.ref 10), some (.int xa), some (.int r4), some (.int r10), none, none]) dX3_read_56 (by decide) rfl ?_
      refine AW_aload_n dX3_read_58 rfl rfl ?_
      refine AW_getI dX3_read_59 (bI_20 B) fl_X3_24 ?_
      refine AW_iconst (x := 2) dX3_read_62 (by decide) ?_
      refine AW_icmp_ge (tgt := 69) dX3_read_63 (by decide) (fun c => ?_) (fun c => ?_)
      · replace H := H.1 c
        refine AW_iconst (x := 0) dX3_read_69 (by decide) ?_
        refine AW_istore (L' := [some (.ref 20), some (.ref 10), some (.int xa), some (.int r4), some (.int r10), some (.int 0), none]) dX3_read_70 (by decide) rfl ?_
        exact H
      · replace H := H.2 c
        refine AW_iload dX3_read_66 rfl ?_
        exact AW_rI dX3_read_68 rfl rfl H
    · replace H := H.2 c
      refine AW_iload dX3_read_43 rfl ?_
      exact AW_rI dX3_read_45 rfl rfl H
set_option maxRecDepth 100000 in
set_option maxHeartbeats 4000000 in
theorem vc_X3_read_72 {G : xG} {d : Nat} {z : xZ} {v : xS} {Q : Int32 → xS → Prop} (B : Base z)  {l2 : Int32} {l3 : Int32} {l4 : Int32} {l5 : Int32} 
    (H : ((3 < l5 → Q l4 v) ∧ (¬ 3 < l5 → (oX3_behindBlanks G d [(.ref 20), (.ref 10), (.int l2), (.int l4)] z v (fun r2 v1 => ((r2 < l3 → (oX3_bandFault G d [(.ref 20), (.ref 10), (.int l2), (.int r2)] z v1 (fun r4 v3 => ((r4 = (-9) → aX3_read G (d + 1) 72 [some (.ref 20), some (.ref 10), some (.int l2), some (.int l3), some (.int (r2 + 3)), some (.int (l5 + 1)), none] [] z v3 Q) ∧ (¬ r4 = (-9) → Q r4 v3))))) ∧ (¬ r2 < l3 → Q (-9) v1))))))) :
    aX3_read G (d + 1) 72 [some (.ref 20), some (.ref 10), some (.int l2), some (.int l3), some (.int l4), some (.int l5), none] [] z v Q := by
  refine AW_iload dX3_read_72 rfl ?_
  refine AW_iconst (x := 3) dX3_read_74 (by decide) ?_
  refine AW_icmp_gt (tgt := 126) dX3_read_75 (by decide) (fun c => ?_) (fun c => ?_)
  · replace H := H.1 c
    refine AW_iload dX3_read_126 rfl ?_
    exact AW_rI dX3_read_128 rfl rfl H
  · replace H := H.2 c
    refine AW_aload_n dX3_read_78 rfl rfl ?_
    refine AW_aload_n dX3_read_79 rfl rfl ?_
    refine AW_iload_n dX3_read_80 rfl rfl ?_
    refine AW_iload dX3_read_81 rfl ?_
    refine AW_vI (as := [(.ref 10), (.int l2), (.int l4)]) (st := []) dX3_read_83 (bI_20 B) (by decide) rfl mv_X3_behindBlanks mi_X3_behindBlanks ml_X3_37 (Nat.le_of_ble_eq_true rfl) rfl (Nat.le_refl 0) (Nat.le_refl 0) H (fun r2 v1 H => ?_)
    refine AW_istore (L' := [some (.ref 20), some (.ref 10), some (.int l2), some (.int l3), some (.int r2), some (.int l5), none]) dX3_read_86 (by decide) rfl ?_
    refine AW_iload dX3_read_88 rfl ?_
    refine AW_iload_n dX3_read_90 rfl rfl ?_
    refine AW_icmp_lt (tgt := 97) dX3_read_91 (by decide) (fun c => ?_) (fun c => ?_)
    · replace H := H.1 c
      refine AW_aload_n dX3_read_97 rfl rfl ?_
      refine AW_aload_n dX3_read_98 rfl rfl ?_
      refine AW_iload_n dX3_read_99 rfl rfl ?_
      refine AW_iload dX3_read_100 rfl ?_
      refine AW_vI (as := [(.ref 10), (.int l2), (.int r2)]) (st := []) dX3_read_102 (bI_20 B) (by decide) rfl mv_X3_bandFault mi_X3_bandFault ml_X3_48 (Nat.le_of_ble_eq_true rfl) rfl (Nat.le_refl 0) (Nat.le_refl 0) H (fun r4 v3 H => ?_)
      refine AW_istore (L' := [some (.ref 20), some (.ref 10), some (.int l2), some (.int l3), some (.int r2), some (.int l5), some (.int r4)]) dX3_read_105 (by decide) rfl ?_
      refine AW_iload dX3_read_107 rfl ?_
      refine AW_bipush (x := (-9)) dX3_read_109 (by decide) ?_
      refine AW_icmp_eq (tgt := 117) dX3_read_111 (by decide) (fun c => ?_) (fun c => ?_)
      · replace H := H.1 c
        refine AW_iinc (x' := r2 + 3) (L' := [some (.ref 20), some (.ref 10), some (.int l2), some (.int l3), some (.int (r2 + 3)), some (.int l5), some (.int r4)]) dX3_read_117 rfl rfl (by decide) rfl ?_
        refine AW_iinc (x' := l5 + 1) (L' := [some (.ref 20), some (.ref 10), some (.int l2), some (.int l3), some (.int (r2 + 3)), some (.int (l5 + 1)), some (.int r4)]) dX3_read_120 rfl rfl (by decide) rfl ?_
        refine AW_goto (tgt := 72) dX3_read_123 (by decide) ?_
        refine AW_sub (L' := [some (.ref 20), some (.ref 10), some (.int l2), some (.int l3), some (.int (r2 + 3)), some (.int (l5 + 1)), none]) (show xle _ _ from ⟨rfl, ⟨rfl, ⟨rfl, ⟨rfl, ⟨rfl, ⟨rfl, trivial⟩⟩⟩⟩⟩⟩) ?_
        exact H
      · replace H := H.2 c
        refine AW_iload dX3_read_114 rfl ?_
        exact AW_rI dX3_read_116 rfl rfl H
    · replace H := H.2 c
      refine AW_bipush (x := (-9)) dX3_read_94 (by decide) ?_
      exact AW_rI dX3_read_96 rfl rfl H
set_option maxRecDepth 100000 in
set_option maxHeartbeats 4000000 in
theorem vc_X3_behindBlanks {G : xG} {d : Nat} {z : xZ} {v : xS} {Q : Int32 → xS → Prop} (B : Base z) {xa : Int32} {xb : Int32} 
    (H : aX3_behindBlanks G (d + 1) 3 [some (.ref 20), some (.ref 10), some (.int xa), some (.int xb), some (.int xb)] [] z v Q) :
    oX3_behindBlanks G (d + 1) [(.ref 20), (.ref 10), (.int xa), (.int xb)] z v Q := by
  refine Ok_of (own := RX3) (by decide) rfl (Nat.le_of_ble_eq_true rfl) ?_
  show AW G (d + 1) 0 0 yX3_behindBlanks cX3_behindBlanks 5 (some .int) RX3 0 0 0 [some (.ref 20), some (.ref 10), some (.int xa), some (.int xb), none] [] z v _
  refine AW_iload_n dX3_behindBlanks_0 rfl rfl ?_
  refine AW_istore (L' := [some (.ref 20), some (.ref 10), some (.int xa), some (.int xb), some (.int xb)]) dX3_behindBlanks_1 (by decide) rfl ?_
  exact H
set_option maxRecDepth 100000 in
set_option maxHeartbeats 4000000 in
theorem vc_X3_behindBlanks_3 {G : xG} {d : Nat} {z : xZ} {v : xS} {Q : Int32 → xS → Prop} (B : Base z)  {l2 : Int32} {l3 : Int32} {l4 : Int32} 
    (H : (oX4_sizeOf G d [(.ref 10), (.int l2)] z v (fun r2 v1 => ((r2 ≤ l4 → Q l4 v1) ∧ (¬ r2 ≤ l4 → (oX4_get G d [(.ref 10), (.int l2), (.int l4)] z v1 (fun r4 v3 => ((¬ r4 = 32 → Q l4 v3) ∧ (r4 = 32 → aX3_behindBlanks G (d + 1) 3 [some (.ref 20), some (.ref 10), some (.int l2), some (.int l3), some (.int (l4 + 1))] [] z v3 Q))))))))) :
    aX3_behindBlanks G (d + 1) 3 [some (.ref 20), some (.ref 10), some (.int l2), some (.int l3), some (.int l4)] [] z v Q := by
  refine AW_iload dX3_behindBlanks_3 rfl ?_
  refine AW_aload_n dX3_behindBlanks_5 rfl rfl ?_
  refine AW_iload_n dX3_behindBlanks_6 rfl rfl ?_
  refine AW_vI (as := [(.int l2)]) (st := [(.int l4)]) dX3_behindBlanks_7 (bS_10 B).1 (by decide) rfl mv_X4_sizeOf mi_X4_sizeOf ml_X3_31 (Nat.le_of_ble_eq_true rfl) rfl (Nat.le_refl 0) (Nat.le_refl 0) H (fun r2 v1 H => ?_)
  refine AW_icmp_ge (tgt := 31) dX3_behindBlanks_10 (by decide) (fun c => ?_) (fun c => ?_)
  · replace H := H.1 c
    refine AW_iload dX3_behindBlanks_31 rfl ?_
    exact AW_rI dX3_behindBlanks_33 rfl rfl H
  · replace H := H.2 c
    refine AW_aload_n dX3_behindBlanks_13 rfl rfl ?_
    refine AW_iload_n dX3_behindBlanks_14 rfl rfl ?_
    refine AW_iload dX3_behindBlanks_15 rfl ?_
    refine AW_vI (as := [(.int l2), (.int l4)]) (st := []) dX3_behindBlanks_17 (bS_10 B).1 (by decide) rfl mv_X4_get mi_X4_get ml_X3_41 (Nat.le_of_ble_eq_true rfl) rfl (Nat.le_refl 0) (Nat.le_refl 0) H (fun r4 v3 H => ?_)
    refine AW_bipush (x := 32) dX3_behindBlanks_20 (by decide) ?_
    refine AW_icmp_ne (tgt := 31) dX3_behindBlanks_22 (by decide) (fun c => ?_) (fun c => ?_)
    · replace H := H.1 c
      refine AW_iload dX3_behindBlanks_31 rfl ?_
      exact AW_rI dX3_behindBlanks_33 rfl rfl H
    · replace H := H.2 c
      refine AW_iinc (x' := l4 + 1) (L' := [some (.ref 20), some (.ref 10), some (.int l2), some (.int l3), some (.int (l4 + 1))]) dX3_behindBlanks_25 rfl rfl (by decide) rfl ?_
      refine AW_goto (tgt := 3) dX3_behindBlanks_28 (by decide) ?_
      exact H
set_option maxRecDepth 100000 in
set_option maxHeartbeats 4000000 in
theorem vc_X3_behindHeights {G : xG} {d : Nat} {z : xZ} {v : xS} {Q : Int32 → xS → Prop} (B : Base z) {xa : Int32} {xb : Int32} 
    (H : aX3_behindHeights G (d + 1) 3 [some (.ref 20), some (.ref 10), some (.int xa), some (.int xb), some (.int xb)] [] z v Q) :
    oX3_behindHeights G (d + 1) [(.ref 20), (.ref 10), (.int xa), (.int xb)] z v Q := by
  refine Ok_of (own := RX3) (by decide) rfl (Nat.le_of_ble_eq_true rfl) ?_
  show AW G (d + 1) 0 0 yX3_behindHeights cX3_behindHeights 5 (some .int) RX3 0 0 0 [some (.ref 20), some (.ref 10), some (.int xa), some (.int xb), none] [] z v _
  refine AW_iload_n dX3_behindHeights_0 rfl rfl ?_
  refine AW_istore (L' := [some (.ref 20), some (.ref 10), some (.int xa), some (.int xb), some (.int xb)]) dX3_behindHeights_1 (by decide) rfl ?_
  exact H
set_option maxRecDepth 100000 in
set_option maxHeartbeats 4000000 in
theorem vc_X3_behindHeights_3 {G : xG} {d : Nat} {z : xZ} {v : xS} {Q : Int32 → xS → Prop} (B : Base z)  {l2 : Int32} {l3 : Int32} {l4 : Int32} 
    (H : ((10 ≤ (v.1 20 4) → Q l4 v) ∧ (¬ 10 ≤ (v.1 20 4) → (oX3_figureAt G d [(.ref 10), (.int l2), (.int l4)] z v (fun r2 v1 => ((r2 < 0 → Q l4 v1) ∧ (¬ r2 < 0 → (oX3_figureAt G d [(.ref 10), (.int l2), (.int l4)] z v1 (fun r4 v3 => (vp_in (v1.1 20 4) 10 ∧ (∀ v6 : xS, v6 = wV v3 21 (v1.1 20 4).toNatClampNeg r4 → (∀ v7 : xS, v7 = wV v6 20 4 ((v6.1 20 4) + 1) → aX3_behindHeights G (d + 1) 3 [some (.ref 20), some (.ref 10), some (.int l2), some (.int l3), some (.int (l4 + 1))] [] z v7 Q)))))))))))) :
    aX3_behindHeights G (d + 1) 3 [some (.ref 20), some (.ref 10), some (.int l2), some (.int l3), some (.int l4)] [] z v Q := by
  refine AW_aload_n dX3_behindHeights_3 rfl rfl ?_
  refine AW_getI dX3_behindHeights_4 (bI_20 B) fl_X3_24 ?_
  refine AW_bipush (x := 10) dX3_behindHeights_7 (by decide) ?_
  refine AW_icmp_ge (tgt := 54) dX3_behindHeights_9 (by decide) (fun c => ?_) (fun c => ?_)
  · replace H := H.1 c
    refine AW_iload dX3_behindHeights_54 rfl ?_
    exact AW_rI dX3_behindHeights_56 rfl rfl H
  · replace H := H.2 c
    refine AW_aload_n dX3_behindHeights_12 rfl rfl ?_
    refine AW_iload_n dX3_behindHeights_13 rfl rfl ?_
    refine AW_iload dX3_behindHeights_14 rfl ?_
    refine AW_sI (as := [(.ref 10), (.int l2), (.int l4)]) (st := []) dX3_behindHeights_16 mv_X3_figureAt ms_X3_figureAt ml_X3_51 (Nat.le_of_ble_eq_true rfl) rfl (Nat.le_refl 0) (Nat.le_refl 0) H (fun r2 v1 H => ?_)
    refine AW_if_lt (tgt := 54) dX3_behindHeights_19 (by decide) (fun c => ?_) (fun c => ?_)
    · replace H := H.1 c
      refine AW_iload dX3_behindHeights_54 rfl ?_
      exact AW_rI dX3_behindHeights_56 rfl rfl H
    · replace H := H.2 c
      refine AW_aload_n dX3_behindHeights_22 rfl rfl ?_
      refine AW_getR dX3_behindHeights_23 (bI_20 B) fl_X3_9 (bR_20_0 B) ?_
      refine AW_aload_n dX3_behindHeights_26 rfl rfl ?_
      refine AW_getI dX3_behindHeights_27 (bI_20 B) fl_X3_24 ?_
      refine AW_aload_n dX3_behindHeights_30 rfl rfl ?_
      refine AW_iload_n dX3_behindHeights_31 rfl rfl ?_
      refine AW_iload dX3_behindHeights_32 rfl ?_
      refine AW_sI (as := [(.ref 10), (.int l2), (.int l4)]) (st := [(.int (v1.1 20 4)), (.ref 21)]) dX3_behindHeights_34 mv_X3_figureAt ms_X3_figureAt ml_X3_51 (Nat.le_of_ble_eq_true rfl) rfl (Nat.le_refl 0) (Nat.le_refl 0) H (fun r4 v3 H => ?_)
      have hi5 := H.1
      replace H := H.2
      refine AW_iastN dX3_behindHeights_37 (bI_21 B) hi5 (fun v6 hv6 => ?_)
      replace H := H v6 hv6
      refine AW_aload_n dX3_behindHeights_38 rfl rfl ?_
      refine AW_dup dX3_behindHeights_39 rfl ?_
      refine AW_getI dX3_behindHeights_40 (bI_20 B) fl_X3_24 ?_
      refine AW_iconst (x := 1) dX3_behindHeights_43 (by decide) ?_
      refine AW_iadd dX3_behindHeights_44 ?_
      refine AW_putIN dX3_behindHeights_45 (bI_20 B) fl_X3_24 rfl rfl rfl (fun v7 hv7 => ?_)
      replace H := H v7 hv7
      refine AW_iinc (x' := l4 + 1) (L' := [some (.ref 20), some (.ref 10), some (.int l2), some (.int l3), some (.int (l4 + 1))]) dX3_behindHeights_48 rfl rfl (by decide) rfl ?_
      refine AW_goto (tgt := 3) dX3_behindHeights_51 (by decide) ?_
      exact H
set_option maxRecDepth 100000 in
set_option maxHeartbeats 4000000 in
theorem vc_X3_bandFault {G : xG} {d : Nat} {z : xZ} {v : xS} {Q : Int32 → xS → Prop} (B : Base z) {xa : Int32} {xb : Int32} 
    (H : (oX4_get G d [(.ref 10), (.int xa), (.int xb)] z v (fun r2 v1 => (oX3_kindOf G d [(.int r2)] z v1 (fun r4 v3 => ((r4 < 0 → Q xb v3) ∧ (¬ r4 < 0 → (((v3.1 20 5) < 3 → (oX3_figureAt G d [(.ref 10), (.int xa), (.int (xb + 1))] z v3 (fun r6 v5 => ((r6 < 0 → Q (xb + 1) v5) ∧ (¬ r6 < 0 → ((r6 < (v5.1 20 4) → (oX3_figureAt G d [(.ref 10), (.int xa), (.int (xb + 2))] z v5 (fun r8 v7 => ((1 ≤ r8 → (vp_in (v7.1 20 5) 3 ∧ (∀ v10 : xS, v10 = wV v7 22 (v7.1 20 5).toNatClampNeg r4 → (vp_in (v10.1 20 5) 3 ∧ (∀ v12 : xS, v12 = wV v10 23 (v10.1 20 5).toNatClampNeg r6 → (vp_in (v12.1 20 5) 3 ∧ (∀ v14 : xS, v14 = wV v12 24 (v12.1 20 5).toNatClampNeg r8 → (∀ v15 : xS, v15 = wV v14 20 5 ((v14.1 20 5) + 1) → Q (-9) v15)))))))) ∧ (¬ 1 ≤ r8 → Q (xb + 2) v7))))) ∧ (¬ r6 < (v5.1 20 4) → Q (xb + 1) v5))))))) ∧ (¬ (v3.1 20 5) < 3 → Q xb v3))))))))) :
    oX3_bandFault G (d + 1) [(.ref 20), (.ref 10), (.int xa), (.int xb)] z v Q := by
  refine Ok_of (own := RX3) (by decide) rfl (Nat.le_of_ble_eq_true rfl) ?_
  show AW G (d + 1) 0 0 yX3_bandFault cX3_bandFault 7 (some .int) RX3 0 0 0 [some (.ref 20), some (.ref 10), some (.int xa), some (.int xb), none, none, none] [] z v _
  refine AW_aload_n dX3_bandFault_0 rfl rfl ?_
  refine AW_iload_n dX3_bandFault_1 rfl rfl ?_
  refine AW_iload_n dX3_bandFault_2 rfl rfl ?_
  refine AW_vI (as := [(.int xa), (.int xb)]) (st := []) dX3_bandFault_3 (bS_10 B).1 (by decide) rfl mv_X4_get mi_X4_get ml_X3_41 (Nat.le_of_ble_eq_true rfl) rfl (Nat.le_refl 0) (Nat.le_refl 0) H (fun r2 v1 H => ?_)
  refine AW_sI (as := [(.int r2)]) (st := []) dX3_bandFault_6 mv_X3_kindOf ms_X3_kindOf ml_X3_54 (Nat.le_of_ble_eq_true rfl) rfl (Nat.le_refl 0) (Nat.le_refl 0) H (fun r4 v3 H => ?_)
  refine AW_istore (L' := [some (.ref 20), some (.ref 10), some (.int xa), some (.int xb), some (.int r4), none, none]) dX3_bandFault_9 (by decide) rfl ?_
  refine AW_iload dX3_bandFault_11 rfl ?_
  refine AW_if_lt (tgt := 24) dX3_bandFault_13 (by decide) (fun c => ?_) (fun c => ?_)
  · replace H := H.1 c
    refine AW_iload_n dX3_bandFault_24 rfl rfl ?_
    exact AW_rI dX3_bandFault_25 rfl rfl H
  · replace H := H.2 c
    refine AW_aload_n dX3_bandFault_16 rfl rfl ?_
    refine AW_getI dX3_bandFault_17 (bI_20 B) fl_X3_28 ?_
    refine AW_iconst (x := 3) dX3_bandFault_20 (by decide) ?_
    refine AW_icmp_lt (tgt := 26) dX3_bandFault_21 (by decide) (fun c => ?_) (fun c => ?_)
    · replace H := H.1 c
      refine AW_aload_n dX3_bandFault_26 rfl rfl ?_
      refine AW_iload_n dX3_bandFault_27 rfl rfl ?_
      refine AW_iload_n dX3_bandFault_28 rfl rfl ?_
      refine AW_iconst (x := 1) dX3_bandFault_29 (by decide) ?_
      refine AW_iadd dX3_bandFault_30 ?_
      refine AW_sI (as := [(.ref 10), (.int xa), (.int (xb + 1))]) (st := []) dX3_bandFault_31 mv_X3_figureAt ms_X3_figureAt ml_X3_51 (Nat.le_of_ble_eq_true rfl) rfl (Nat.le_refl 0) (Nat.le_refl 0) H (fun r6 v5 H => ?_)
      refine AW_istore (L' := [some (.ref 20), some (.ref 10), some (.int xa), some (.int xb), some (.int r4), some (.int r6), none]) dX3_bandFault_34 (by decide) rfl ?_
      refine AW_iload dX3_bandFault_36 rfl ?_
      refine AW_if_lt (tgt := 50) dX3_bandFault_38 (by decide) (fun c => ?_) (fun c => ?_)
      · replace H := H.1 c
        refine AW_iload_n dX3_bandFault_50 rfl rfl ?_
        refine AW_iconst (x := 1) dX3_bandFault_51 (by decide) ?_
        refine AW_iadd dX3_bandFault_52 ?_
        exact AW_rI dX3_bandFault_53 rfl rfl H
      · replace H := H.2 c
        refine AW_iload dX3_bandFault_41 rfl ?_
        refine AW_aload_n dX3_bandFault_43 rfl rfl ?_
        refine AW_getI dX3_bandFault_44 (bI_20 B) fl_X3_24 ?_
        refine AW_icmp_lt (tgt := 54) dX3_bandFault_47 (by decide) (fun c => ?_) (fun c => ?_)
        · replace H := H.1 c
          refine AW_aload_n dX3_bandFault_54 rfl rfl ?_
          refine AW_iload_n dX3_bandFault_55 rfl rfl ?_
          refine AW_iload_n dX3_bandFault_56 rfl rfl ?_
          refine AW_iconst (x := 2) dX3_bandFault_57 (by decide) ?_
          refine AW_iadd dX3_bandFault_58 ?_
          refine AW_sI (as := [(.ref 10), (.int xa), (.int (xb + 2))]) (st := []) dX3_bandFault_59 mv_X3_figureAt ms_X3_figureAt ml_X3_51 (Nat.le_of_ble_eq_true rfl) rfl (Nat.le_refl 0) (Nat.le_refl 0) H (fun r8 v7 H => ?_)
          refine AW_istore (L' := [some (.ref 20), some (.ref 10), some (.int xa), some (.int xb), some (.int r4), some (.int r6), some (.int r8)]) dX3_bandFault_62 (by decide) rfl ?_
          refine AW_iload dX3_bandFault_64 rfl ?_
          refine AW_iconst (x := 1) dX3_bandFault_66 (by decide) ?_
          refine AW_icmp_ge (tgt := 74) dX3_bandFault_67 (by decide) (fun c => ?_) (fun c => ?_)
          · replace H := H.1 c
            refine AW_aload_n dX3_bandFault_74 rfl rfl ?_
            refine AW_getR dX3_bandFault_75 (bI_20 B) fl_X3_15 (bR_20_1 B) ?_
            refine AW_aload_n dX3_bandFault_78 rfl rfl ?_
            refine AW_getI dX3_bandFault_79 (bI_20 B) fl_X3_28 ?_
            refine AW_iload dX3_bandFault_82 rfl ?_
            have hi9 := H.1
            replace H := H.2
            refine AW_iastN dX3_bandFault_84 (bI_22 B) hi9 (fun v10 hv10 => ?_)
            replace H := H v10 hv10
            refine AW_aload_n dX3_bandFault_85 rfl rfl ?_
            refine AW_getR dX3_bandFault_86 (bI_20 B) fl_X3_18 (bR_20_2 B) ?_
            refine AW_aload_n dX3_bandFault_89 rfl rfl ?_
            refine AW_getI dX3_bandFault_90 (bI_20 B) fl_X3_28 ?_
            refine AW_iload dX3_bandFault_93 rfl ?_
            have hi11 := H.1
            replace H := H.2
            refine AW_iastN dX3_bandFault_95 (bI_23 B) hi11 (fun v12 hv12 => ?_)
            replace H := H v12 hv12
            refine AW_aload_n dX3_bandFault_96 rfl rfl ?_
            refine AW_getR dX3_bandFault_97 (bI_20 B) fl_X3_21 (bR_20_3 B) ?_
            refine AW_aload_n dX3_bandFault_100 rfl rfl ?_
            refine AW_getI dX3_bandFault_101 (bI_20 B) fl_X3_28 ?_
            refine AW_iload dX3_bandFault_104 rfl ?_
            have hi13 := H.1
            replace H := H.2
            refine AW_iastN dX3_bandFault_106 (bI_24 B) hi13 (fun v14 hv14 => ?_)
            replace H := H v14 hv14
            refine AW_aload_n dX3_bandFault_107 rfl rfl ?_
            refine AW_dup dX3_bandFault_108 rfl ?_
            refine AW_getI dX3_bandFault_109 (bI_20 B) fl_X3_28 ?_
            refine AW_iconst (x := 1) dX3_bandFault_112 (by decide) ?_
            refine AW_iadd dX3_bandFault_113 ?_
            refine AW_putIN dX3_bandFault_114 (bI_20 B) fl_X3_28 rfl rfl rfl (fun v15 hv15 => ?_)
            replace H := H v15 hv15
            refine AW_bipush (x := (-9)) dX3_bandFault_117 (by decide) ?_
            exact AW_rI dX3_bandFault_119 rfl rfl H
          · replace H := H.2 c
            refine AW_iload_n dX3_bandFault_70 rfl rfl ?_
            refine AW_iconst (x := 2) dX3_bandFault_71 (by decide) ?_
            refine AW_iadd dX3_bandFault_72 ?_
            exact AW_rI dX3_bandFault_73 rfl rfl H
        · replace H := H.2 c
          refine AW_iload_n dX3_bandFault_50 rfl rfl ?_
          refine AW_iconst (x := 1) dX3_bandFault_51 (by decide) ?_
          refine AW_iadd dX3_bandFault_52 ?_
          exact AW_rI dX3_bandFault_53 rfl rfl H
    · replace H := H.2 c
      refine AW_iload_n dX3_bandFault_24 rfl rfl ?_
      exact AW_rI dX3_bandFault_25 rfl rfl H
set_option maxRecDepth 100000 in
set_option maxHeartbeats 4000000 in
theorem vc_X3_figureAt {G : xG} {d : Nat} {z : xZ} {v : xS} {Q : Int32 → xS → Prop} (B : Base z) {xa : Int32} {xb : Int32} 
    (H : (oX4_reaches G d [(.ref 10), (.int xa), (.int xb)] z v (fun r2 v1 => ((r2 = 0 → Q (-1) v1) ∧ (¬ r2 = 0 → (oX4_get G d [(.ref 10), (.int xa), (.int xb)] z v1 (fun r4 v3 => (((r4 - 48) < 0 → Q (-1) v3) ∧ (¬ (r4 - 48) < 0 → ((9 < (r4 - 48) → Q (-1) v3) ∧ (¬ 9 < (r4 - 48) → Q (r4 - 48) v3))))))))))) :
    oX3_figureAt G (d + 1) [(.ref 10), (.int xa), (.int xb)] z v Q := by
  refine Ok_of (own := RX3) (by decide) rfl (Nat.le_of_ble_eq_true rfl) ?_
  show AW G (d + 1) 0 0 yX3_figureAt cX3_figureAt 4 (some .int) RX3 0 0 0 [some (.ref 10), some (.int xa), some (.int xb), none] [] z v _
  refine AW_aload_n dX3_figureAt_0 rfl rfl ?_
  refine AW_iload_n dX3_figureAt_1 rfl rfl ?_
  refine AW_iload_n dX3_figureAt_2 rfl rfl ?_
  refine AW_vI (as := [(.int xa), (.int xb)]) (st := []) dX3_figureAt_3 (bS_10 B).1 (by decide) rfl mv_X4_reaches mi_X4_reaches ml_X3_57 (Nat.le_of_ble_eq_true rfl) rfl (Nat.le_refl 0) (Nat.le_refl 0) H (fun r2 v1 H => ?_)
  refine AW_if_eq (tgt := 21) dX3_figureAt_6 (by decide) (fun c => ?_) (fun c => ?_)
  · replace H := H.1 c
    refine AW_iconst (x := (-1)) dX3_figureAt_21 (by decide) ?_
    refine AW_istore_n (L' := [some (.ref 10), some (.int xa), some (.int xb), some (.int (-1))]) dX3_figureAt_22 rfl (by decide) rfl ?_
    refine AW_iload_n dX3_figureAt_23 rfl rfl ?_
    refine AW_if_lt (tgt := 37) dX3_figureAt_24 (by decide) (fun _ => ?_) (fun q => absurd (by decide) q)
    refine AW_iconst (x := (-1)) dX3_figureAt_37 (by decide) ?_
    exact AW_rI dX3_figureAt_38 rfl rfl H
  · replace H := H.2 c
    refine AW_aload_n dX3_figureAt_9 rfl rfl ?_
    refine AW_iload_n dX3_figureAt_10 rfl rfl ?_
    refine AW_iload_n dX3_figureAt_11 rfl rfl ?_
    refine AW_vI (as := [(.int xa), (.int xb)]) (st := []) dX3_figureAt_12 (bS_10 B).1 (by decide) rfl mv_X4_get mi_X4_get ml_X3_41 (Nat.le_of_ble_eq_true rfl) rfl (Nat.le_refl 0) (Nat.le_refl 0) H (fun r4 v3 H => ?_)
    refine AW_bipush (x := 48) dX3_figureAt_15 (by decide) ?_
    refine AW_isub dX3_figureAt_17 ?_
    refine AW_goto (tgt := 22) dX3_figureAt_18 (by decide) ?_
    refine AW_istore_n (L' := [some (.ref 10), some (.int xa), some (.int xb), some (.int (r4 - 48))]) dX3_figureAt_22 rfl (by decide) rfl ?_
    refine AW_iload_n dX3_figureAt_23 rfl rfl ?_
    refine AW_if_lt (tgt := 37) dX3_figureAt_24 (by decide) (fun c => ?_) (fun c => ?_)
    · replace H := H.1 c
      refine AW_iconst (x := (-1)) dX3_figureAt_37 (by decide) ?_
      exact AW_rI dX3_figureAt_38 rfl rfl H
    · replace H := H.2 c
      refine AW_iload_n dX3_figureAt_27 rfl rfl ?_
      refine AW_bipush (x := 9) dX3_figureAt_28 (by decide) ?_
      refine AW_icmp_gt (tgt := 37) dX3_figureAt_30 (by decide) (fun c => ?_) (fun c => ?_)
      · replace H := H.1 c
        refine AW_iconst (x := (-1)) dX3_figureAt_37 (by decide) ?_
        exact AW_rI dX3_figureAt_38 rfl rfl H
      · replace H := H.2 c
        refine AW_iload_n dX3_figureAt_33 rfl rfl ?_
        refine AW_goto (tgt := 38) dX3_figureAt_34 (by decide) ?_
        exact AW_rI dX3_figureAt_38 rfl rfl H
set_option maxRecDepth 100000 in
set_option maxHeartbeats 4000000 in
theorem vc_X3_kindOf {G : xG} {d : Nat} {z : xZ} {v : xS} {Q : Int32 → xS → Prop} (B : Base z) {xa : Int32} 
    (H : aX3_kindOf G (d + 1) 2 [some (.int xa), some (.int 0)] [] z v Q) :
    oX3_kindOf G (d + 1) [(.int xa)] z v Q := by
  refine Ok_of (own := RX3) (by decide) rfl (Nat.le_of_ble_eq_true rfl) ?_
  show AW G (d + 1) 0 0 yX3_kindOf cX3_kindOf 2 (some .int) RX3 0 0 0 [some (.int xa), none] [] z v _
  refine AW_iconst (x := 0) dX3_kindOf_0 (by decide) ?_
  refine AW_istore_n (L' := [some (.int xa), some (.int 0)]) dX3_kindOf_1 rfl (by decide) rfl ?_
  exact H
set_option maxRecDepth 100000 in
set_option maxHeartbeats 4000000 in
theorem vc_X3_kindOf_2 {G : xG} {d : Nat} {z : xZ} {v : xS} {Q : Int32 → xS → Prop} (B : Base z)  {l0 : Int32} {l1 : Int32} 
    (H : ((6 ≤ l1 → Q (-1) v) ∧ (¬ 6 ≤ l1 → (vp_in l1 6 ∧ ((¬ ((xSv 0).getD l1.toNatClampNeg 0) = l0 → aX3_kindOf G (d + 1) 2 [some (.int l0), some (.int (l1 + 1))] [] z v Q) ∧ (((xSv 0).getD l1.toNatClampNeg 0) = l0 → Q l1 v)))))) :
    aX3_kindOf G (d + 1) 2 [some (.int l0), some (.int l1)] [] z v Q := by
  refine AW_iload_n dX3_kindOf_2 rfl rfl ?_
  refine AW_bipush (x := 6) dX3_kindOf_3 (by decide) ?_
  refine AW_icmp_ge (tgt := 25) dX3_kindOf_5 (by decide) (fun c => ?_) (fun c => ?_)
  · replace H := H.1 c
    refine AW_iconst (x := (-1)) dX3_kindOf_25 (by decide) ?_
    exact AW_rI dX3_kindOf_26 rfl rfl H
  · replace H := H.2 c
    refine AW_gets (i := 0) dX3_kindOf_8 (by decide) (by decide +kernel) ?_
    refine AW_iload_n dX3_kindOf_11 rfl rfl ?_
    have hi1 := H.1
    replace H := H.2
    refine AW_tald (i := 0) dX3_kindOf_12 (by decide) hi1 rfl ?_
    refine AW_iload_n dX3_kindOf_13 rfl rfl ?_
    refine AW_icmp_ne (tgt := 19) dX3_kindOf_14 (by decide) (fun c => ?_) (fun c => ?_)
    · replace H := H.1 c
      refine AW_iinc (x' := l1 + 1) (L' := [some (.int l0), some (.int (l1 + 1))]) dX3_kindOf_19 rfl rfl (by decide) rfl ?_
      refine AW_goto (tgt := 2) dX3_kindOf_22 (by decide) ?_
      exact H
    · replace H := H.2 c
      refine AW_iload_n dX3_kindOf_17 rfl rfl ?_
      exact AW_rI dX3_kindOf_18 rfl rfl H
