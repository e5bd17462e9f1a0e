set_option maxRecDepth 100000 in
set_option maxHeartbeats 4000000 in
theorem vc_X2_aimFlat {G : xG} {d : Nat} {z : xZ} {v : xS} {Q : xS → Prop} (B : Base z) {xa : Int32} 
    (H : (∀ v1 : xS, v1 = wV v 90 7 1 → (∀ v2 : xS, v2 = wV v1 90 8 xa → aX2_aimFlat G (d + 1) 12 [some (.ref 90), some (.int xa), some (.int 0)] [] z v2 Q))) :
    oX2_aimFlat G (d + 1) [(.ref 90), (.int xa)] z v Q := by
  refine Ok_of (own := RX2) (by decide) rfl (Nat.le_of_ble_eq_true rfl) ?_
  show AW G (d + 1) 0 0 yX2_aimFlat cX2_aimFlat 3 none RX2 0 0 0 [some (.ref 90), some (.int xa), none] [] z v _
  refine AW_aload_n dX2_aimFlat_0 rfl rfl ?_
  refine AW_iconst (x := 1) dX2_aimFlat_1 (by decide) ?_
  refine AW_putIN dX2_aimFlat_2 (bI_90 B) fl_X2_33 rfl (by decide) (by decide) (fun v1 hv1 => ?_)
  replace H := H v1 hv1
  refine AW_aload_n dX2_aimFlat_5 rfl rfl ?_
  refine AW_iload_n dX2_aimFlat_6 rfl rfl ?_
  refine AW_putIN dX2_aimFlat_7 (bI_90 B) fl_X2_37 rfl rfl rfl (fun v2 hv2 => ?_)
  replace H := H v2 hv2
  refine AW_iconst (x := 0) dX2_aimFlat_10 (by decide) ?_
  refine AW_istore_n (L' := [some (.ref 90), some (.int xa), some (.int 0)]) dX2_aimFlat_11 rfl (by decide) rfl ?_
  exact H
set_option maxRecDepth 100000 in
set_option maxHeartbeats 4000000 in
theorem vc_X2_aimFlat_12 {G : xG} {d : Nat} {z : xZ} {v : xS} {Q : xS → Prop} (B : Base z)  {l1 : Int32} {l2 : Int32} 
    (H : (((v.1 30 0) ≤ l2 → Q v) ∧ (¬ (v.1 30 0) ≤ l2 → (oX2_mostTakenFrom G d [(.ref 90), (.int l2)] z v (fun r2 v1 => (vp_in l2 10 ∧ (∀ v4 : xS, v4 = wV v1 98 l2.toNatClampNeg r2 → aX2_aimFlat G (d + 1) 12 [some (.ref 90), some (.int l1), some (.int (l2 + 1))] [] z v4 Q))))))) :
    aX2_aimFlat G (d + 1) 12 [some (.ref 90), some (.int l1), some (.int l2)] [] z v Q := by
  refine AW_iload_n dX2_aimFlat_12 rfl rfl ?_
  refine AW_aload_n dX2_aimFlat_13 rfl rfl ?_
  refine AW_getR dX2_aimFlat_14 (bI_90 B) fl_X2_49 (bR_90_0 B) ?_
  refine AW_getI dX2_aimFlat_17 (bI_30 B) fl_X2_53 ?_
  refine AW_icmp_ge (tgt := 40) dX2_aimFlat_20 (by decide) (fun c => ?_) (fun c => ?_)
  · replace H := H.1 c
    exact AW_rV dX2_aimFlat_40 rfl H
  · replace H := H.2 c
    refine AW_aload_n dX2_aimFlat_23 rfl rfl ?_
    refine AW_getR dX2_aimFlat_24 (bI_90 B) fl_X2_23 (bR_90_4 B) ?_
    refine AW_iload_n dX2_aimFlat_27 rfl rfl ?_
    refine AW_aload_n dX2_aimFlat_28 rfl rfl ?_
    refine AW_iload_n dX2_aimFlat_29 rfl rfl ?_
    refine AW_vI (as := [(.int l2)]) (st := [(.int l2), (.ref 98)]) dX2_aimFlat_30 (bI_90 B) (by decide) rfl mv_X2_mostTakenFrom mi_X2_mostTakenFrom ml_X2_58 (Nat.le_of_ble_eq_true rfl) rfl (Nat.le_refl 0) (Nat.le_refl 0) H (fun r2 v1 H => ?_)
    have hi3 := H.1
    replace H := H.2
    refine AW_iastN dX2_aimFlat_33 (bI_98 B) hi3 (fun v4 hv4 => ?_)
    replace H := H v4 hv4
    refine AW_iinc (x' := l2 + 1) (L' := [some (.ref 90), some (.int l1), some (.int (l2 + 1))]) dX2_aimFlat_34 rfl rfl (by decide) rfl ?_
    refine AW_goto (tgt := 12) dX2_aimFlat_37 (by decide) ?_
    exact H
set_option maxRecDepth 100000 in
set_option maxHeartbeats 4000000 in
theorem vc_X2_aimHigh {G : xG} {d : Nat} {z : xZ} {v : xS} {Q : xS → Prop} (B : Base z) {xa : Int32} {xb : Int32} 
    (H : (∀ v1 : xS, v1 = wV v 90 7 0 → (∀ v2 : xS, v2 = wV v1 90 9 xa → (∀ v3 : xS, v3 = wV v2 90 10 xb → (oX2_mostGainedBy G d [(.ref 90), (.int xa)] z v3 (fun r5 v4 => (∀ v6 : xS, v6 = wV v4 90 11 r5 → Q v6))))))) :
    oX2_aimHigh G (d + 1) [(.ref 90), (.int xa), (.int xb)] z v Q := by
  refine Ok_of (own := RX2) (by decide) rfl (Nat.le_of_ble_eq_true rfl) ?_
  show AW G (d + 1) 0 0 yX2_aimHigh cX2_aimHigh 3 none RX2 0 0 0 [some (.ref 90), some (.int xa), some (.int xb)] [] z v _
  refine AW_aload_n dX2_aimHigh_0 rfl rfl ?_
  refine AW_iconst (x := 0) dX2_aimHigh_1 (by decide) ?_
  refine AW_putIN dX2_aimHigh_2 (bI_90 B) fl_X2_33 rfl (by decide) (by decide) (fun v1 hv1 => ?_)
  replace H := H v1 hv1
  refine AW_aload_n dX2_aimHigh_5 rfl rfl ?_
  refine AW_iload_n dX2_aimHigh_6 rfl rfl ?_
  refine AW_putIN dX2_aimHigh_7 (bI_90 B) fl_X2_40 rfl rfl rfl (fun v2 hv2 => ?_)
  replace H := H v2 hv2
  refine AW_aload_n dX2_aimHigh_10 rfl rfl ?_
  refine AW_iload_n dX2_aimHigh_11 rfl rfl ?_
  refine AW_putIN dX2_aimHigh_12 (bI_90 B) fl_X2_43 rfl rfl rfl (fun v3 hv3 => ?_)
  replace H := H v3 hv3
  refine AW_aload_n dX2_aimHigh_15 rfl rfl ?_
  refine AW_aload_n dX2_aimHigh_16 rfl rfl ?_
  refine AW_iload_n dX2_aimHigh_17 rfl rfl ?_
  refine AW_vI (as := [(.int xa)]) (st := [(.ref 90)]) dX2_aimHigh_18 (bI_90 B) (by decide) rfl mv_X2_mostGainedBy mi_X2_mostGainedBy ml_X2_62 (Nat.le_of_ble_eq_true rfl) rfl (Nat.le_refl 0) (Nat.le_refl 0) H (fun r5 v4 H => ?_)
  refine AW_putIN dX2_aimHigh_21 (bI_90 B) fl_X2_46 rfl rfl rfl (fun v6 hv6 => ?_)
  replace H := H v6 hv6
  exact AW_rV dX2_aimHigh_24 rfl H
set_option maxRecDepth 100000 in
set_option maxHeartbeats 4000000 in
theorem vc_X2_isFound {G : xG} {d : Nat} {z : xZ} {v : xS} {Q : Int32 → xS → Prop} (B : Base z) {xa : Int32} 
    (H : (∀ v1 : xS, v1 = wV v 90 6 1000 → (oX1_programs G d [(.ref 30)] z v1 (fun r3 v2 => aX2_isFound G (d + 1) 17 [some (.ref 90), some (.int xa), some (.int r3), some (.int 0)] [] z v2 Q)))) :
    oX2_isFound G (d + 1) [(.ref 90), (.int xa)] z v Q := by
  refine Ok_of (own := RX2) (by decide) rfl (Nat.le_of_ble_eq_true rfl) ?_
  show AW G (d + 1) 0 0 yX2_isFound cX2_isFound 4 (some .boolean) RX2 0 0 0 [some (.ref 90), some (.int xa), none, none] [] z v _
  refine AW_aload_n dX2_isFound_0 rfl rfl ?_
  refine AW_sipush (x := 1000) dX2_isFound_1 (by decide) ?_
  refine AW_putIN dX2_isFound_4 (bI_90 B) fl_X2_29 rfl rfl rfl (fun v1 hv1 => ?_)
  replace H := H v1 hv1
  refine AW_aload_n dX2_isFound_7 rfl rfl ?_
  refine AW_getR dX2_isFound_8 (bI_90 B) fl_X2_49 (bR_90_0 B) ?_
  refine AW_vI (as := []) (st := []) dX2_isFound_11 (bI_30 B) (by decide) rfl mv_X1_programs mi_X1_programs ml_X2_65 (Nat.le_of_ble_eq_true rfl) rfl (Nat.le_refl 0) (Nat.le_refl 0) H (fun r3 v2 H => ?_)
  refine AW_istore_n (L' := [some (.ref 90), some (.int xa), some (.int r3), none]) dX2_isFound_14 rfl (by decide) rfl ?_
  refine AW_iconst (x := 0) dX2_isFound_15 (by decide) ?_
  refine AW_istore_n (L' := [some (.ref 90), some (.int xa), some (.int r3), some (.int 0)]) dX2_isFound_16 rfl (by decide) rfl ?_
  exact H
set_option maxRecDepth 100000 in
set_option maxHeartbeats 4000000 in
theorem vc_X2_isFound_17 {G : xG} {d : Nat} {z : xZ} {v : xS} {Q : Int32 → xS → Prop} (B : Base z)  {l1 : Int32} {l2 : Int32} {l3 : Int32} 
    (H : ((l2 ≤ l3 → (∀ v1 : xS, v1 = wA v 92 (va_cpy (v.1 31) (v.1 92) ((0 : Int32).toNatClampNeg) ((0 : Int32).toNatClampNeg) ((10 : Int32).toNatClampNeg)) → (oX2_seek G d [(.ref 90), (.int 0), (.int l1), (.int 0)] z v1 (fun v2 => (((v2.1 90 6) = 1000 → Q 0 v2) ∧ (¬ (v2.1 90 6) = 1000 → Q 1 v2)))))) ∧ (¬ l2 ≤ l3 → ((27 ≤ l3 → (∀ v3 : xS, v3 = wA v 92 (va_cpy (v.1 31) (v.1 92) ((0 : Int32).toNatClampNeg) ((0 : Int32).toNatClampNeg) ((10 : Int32).toNatClampNeg)) → (oX2_seek G d [(.ref 90), (.int 0), (.int l1), (.int 0)] z v3 (fun v4 => (((v4.1 90 6) = 1000 → Q 0 v4) ∧ (¬ (v4.1 90 6) = 1000 → Q 1 v4)))))) ∧ (¬ 27 ≤ l3 → (oX1_breathOf G d [(.ref 30), (.int l3)] z v (fun r6 v5 => (vp_in l3 27 ∧ (∀ v8 : xS, v8 = wV v5 96 l3.toNatClampNeg r6 → aX2_isFound G (d + 1) 17 [some (.ref 90), some (.int l1), some (.int l2), some (.int (l3 + 1))] [] z v8 Q))))))))) :
    aX2_isFound G (d + 1) 17 [some (.ref 90), some (.int l1), some (.int l2), some (.int l3)] [] z v Q := by
  refine AW_iload_n dX2_isFound_17 rfl rfl ?_
  refine AW_iload_n dX2_isFound_18 rfl rfl ?_
  refine AW_icmp_ge (tgt := 48) dX2_isFound_19 (by decide) (fun c => ?_) (fun c => ?_)
  · replace H := H.1 c
    refine AW_aload_n dX2_isFound_48 rfl rfl ?_
    refine AW_getR dX2_isFound_49 (bI_90 B) fl_X2_49 (bR_90_0 B) ?_
    refine AW_getR dX2_isFound_52 (bI_30 B) fl_X2_72 (bR_30_4 B) ?_
    refine AW_iconst (x := 0) dX2_isFound_55 (by decide) ?_
    refine AW_aload_n dX2_isFound_56 rfl rfl ?_
    refine AW_getR dX2_isFound_57 (bI_90 B) fl_X2_11 (bR_90_1 B) ?_
    refine AW_iconst (x := 0) dX2_isFound_60 (by decide) ?_
    refine AW_aald dX2_isFound_61 (bI_91 B) (Or.inr rfl) (by unfold vp_in; decide) (w := .ref 92) (by rw [(bA_91 B _ (vp_lt (show vp_in 0 4 from (by unfold vp_in; decide)))).1]; rfl) ?_
    refine AW_iconst (x := 0) dX2_isFound_62 (by decide) ?_
    refine AW_bipush (x := 10) dX2_isFound_63 (by decide) ?_
    refine AW_copyN dX2_isFound_65 ml_X2_75 (bI_31 B) (bI_92 B) (by decide) (by decide) (by decide) (by decide) (by decide) (Nat.succ_pos _) (Nat.le_of_ble_eq_true rfl) (fun v1 hv1 => ?_)
    replace H := H v1 hv1
    refine AW_aload_n dX2_isFound_68 rfl rfl ?_
    refine AW_iconst (x := 0) dX2_isFound_69 (by decide) ?_
    refine AW_iload_n dX2_isFound_70 rfl rfl ?_
    refine AW_iconst (x := 0) dX2_isFound_71 (by decide) ?_
    refine AW_vV (as := [(.int 0), (.int l1), (.int 0)]) (st := []) dX2_isFound_72 (bI_90 B) (by decide) rfl mv_X2_seek mi_X2_seek ml_X2_81 (Nat.le_of_ble_eq_true rfl) rfl (Nat.le_refl 0) (Nat.le_refl 0) H (fun v2 H => ?_)
    refine AW_aload_n dX2_isFound_75 rfl rfl ?_
    refine AW_getI dX2_isFound_76 (bI_90 B) fl_X2_29 ?_
    refine AW_sipush (x := 1000) dX2_isFound_79 (by decide) ?_
    refine AW_icmp_eq (tgt := 89) dX2_isFound_82 (by decide) (fun c => ?_) (fun c => ?_)
    · replace H := H.1 c
      refine AW_iconst (x := 0) dX2_isFound_89 (by decide) ?_
      exact AW_rI dX2_isFound_90 rfl (by decide) H
    · replace H := H.2 c
      refine AW_iconst (x := 1) dX2_isFound_85 (by decide) ?_
      refine AW_goto (tgt := 90) dX2_isFound_86 (by decide) ?_
      exact AW_rI dX2_isFound_90 rfl (by decide) H
  · replace H := H.2 c
    refine AW_iload_n dX2_isFound_22 rfl rfl ?_
    refine AW_bipush (x := 27) dX2_isFound_23 (by decide) ?_
    refine AW_icmp_ge (tgt := 48) dX2_isFound_25 (by decide) (fun c => ?_) (fun c => ?_)
    · replace H := H.1 c
      refine AW_aload_n dX2_isFound_48 rfl rfl ?_
      refine AW_getR dX2_isFound_49 (bI_90 B) fl_X2_49 (bR_90_0 B) ?_
      refine AW_getR dX2_isFound_52 (bI_30 B) fl_X2_72 (bR_30_4 B) ?_
      refine AW_iconst (x := 0) dX2_isFound_55 (by decide) ?_
      refine AW_aload_n dX2_isFound_56 rfl rfl ?_
      refine AW_getR dX2_isFound_57 (bI_90 B) fl_X2_11 (bR_90_1 B) ?_
      refine AW_iconst (x := 0) dX2_isFound_60 (by decide) ?_
      refine AW_aald dX2_isFound_61 (bI_91 B) (Or.inr rfl) (by unfold vp_in; decide) (w := .ref 92) (by rw [(bA_91 B _ (vp_lt (show vp_in 0 4 from (by unfold vp_in; decide)))).1]; rfl) ?_
      refine AW_iconst (x := 0) dX2_isFound_62 (by decide) ?_
      refine AW_bipush (x := 10) dX2_isFound_63 (by decide) ?_
      refine AW_copyN dX2_isFound_65 ml_X2_75 (bI_31 B) (bI_92 B) (by decide) (by decide) (by decide) (by decide) (by decide) (Nat.succ_pos _) (Nat.le_of_ble_eq_true rfl) (fun v3 hv3 => ?_)
      replace H := H v3 hv3
      refine AW_aload_n dX2_isFound_68 rfl rfl ?_
      refine AW_iconst (x := 0) dX2_isFound_69 (by decide) ?_
      refine AW_iload_n dX2_isFound_70 rfl rfl ?_
      refine AW_iconst (x := 0) dX2_isFound_71 (by decide) ?_
      refine AW_vV (as := [(.int 0), (.int l1), (.int 0)]) (st := []) dX2_isFound_72 (bI_90 B) (by decide) rfl mv_X2_seek mi_X2_seek ml_X2_81 (Nat.le_of_ble_eq_true rfl) rfl (Nat.le_refl 0) (Nat.le_refl 0) H (fun v4 H => ?_)
      refine AW_aload_n dX2_isFound_75 rfl rfl ?_
      refine AW_getI dX2_isFound_76 (bI_90 B) fl_X2_29 ?_
      refine AW_sipush (x := 1000) dX2_isFound_79 (by decide) ?_
      refine AW_icmp_eq (tgt := 89) dX2_isFound_82 (by decide) (fun c => ?_) (fun c => ?_)
      · replace H := H.1 c
        refine AW_iconst (x := 0) dX2_isFound_89 (by decide) ?_
        exact AW_rI dX2_isFound_90 rfl (by decide) H
      · replace H := H.2 c
        refine AW_iconst (x := 1) dX2_isFound_85 (by decide) ?_
        refine AW_goto (tgt := 90) dX2_isFound_86 (by decide) ?_
        exact AW_rI dX2_isFound_90 rfl (by decide) H
    · replace H := H.2 c
      refine AW_aload_n dX2_isFound_28 rfl rfl ?_
      refine AW_getR dX2_isFound_29 (bI_90 B) fl_X2_16 (bR_90_2 B) ?_
      refine AW_iload_n dX2_isFound_32 rfl rfl ?_
      refine AW_aload_n dX2_isFound_33 rfl rfl ?_
      refine AW_getR dX2_isFound_34 (bI_90 B) fl_X2_49 (bR_90_0 B) ?_
      refine AW_iload_n dX2_isFound_37 rfl rfl ?_
      refine AW_vI (as := [(.int l3)]) (st := [(.int l3), (.ref 96)]) dX2_isFound_38 (bI_30 B) (by decide) rfl mv_X1_breathOf mi_X1_breathOf ml_X2_69 (Nat.le_of_ble_eq_true rfl) rfl (Nat.le_refl 0) (Nat.le_refl 0) H (fun r6 v5 H => ?_)
      have hi7 := H.1
      replace H := H.2
      refine AW_iastN dX2_isFound_41 (bI_96 B) hi7 (fun v8 hv8 => ?_)
      replace H := H v8 hv8
      refine AW_iinc (x' := l3 + 1) (L' := [some (.ref 90), some (.int l1), some (.int l2), some (.int (l3 + 1))]) dX2_isFound_42 rfl rfl (by decide) rfl ?_
      refine AW_goto (tgt := 17) dX2_isFound_45 (by decide) ?_
      exact H
set_option maxRecDepth 100000 in
set_option maxHeartbeats 4000000 in
theorem vc_X2_seek {G : xG} {d : Nat} {z : xZ} {v : xS} {Q : xS → Prop} (B : Base z) {xa : Int32} {xb : Int32} {xc : Int32} 
    (H : ((xb < xa → Q v) ∧ (¬ xb < xa → ((xb ≤ 3 → (((v.1 90 6) ≤ xc → Q v) ∧ (¬ (v.1 90 6) ≤ xc → (vp_in xa 4 ∧ (oX2_isWithinReach G d [(.ref 90), (.ref (92 + xa.toNatClampNeg)), (.int (xb - xa))] z v (fun r3 v2 => ((¬ r3 = 0 → ((¬ xa = xb → (oX1_programs G d [(.ref 30)] z v2 (fun r5 v4 => aX2_seek G (d + 1) 73 [some (.ref 90), some (.int xa), some (.int xb), some (.int xc), some (.int r5), some (.int 0), none] [] z v4 Q))) ∧ (xa = xb → (∀ v6 : xS, v6 = wV v2 90 6 xc → (∀ v7 : xS, v7 = wA v6 99 (va_cpy (v6.1 97) (v6.1 99) ((0 : Int32).toNatClampNeg) ((0 : Int32).toNatClampNeg) ((3 : Int32).toNatClampNeg)) → Q v7))))) ∧ (r3 = 0 → Q v2)))))))) ∧ (¬ xb ≤ 3 → Q v))))) :
    oX2_seek G (d + 1) [(.ref 90), (.int xa), (.int xb), (.int xc)] z v Q := by
  refine Ok_of (own := RX2) (by decide) rfl (Nat.le_of_ble_eq_true rfl) ?_
  show AW G (d + 1) 0 0 yX2_seek cX2_seek 7 none RX2 0 0 0 [some (.ref 90), some (.int xa), some (.int xb), some (.int xc), none, none, none] [] z v _
  refine AW_iload_n dX2_seek_0 rfl rfl ?_
  refine AW_iload_n dX2_seek_1 rfl rfl ?_
  refine AW_icmp_gt (tgt := 10) dX2_seek_2 (by decide) (fun c => ?_) (fun c => ?_)
  · replace H := H.1 c
    exact AW_rV dX2_seek_10 rfl H
  · replace H := H.2 c
    refine AW_iload_n dX2_seek_5 rfl rfl ?_
    refine AW_iconst (x := 3) dX2_seek_6 (by decide) ?_
    refine AW_icmp_le (tgt := 11) dX2_seek_7 (by decide) (fun c => ?_) (fun c => ?_)
    · replace H := H.1 c
      refine AW_iload_n dX2_seek_11 rfl rfl ?_
      refine AW_aload_n dX2_seek_12 rfl rfl ?_
      refine AW_getI dX2_seek_13 (bI_90 B) fl_X2_29 ?_
      refine AW_icmp_ge (tgt := 35) dX2_seek_16 (by decide) (fun c => ?_) (fun c => ?_)
      · replace H := H.1 c
        exact AW_rV dX2_seek_35 rfl H
      · replace H := H.2 c
        refine AW_aload_n dX2_seek_19 rfl rfl ?_
        refine AW_aload_n dX2_seek_20 rfl rfl ?_
        refine AW_getR dX2_seek_21 (bI_90 B) fl_X2_11 (bR_90_1 B) ?_
        refine AW_iload_n dX2_seek_24 rfl rfl ?_
        have hi1 := H.1
        replace H := H.2
        refine AW_aald dX2_seek_25 (bI_91 B) (Or.inr rfl) hi1 (w := .ref (92 + xa.toNatClampNeg)) (by rw [(bA_91 B _ (vp_lt hi1)).1]; rfl) ?_
        refine AW_iload_n dX2_seek_26 rfl rfl ?_
        refine AW_iload_n dX2_seek_27 rfl rfl ?_
        refine AW_isub dX2_seek_28 ?_
        refine AW_vI (as := [(.ref (92 + xa.toNatClampNeg)), (.int (xb - xa))]) (st := []) dX2_seek_29 (bI_90 B) (by decide) rfl mv_X2_isWithinReach mi_X2_isWithinReach ml_X2_85 (Nat.le_of_ble_eq_true rfl) rfl (Nat.le_refl 0) (Nat.le_refl 0) H (fun r3 v2 H => ?_)
        refine AW_if_ne (tgt := 36) dX2_seek_32 (by decide) (fun c => ?_) (fun c => ?_)
        · replace H := H.1 c
          refine AW_iload_n dX2_seek_36 rfl rfl ?_
          refine AW_iload_n dX2_seek_37 rfl rfl ?_
          refine AW_icmp_ne (tgt := 61) dX2_seek_38 (by decide) (fun c => ?_) (fun c => ?_)
          · replace H := H.1 c
            refine AW_aload_n dX2_seek_61 rfl rfl ?_
            refine AW_getR dX2_seek_62 (bI_90 B) fl_X2_49 (bR_90_0 B) ?_
            refine AW_vI (as := []) (st := []) dX2_seek_65 (bI_30 B) (by decide) rfl mv_X1_programs mi_X1_programs ml_X2_65 (Nat.le_of_ble_eq_true rfl) rfl (Nat.le_refl 0) (Nat.le_refl 0) H (fun r5 v4 H => ?_)
            refine AW_istore (L' := [some (.ref 90), some (.int xa), some (.int xb), some (.int xc), some (.int r5), none, none]) dX2_seek_68 (by decide) rfl ?_
            refine AW_iconst (x := 0) dX2_seek_70 (by decide) ?_
            refine AW_istore (L' := [some (.ref 90), some (.int xa), some (.int xb), some (.int xc), some (.int r5), some (.int 0), none]) dX2_seek_71 (by decide) rfl ?_
            exact H
          · replace H := H.2 c
            refine AW_aload_n dX2_seek_41 rfl rfl ?_
            refine AW_iload_n dX2_seek_42 rfl rfl ?_
            refine AW_putIN dX2_seek_43 (bI_90 B) fl_X2_29 rfl rfl rfl (fun v6 hv6 => ?_)
            replace H := H v6 hv6
            refine AW_aload_n dX2_seek_46 rfl rfl ?_
            refine AW_getR dX2_seek_47 (bI_90 B) fl_X2_20 (bR_90_3 B) ?_
            refine AW_iconst (x := 0) dX2_seek_50 (by decide) ?_
            refine AW_aload_n dX2_seek_51 rfl rfl ?_
            refine AW_getR dX2_seek_52 (bI_90 B) fl_X2_26 (bR_90_5 B) ?_
            refine AW_iconst (x := 0) dX2_seek_55 (by decide) ?_
            refine AW_iconst (x := 3) dX2_seek_56 (by decide) ?_
            refine AW_copyN dX2_seek_57 ml_X2_75 (bI_97 B) (bI_99 B) (by decide) (by decide) (by decide) (by decide) (by decide) (Nat.succ_pos _) (Nat.le_of_ble_eq_true rfl) (fun v7 hv7 => ?_)
            replace H := H v7 hv7
            exact AW_rV dX2_seek_60 rfl H
        · replace H := H.2 c
          exact AW_rV dX2_seek_35 rfl H
    · replace H := H.2 c
      exact AW_rV dX2_seek_10 rfl H
set_option maxRecDepth 100000 in
set_option maxHeartbeats 4000000 in
theorem vc_X2_seek_73 {G : xG} {d : Nat} {z : xZ} {v : xS} {Q : xS → Prop} (B : Base z)  {l1 : Int32} {l2 : Int32} {l3 : Int32} {l4 : Int32} {l5 : Int32} 
    (H : ((l4 ≤ l5 → Q v) ∧ (¬ l4 ≤ l5 → ((27 ≤ l5 → Q v) ∧ (¬ 27 ≤ l5 → (vp_in l5 27 ∧ (((l3 + (v.1 96 l5.toNatClampNeg)) < (v.1 90 6) → (vp_in l1 4 ∧ (vp_in (l1 + 1) 4 ∧ (∀ v4 : xS, v4 = wA v (92 + (l1 + 1).toNatClampNeg) (va_cpy (v.1 (92 + l1.toNatClampNeg)) (v.1 (92 + (l1 + 1).toNatClampNeg)) ((0 : Int32).toNatClampNeg) ((0 : Int32).toNatClampNeg) ((10 : Int32).toNatClampNeg)) → (vp_in (l1 + 1) 4 ∧ (oX2_isPlayedForUse G d [(.ref 90), (.ref (92 + (l1 + 1).toNatClampNeg)), (.int l5)] z v4 (fun r7 v6 => ((¬ r7 = 0 → (vp_in l1 3 ∧ (∀ v9 : xS, v9 = wV v6 97 l1.toNatClampNeg l5 → (oX2_seek G d [(.ref 90), (.int (l1 + 1)), (.int l2), (.int (l3 + (v.1 96 l5.toNatClampNeg)))] z v9 (fun v10 => aX2_seek G (d + 1) 73 [some (.ref 90), some (.int l1), some (.int l2), some (.int l3), some (.int l4), some (.int (l5 + 1)), none] [] z v10 Q))))) ∧ (r7 = 0 → aX2_seek G (d + 1) 73 [some (.ref 90), some (.int l1), some (.int l2), some (.int l3), some (.int l4), some (.int (l5 + 1)), none] [] z v6 Q))))))))) ∧ (¬ (l3 + (v.1 96 l5.toNatClampNeg)) < (v.1 90 6) → aX2_seek G (d + 1) 73 [some (.ref 90), some (.int l1), some (.int l2), some (.int l3), some (.int l4), some (.int (l5 + 1)), none] [] z v Q)))))))) :
    aX2_seek G (d + 1) 73 [some (.ref 90), some (.int l1), some (.int l2), some (.int l3), some (.int l4), some (.int l5), none] [] z v Q := by
  refine AW_iload dX2_seek_73 rfl ?_
  refine AW_iload dX2_seek_75 rfl ?_
  refine AW_icmp_ge (tgt := 175) dX2_seek_77 (by decide) (fun c => ?_) (fun c => ?_)
  · replace H := H.1 c
    exact AW_rV dX2_seek_175 rfl H
  · replace H := H.2 c
    refine AW_iload dX2_seek_80 rfl ?_
    refine AW_bipush (x := 27) dX2_seek_82 (by decide) ?_
    refine AW_icmp_ge (tgt := 175) dX2_seek_84 (by decide) (fun c => ?_) (fun c => ?_)
    · replace H := H.1 c
      exact AW_rV dX2_seek_175 rfl H
    · replace H := H.2 c
      refine AW_iload_n dX2_seek_87 rfl rfl ?_
      refine AW_aload_n dX2_seek_88 rfl rfl ?_
      refine AW_getR dX2_seek_89 (bI_90 B) fl_X2_16 (bR_90_2 B) ?_
      refine AW_iload dX2_seek_92 rfl ?_
      have hi1 := H.1
      replace H := H.2
      refine AW_iald dX2_seek_94 (bI_96 B) hi1 ?_
      refine AW_iadd dX2_seek_95 ?_
      refine AW_istore (L' := [some (.ref 90), some (.int l1), some (.int l2), some (.int l3), some (.int l4), some (.int l5), some (.int (l3 + (v.1 96 l5.toNatClampNeg)))]) dX2_seek_96 (by decide) rfl ?_
      refine AW_iload dX2_seek_98 rfl ?_
      refine AW_aload_n dX2_seek_100 rfl rfl ?_
      refine AW_getI dX2_seek_101 (bI_90 B) fl_X2_29 ?_
      refine AW_icmp_lt (tgt := 110) dX2_seek_104 (by decide) (fun c => ?_) (fun c => ?_)
      · replace H := H.1 c
        refine AW_aload_n dX2_seek_110 rfl rfl ?_
        refine AW_getR dX2_seek_111 (bI_90 B) fl_X2_11 (bR_90_1 B) ?_
        refine AW_iload_n dX2_seek_114 rfl rfl ?_
        have hi2 := H.1
        replace H := H.2
        refine AW_aald dX2_seek_115 (bI_91 B) (Or.inr rfl) hi2 (w := .ref (92 + l1.toNatClampNeg)) (by rw [(bA_91 B _ (vp_lt hi2)).1]; rfl) ?_
        refine AW_iconst (x := 0) dX2_seek_116 (by decide) ?_
        refine AW_aload_n dX2_seek_117 rfl rfl ?_
        refine AW_getR dX2_seek_118 (bI_90 B) fl_X2_11 (bR_90_1 B) ?_
        refine AW_iload_n dX2_seek_121 rfl rfl ?_
        refine AW_iconst (x := 1) dX2_seek_122 (by decide) ?_
        refine AW_iadd dX2_seek_123 ?_
        have hi3 := H.1
        replace H := H.2
        refine AW_aald dX2_seek_124 (bI_91 B) (Or.inr rfl) hi3 (w := .ref (92 + (l1 + 1).toNatClampNeg)) (by rw [(bA_91 B _ (vp_lt hi3)).1]; rfl) ?_
        refine AW_iconst (x := 0) dX2_seek_125 (by decide) ?_
        refine AW_bipush (x := 10) dX2_seek_126 (by decide) ?_
        refine AW_copyN dX2_seek_128 ml_X2_75 (bA_91 B _ (vp_lt hi2)).2 (bA_91 B _ (vp_lt hi3)).2 (by decide) (by decide) (by decide) (by decide) (by decide) (Nat.succ_pos _) (Nat.le_of_ble_eq_true rfl) (fun v4 hv4 => ?_)
        replace H := H v4 hv4
        refine AW_aload_n dX2_seek_131 rfl rfl ?_
        refine AW_aload_n dX2_seek_132 rfl rfl ?_
        refine AW_getR dX2_seek_133 (bI_90 B) fl_X2_11 (bR_90_1 B) ?_
        refine AW_iload_n dX2_seek_136 rfl rfl ?_
        refine AW_iconst (x := 1) dX2_seek_137 (by decide) ?_
        refine AW_iadd dX2_seek_138 ?_
        have hi5 := H.1
        replace H := H.2
        refine AW_aald dX2_seek_139 (bI_91 B) (Or.inr rfl) hi5 (w := .ref (92 + (l1 + 1).toNatClampNeg)) (by rw [(bA_91 B _ (vp_lt hi5)).1]; rfl) ?_
        refine AW_iload dX2_seek_140 rfl ?_
        refine AW_vI (as := [(.ref (92 + (l1 + 1).toNatClampNeg)), (.int l5)]) (st := []) dX2_seek_142 (bI_90 B) (by decide) rfl mv_X2_isPlayedForUse mi_X2_isPlayedForUse ml_X2_89 (Nat.le_of_ble_eq_true rfl) rfl (Nat.le_refl 0) (Nat.le_refl 0) H (fun r7 v6 H => ?_)
        refine AW_if_ne (tgt := 151) dX2_seek_145 (by decide) (fun c => ?_) (fun c => ?_)
        · replace H := H.1 c
          refine AW_aload_n dX2_seek_151 rfl rfl ?_
          refine AW_getR dX2_seek_152 (bI_90 B) fl_X2_20 (bR_90_3 B) ?_
          refine AW_iload_n dX2_seek_155 rfl rfl ?_
          refine AW_iload dX2_seek_156 rfl ?_
          have hi8 := H.1
          replace H := H.2
          refine AW_iastN dX2_seek_158 (bI_97 B) hi8 (fun v9 hv9 => ?_)
          replace H := H v9 hv9
          refine AW_aload_n dX2_seek_159 rfl rfl ?_
          refine AW_iload_n dX2_seek_160 rfl rfl ?_
          refine AW_iconst (x := 1) dX2_seek_161 (by decide) ?_
          refine AW_iadd dX2_seek_162 ?_
          refine AW_iload_n dX2_seek_163 rfl rfl ?_
          refine AW_iload dX2_seek_164 rfl ?_
          refine AW_vV (as := [(.int (l1 + 1)), (.int l2), (.int (l3 + (v.1 96 l5.toNatClampNeg)))]) (st := []) dX2_seek_166 (bI_90 B) (by decide) rfl mv_X2_seek mi_X2_seek ml_X2_81 (Nat.le_of_ble_eq_true rfl) rfl (Nat.le_refl 0) (Nat.le_refl 0) H (fun v10 H => ?_)
          refine AW_iinc (x' := l5 + 1) (L' := [some (.ref 90), some (.int l1), some (.int l2), some (.int l3), some (.int l4), some (.int (l5 + 1)), some (.int (l3 + (v.1 96 l5.toNatClampNeg)))]) dX2_seek_169 rfl rfl (by decide) rfl ?_
          refine AW_goto (tgt := 73) dX2_seek_172 (by decide) ?_
          refine AW_sub (L' := [some (.ref 90), some (.int l1), some (.int l2), some (.int l3), some (.int l4), some (.int (l5 + 1)), none]) (show xle _ _ from ⟨rfl, ⟨rfl, ⟨rfl, ⟨rfl, ⟨rfl, ⟨rfl, trivial⟩⟩⟩⟩⟩⟩) ?_
          exact H
        · replace H := H.2 c
          refine AW_goto (tgt := 169) dX2_seek_148 (by decide) ?_
          refine AW_iinc (x' := l5 + 1) (L' := [some (.ref 90), some (.int l1), some (.int l2), some (.int l3), some (.int l4), some (.int (l5 + 1)), some (.int (l3 + (v.1 96 l5.toNatClampNeg)))]) dX2_seek_169 rfl rfl (by decide) rfl ?_
          refine AW_goto (tgt := 73) dX2_seek_172 (by decide) ?_
          refine AW_sub (L' := [some (.ref 90), some (.int l1), some (.int l2), some (.int l3), some (.int l4), some (.int (l5 + 1)), none]) (show xle _ _ from ⟨rfl, ⟨rfl, ⟨rfl, ⟨rfl, ⟨rfl, ⟨rfl, trivial⟩⟩⟩⟩⟩⟩) ?_
          exact H
      · replace H := H.2 c
        refine AW_goto (tgt := 169) dX2_seek_107 (by decide) ?_
        refine AW_iinc (x' := l5 + 1) (L' := [some (.ref 90), some (.int l1), some (.int l2), some (.int l3), some (.int l4), some (.int (l5 + 1)), some (.int (l3 + (v.1 96 l5.toNatClampNeg)))]) dX2_seek_169 rfl rfl (by decide) rfl ?_
        refine AW_goto (tgt := 73) dX2_seek_172 (by decide) ?_
        refine AW_sub (L' := [some (.ref 90), some (.int l1), some (.int l2), some (.int l3), some (.int l4), some (.int (l5 + 1)), none]) (show xle _ _ from ⟨rfl, ⟨rfl, ⟨rfl, ⟨rfl, ⟨rfl, ⟨rfl, trivial⟩⟩⟩⟩⟩⟩) ?_
        exact H
set_option maxRecDepth 100000 in
set_option maxHeartbeats 4000000 in
theorem vc_X2_isPlayedForUse {G : xG} {d : Nat} {z : xZ} {v : xS} {Q : Int32 → xS → Prop} (B : Base z) {g : Nat} {xa : Int32} (hg : xin z g 10 10)
    (H : aX2_isPlayedForUse G (d + 1) 5 [some (.ref 90), some (.ref g), some (.int xa), some (.int xa), some (.int 0), none] [] z v Q) :
    oX2_isPlayedForUse G (d + 1) [(.ref 90), (.ref g), (.int xa)] z v Q := by
  refine Ok_of (own := RX2) (by decide) rfl (Nat.le_of_ble_eq_true rfl) ?_
  show AW G (d + 1) 0 0 yX2_isPlayedForUse cX2_isPlayedForUse 6 (some .boolean) RX2 0 0 0 [some (.ref 90), some (.ref g), some (.int xa), none, none, none] [] z v _
  refine AW_iload_n dX2_isPlayedForUse_0 rfl rfl ?_
  refine AW_istore_n (L' := [some (.ref 90), some (.ref g), some (.int xa), some (.int xa), none, none]) dX2_isPlayedForUse_1 rfl (by decide) rfl ?_
  refine AW_iconst (x := 0) dX2_isPlayedForUse_2 (by decide) ?_
  refine AW_istore (L' := [some (.ref 90), some (.ref g), some (.int xa), some (.int xa), some (.int 0), none]) dX2_isPlayedForUse_3 (by decide) rfl ?_
  exact H
set_option maxRecDepth 100000 in
set_option maxHeartbeats 4000000 in
theorem vc_X2_isPlayedForUse_5 {G : xG} {d : Nat} {z : xZ} {v : xS} {Q : Int32 → xS → Prop} (B : Base z) {g : Nat} {l2 : Int32} {l3 : Int32} {l4 : Int32} (hg : xin z g 10 10)
    (H : (((v.1 30 1) ≤ l4 → Q 1 v) ∧ (¬ (v.1 30 1) ≤ l4 → (((l3 - l3 / 3 * 3) = 0 → aX2_isPlayedForUse G (d + 1) 5 [some (.ref 90), some (.ref g), some (.int l2), some (.int (l3 / 3)), some (.int (l4 + 1)), none] [] z v Q) ∧ (¬ (l3 - l3 / 3 * 3) = 0 → (oX1_playTune G d [(.ref 30), (.ref g), (.int l4), (.int (l3 - l3 / 3 * 3))] z v (fun r2 v1 => ((¬ r2 = 0 → aX2_isPlayedForUse G (d + 1) 5 [some (.ref 90), some (.ref g), some (.int l2), some (.int (l3 / 3)), some (.int (l4 + 1)), none] [] z v1 Q) ∧ (r2 = 0 → Q 0 v1))))))))) :
    aX2_isPlayedForUse G (d + 1) 5 [some (.ref 90), some (.ref g), some (.int l2), some (.int l3), some (.int l4), none] [] z v Q := by
  refine AW_iload dX2_isPlayedForUse_5 rfl ?_
  refine AW_aload_n dX2_isPlayedForUse_7 rfl rfl ?_
  refine AW_getR dX2_isPlayedForUse_8 (bI_90 B) fl_X2_49 (bR_90_0 B) ?_
  refine AW_getI dX2_isPlayedForUse_11 (bI_30 B) fl_X2_92 ?_
  refine AW_icmp_ge (tgt := 54) dX2_isPlayedForUse_14 (by decide) (fun c => ?_) (fun c => ?_)
  · replace H := H.1 c
    refine AW_iconst (x := 1) dX2_isPlayedForUse_54 (by decide) ?_
    exact AW_rI dX2_isPlayedForUse_55 rfl (by decide) H
  · replace H := H.2 c
    refine AW_iload_n dX2_isPlayedForUse_17 rfl rfl ?_
    refine AW_iconst (x := 3) dX2_isPlayedForUse_18 (by decide) ?_
    refine AW_irem dX2_isPlayedForUse_19 (by decide) ?_
    refine AW_istore (L' := [some (.ref 90), some (.ref g), some (.int l2), some (.int l3), some (.int l4), some (.int (l3 - l3 / 3 * 3))]) dX2_isPlayedForUse_20 (by decide) rfl ?_
    refine AW_iload dX2_isPlayedForUse_22 rfl ?_
    refine AW_if_eq (tgt := 44) dX2_isPlayedForUse_24 (by decide) (fun c => ?_) (fun c => ?_)
    · replace H := H.1 c
      refine AW_iload_n dX2_isPlayedForUse_44 rfl rfl ?_
      refine AW_iconst (x := 3) dX2_isPlayedForUse_45 (by decide) ?_
      refine AW_idiv dX2_isPlayedForUse_46 (by decide) ?_
      refine AW_istore_n (L' := [some (.ref 90), some (.ref g), some (.int l2), some (.int (l3 / 3)), some (.int l4), some (.int (l3 - l3 / 3 * 3))]) dX2_isPlayedForUse_47 rfl (by decide) rfl ?_
      refine AW_iinc (x' := l4 + 1) (L' := [some (.ref 90), some (.ref g), some (.int l2), some (.int (l3 / 3)), some (.int (l4 + 1)), some (.int (l3 - l3 / 3 * 3))]) dX2_isPlayedForUse_48 rfl rfl (by decide) rfl ?_
      refine AW_goto (tgt := 5) dX2_isPlayedForUse_51 (by decide) ?_
      refine AW_sub (L' := [some (.ref 90), some (.ref g), some (.int l2), some (.int (l3 / 3)), some (.int (l4 + 1)), none]) (show xle _ _ from ⟨rfl, ⟨rfl, ⟨rfl, ⟨rfl, ⟨rfl, trivial⟩⟩⟩⟩⟩) ?_
      exact H
    · replace H := H.2 c
      refine AW_aload_n dX2_isPlayedForUse_27 rfl rfl ?_
      refine AW_getR dX2_isPlayedForUse_28 (bI_90 B) fl_X2_49 (bR_90_0 B) ?_
      refine AW_aload_n dX2_isPlayedForUse_31 rfl rfl ?_
      refine AW_iload dX2_isPlayedForUse_32 rfl ?_
      refine AW_iload dX2_isPlayedForUse_34 rfl ?_
      refine AW_vI (as := [(.ref g), (.int l4), (.int (l3 - l3 / 3 * 3))]) (st := []) dX2_isPlayedForUse_36 (bI_30 B) (by decide) rfl mv_X1_playTune mi_X1_playTune ml_X2_95 (Nat.le_of_ble_eq_true rfl) rfl (Nat.le_refl 0) (Nat.le_refl 0) H (fun r2 v1 H => ?_)
      refine AW_if_ne (tgt := 44) dX2_isPlayedForUse_39 (by decide) (fun c => ?_) (fun c => ?_)
      · replace H := H.1 c
        refine AW_iload_n dX2_isPlayedForUse_44 rfl rfl ?_
        refine AW_iconst (x := 3) dX2_isPlayedForUse_45 (by decide) ?_
        refine AW_idiv dX2_isPlayedForUse_46 (by decide) ?_
        refine AW_istore_n (L' := [some (.ref 90), some (.ref g), some (.int l2), some (.int (l3 / 3)), some (.int l4), some (.int (l3 - l3 / 3 * 3))]) dX2_isPlayedForUse_47 rfl (by decide) rfl ?_
        refine AW_iinc (x' := l4 + 1) (L' := [some (.ref 90), some (.ref g), some (.int l2), some (.int (l3 / 3)), some (.int (l4 + 1)), some (.int (l3 - l3 / 3 * 3))]) dX2_isPlayedForUse_48 rfl rfl (by decide) rfl ?_
        refine AW_goto (tgt := 5) dX2_isPlayedForUse_51 (by decide) ?_
        refine AW_sub (L' := [some (.ref 90), some (.ref g), some (.int l2), some (.int (l3 / 3)), some (.int (l4 + 1)), none]) (show xle _ _ from ⟨rfl, ⟨rfl, ⟨rfl, ⟨rfl, ⟨rfl, trivial⟩⟩⟩⟩⟩) ?_
        exact H
      · replace H := H.2 c
        refine AW_iconst (x := 0) dX2_isPlayedForUse_42 (by decide) ?_
        exact AW_rI dX2_isPlayedForUse_43 rfl (by decide) H
set_option maxRecDepth 100000 in
set_option maxHeartbeats 4000000 in
theorem vc_X2_isWithinReach {G : xG} {d : Nat} {z : xZ} {v : xS} {Q : Int32 → xS → Prop} (B : Base z) {g : Nat} {xa : Int32} (hg : xin z g 10 10)
    (H : ((¬ (v.1 90 7) = 0 → aX2_isWithinReach G (d + 1) 35 [some (.ref 90), some (.ref g), some (.int xa), some (.int 0)] [] z v Q) ∧ ((v.1 90 7) = 0 → (vp_in (v.1 90 9) 10 ∧ ((((v.1 g (v.1 90 9).toNatClampNeg) + ((v.1 90 11) * xa)) < (v.1 90 10) → Q 0 v) ∧ (¬ ((v.1 g (v.1 90 9).toNatClampNeg) + ((v.1 90 11) * xa)) < (v.1 90 10) → Q 1 v)))))) :
    oX2_isWithinReach G (d + 1) [(.ref 90), (.ref g), (.int xa)] z v Q := by
  refine Ok_of (own := RX2) (by decide) rfl (Nat.le_of_ble_eq_true rfl) ?_
  show AW G (d + 1) 0 0 yX2_isWithinReach cX2_isWithinReach 4 (some .boolean) RX2 0 0 0 [some (.ref 90), some (.ref g), some (.int xa), none] [] z v _
  refine AW_aload_n dX2_isWithinReach_0 rfl rfl ?_
  refine AW_getI dX2_isWithinReach_1 (bI_90 B) fl_X2_33 ?_
  refine AW_if_ne (tgt := 33) dX2_isWithinReach_4 (by decide) (fun c => ?_) (fun c => ?_)
  · replace H := H.1 c
    refine AW_iconst (x := 0) dX2_isWithinReach_33 (by decide) ?_
    refine AW_istore_n (L' := [some (.ref 90), some (.ref g), some (.int xa), some (.int 0)]) dX2_isWithinReach_34 rfl (by decide) rfl ?_
    exact H
  · replace H := H.2 c
    refine AW_aload_n dX2_isWithinReach_7 rfl rfl ?_
    refine AW_aload_n dX2_isWithinReach_8 rfl rfl ?_
    refine AW_getI dX2_isWithinReach_9 (bI_90 B) fl_X2_40 ?_
    have hi1 := H.1
    replace H := H.2
    refine AW_iald dX2_isWithinReach_12 hg hi1 ?_
    refine AW_aload_n dX2_isWithinReach_13 rfl rfl ?_
    refine AW_getI dX2_isWithinReach_14 (bI_90 B) fl_X2_46 ?_
    refine AW_iload_n dX2_isWithinReach_17 rfl rfl ?_
    refine AW_imul dX2_isWithinReach_18 ?_
    refine AW_iadd dX2_isWithinReach_19 ?_
    refine AW_aload_n dX2_isWithinReach_20 rfl rfl ?_
    refine AW_getI dX2_isWithinReach_21 (bI_90 B) fl_X2_43 ?_
    refine AW_icmp_lt (tgt := 31) dX2_isWithinReach_24 (by decide) (fun c => ?_) (fun c => ?_)
    · replace H := H.1 c
      refine AW_iconst (x := 0) dX2_isWithinReach_31 (by decide) ?_
      exact AW_rI dX2_isWithinReach_32 rfl (by decide) H
    · replace H := H.2 c
      refine AW_iconst (x := 1) dX2_isWithinReach_27 (by decide) ?_
      refine AW_goto (tgt := 32) dX2_isWithinReach_28 (by decide) ?_
      exact AW_rI dX2_isWithinReach_32 rfl (by decide) H
set_option maxRecDepth 100000 in
set_option maxHeartbeats 4000000 in
theorem vc_X2_isWithinReach_35 {G : xG} {d : Nat} {z : xZ} {v : xS} {Q : Int32 → xS → Prop} (B : Base z) {g : Nat} {l2 : Int32} {l3 : Int32} (hg : xin z g 10 10)
    (H : (((v.1 30 0) ≤ l3 → Q 1 v) ∧ (¬ (v.1 30 0) ≤ l3 → ((¬ (((v.1 90 8) >>> (l3 &&& 31)) &&& 1) = 1 → aX2_isWithinReach G (d + 1) 35 [some (.ref 90), some (.ref g), some (.int l2), some (.int (l3 + 1))] [] z v Q) ∧ ((((v.1 90 8) >>> (l3 &&& 31)) &&& 1) = 1 → (vp_in l3 10 ∧ (vp_in l3 10 ∧ (((v.1 g l3.toNatClampNeg) ≤ ((v.1 98 l3.toNatClampNeg) * l2) → aX2_isWithinReach G (d + 1) 35 [some (.ref 90), some (.ref g), some (.int l2), some (.int (l3 + 1))] [] z v Q) ∧ (¬ (v.1 g l3.toNatClampNeg) ≤ ((v.1 98 l3.toNatClampNeg) * l2) → Q 0 v))))))))) :
    aX2_isWithinReach G (d + 1) 35 [some (.ref 90), some (.ref g), some (.int l2), some (.int l3)] [] z v Q := by
  refine AW_iload_n dX2_isWithinReach_35 rfl rfl ?_
  refine AW_aload_n dX2_isWithinReach_36 rfl rfl ?_
  refine AW_getR dX2_isWithinReach_37 (bI_90 B) fl_X2_49 (bR_90_0 B) ?_
  refine AW_getI dX2_isWithinReach_40 (bI_30 B) fl_X2_53 ?_
  refine AW_icmp_ge (tgt := 80) dX2_isWithinReach_43 (by decide) (fun c => ?_) (fun c => ?_)
  · replace H := H.1 c
    refine AW_iconst (x := 1) dX2_isWithinReach_80 (by decide) ?_
    exact AW_rI dX2_isWithinReach_81 rfl (by decide) H
  · replace H := H.2 c
    refine AW_aload_n dX2_isWithinReach_46 rfl rfl ?_
    refine AW_getI dX2_isWithinReach_47 (bI_90 B) fl_X2_37 ?_
    refine AW_iload_n dX2_isWithinReach_50 rfl rfl ?_
    refine AW_ishr dX2_isWithinReach_51 ?_
    refine AW_iconst (x := 1) dX2_isWithinReach_52 (by decide) ?_
    refine AW_iand dX2_isWithinReach_53 ?_
    refine AW_iconst (x := 1) dX2_isWithinReach_54 (by decide) ?_
    refine AW_icmp_ne (tgt := 74) dX2_isWithinReach_55 (by decide) (fun c => ?_) (fun c => ?_)
    · replace H := H.1 c
      refine AW_iinc (x' := l3 + 1) (L' := [some (.ref 90), some (.ref g), some (.int l2), some (.int (l3 + 1))]) dX2_isWithinReach_74 rfl rfl (by decide) rfl ?_
      refine AW_goto (tgt := 35) dX2_isWithinReach_77 (by decide) ?_
      exact H
    · replace H := H.2 c
      refine AW_aload_n dX2_isWithinReach_58 rfl rfl ?_
      refine AW_iload_n dX2_isWithinReach_59 rfl rfl ?_
      have hi1 := H.1
      replace H := H.2
      refine AW_iald dX2_isWithinReach_60 hg hi1 ?_
      refine AW_aload_n dX2_isWithinReach_61 rfl rfl ?_
      refine AW_getR dX2_isWithinReach_62 (bI_90 B) fl_X2_23 (bR_90_4 B) ?_
      refine AW_iload_n dX2_isWithinReach_65 rfl rfl ?_
      have hi2 := H.1
      replace H := H.2
      refine AW_iald dX2_isWithinReach_66 (bI_98 B) hi2 ?_
      refine AW_iload_n dX2_isWithinReach_67 rfl rfl ?_
      refine AW_imul dX2_isWithinReach_68 ?_
      refine AW_icmp_le (tgt := 74) dX2_isWithinReach_69 (by decide) (fun c => ?_) (fun c => ?_)
      · replace H := H.1 c
        refine AW_iinc (x' := l3 + 1) (L' := [some (.ref 90), some (.ref g), some (.int l2), some (.int (l3 + 1))]) dX2_isWithinReach_74 rfl rfl (by decide) rfl ?_
        refine AW_goto (tgt := 35) dX2_isWithinReach_77 (by decide) ?_
        exact H
      · replace H := H.2 c
        refine AW_iconst (x := 0) dX2_isWithinReach_72 (by decide) ?_
        exact AW_rI dX2_isWithinReach_73 rfl (by decide) H
set_option maxRecDepth 100000 in
set_option maxHeartbeats 4000000 in
theorem vc_X2_mostTakenFrom {G : xG} {d : Nat} {z : xZ} {v : xS} {Q : Int32 → xS → Prop} (B : Base z) {xa : Int32} 
    (H : aX2_mostTakenFrom G (d + 1) 4 [some (.ref 90), some (.int xa), some (.int 0), some (.int 0)] [] z v Q) :
    oX2_mostTakenFrom G (d + 1) [(.ref 90), (.int xa)] z v Q := by
  refine Ok_of (own := RX2) (by decide) rfl (Nat.le_of_ble_eq_true rfl) ?_
  show AW G (d + 1) 0 0 yX2_mostTakenFrom cX2_mostTakenFrom 4 (some .int) RX2 0 0 0 [some (.ref 90), some (.int xa), none, none] [] z v _
  refine AW_iconst (x := 0) dX2_mostTakenFrom_0 (by decide) ?_
  refine AW_istore_n (L' := [some (.ref 90), some (.int xa), some (.int 0), none]) dX2_mostTakenFrom_1 rfl (by decide) rfl ?_
  refine AW_iconst (x := 0) dX2_mostTakenFrom_2 (by decide) ?_
  refine AW_istore_n (L' := [some (.ref 90), some (.int xa), some (.int 0), some (.int 0)]) dX2_mostTakenFrom_3 rfl (by decide) rfl ?_
  exact H
set_option maxRecDepth 100000 in
set_option maxHeartbeats 4000000 in
theorem vc_X2_mostTakenFrom_4 {G : xG} {d : Nat} {z : xZ} {v : xS} {Q : Int32 → xS → Prop} (B : Base z)  {l1 : Int32} {l2 : Int32} {l3 : Int32} 
    (H : (((v.1 30 1) ≤ l3 → Q l2 v) ∧ (¬ (v.1 30 1) ≤ l3 → (oX2_mostTakenBy G d [(.ref 90), (.int l3), (.int l1)] z v (fun r2 v1 => aX2_mostTakenFrom G (d + 1) 4 [some (.ref 90), some (.int l1), some (.int (l2 + r2)), some (.int (l3 + 1))] [] z v1 Q))))) :
    aX2_mostTakenFrom G (d + 1) 4 [some (.ref 90), some (.int l1), some (.int l2), some (.int l3)] [] z v Q := by
  refine AW_iload_n dX2_mostTakenFrom_4 rfl rfl ?_
  refine AW_aload_n dX2_mostTakenFrom_5 rfl rfl ?_
  refine AW_getR dX2_mostTakenFrom_6 (bI_90 B) fl_X2_49 (bR_90_0 B) ?_
  refine AW_getI dX2_mostTakenFrom_9 (bI_30 B) fl_X2_92 ?_
  refine AW_icmp_ge (tgt := 30) dX2_mostTakenFrom_12 (by decide) (fun c => ?_) (fun c => ?_)
  · replace H := H.1 c
    refine AW_iload_n dX2_mostTakenFrom_30 rfl rfl ?_
    exact AW_rI dX2_mostTakenFrom_31 rfl rfl H
  · replace H := H.2 c
    refine AW_iload_n dX2_mostTakenFrom_15 rfl rfl ?_
    refine AW_aload_n dX2_mostTakenFrom_16 rfl rfl ?_
    refine AW_iload_n dX2_mostTakenFrom_17 rfl rfl ?_
    refine AW_iload_n dX2_mostTakenFrom_18 rfl rfl ?_
    refine AW_vI (as := [(.int l3), (.int l1)]) (st := [(.int l2)]) dX2_mostTakenFrom_19 (bI_90 B) (by decide) rfl mv_X2_mostTakenBy mi_X2_mostTakenBy ml_X2_99 (Nat.le_of_ble_eq_true rfl) rfl (Nat.le_refl 0) (Nat.le_refl 0) H (fun r2 v1 H => ?_)
    refine AW_iadd dX2_mostTakenFrom_22 ?_
    refine AW_istore_n (L' := [some (.ref 90), some (.int l1), some (.int (l2 + r2)), some (.int l3)]) dX2_mostTakenFrom_23 rfl (by decide) rfl ?_
    refine AW_iinc (x' := l3 + 1) (L' := [some (.ref 90), some (.int l1), some (.int (l2 + r2)), some (.int (l3 + 1))]) dX2_mostTakenFrom_24 rfl rfl (by decide) rfl ?_
    refine AW_goto (tgt := 4) dX2_mostTakenFrom_27 (by decide) ?_
    exact H
set_option maxRecDepth 100000 in
set_option maxHeartbeats 4000000 in
theorem vc_X2_mostTakenBy {G : xG} {d : Nat} {z : xZ} {v : xS} {Q : Int32 → xS → Prop} (B : Base z) {xa : Int32} {xb : Int32} 
    (H : (oX1_isSpot G d [(.ref 30), (.int xb)] z v (fun r2 v1 => ((r2 = 0 → Q 0 v1) ∧ (¬ r2 = 0 → (oX1_isHeard G d [(.ref 30), (.int xa), (.int xb)] z v1 (fun r4 v3 => ((r4 = 0 → Q 0 v3) ∧ (¬ r4 = 0 → (oX1_inchesFrom G d [(.ref 30), (.int xa), (.int xb), (.int 2)] z v3 (fun r6 v5 => Q r6 v5))))))))))) :
    oX2_mostTakenBy G (d + 1) [(.ref 90), (.int xa), (.int xb)] z v Q := by
  refine Ok_of (own := RX2) (by decide) rfl (Nat.le_of_ble_eq_true rfl) ?_
  show AW G (d + 1) 0 0 yX2_mostTakenBy cX2_mostTakenBy 3 (some .int) RX2 0 0 0 [some (.ref 90), some (.int xa), some (.int xb)] [] z v _
  refine AW_aload_n dX2_mostTakenBy_0 rfl rfl ?_
  refine AW_getR dX2_mostTakenBy_1 (bI_90 B) fl_X2_49 (bR_90_0 B) ?_
  refine AW_iload_n dX2_mostTakenBy_4 rfl rfl ?_
  refine AW_vI (as := [(.int xb)]) (st := []) dX2_mostTakenBy_5 (bI_30 B) (by decide) rfl mv_X1_isSpot mi_X1_isSpot ml_X2_103 (Nat.le_of_ble_eq_true rfl) rfl (Nat.le_refl 0) (Nat.le_refl 0) H (fun r2 v1 H => ?_)
  refine AW_if_eq (tgt := 36) dX2_mostTakenBy_8 (by decide) (fun c => ?_) (fun c => ?_)
  · replace H := H.1 c
    refine AW_iconst (x := 0) dX2_mostTakenBy_36 (by decide) ?_
    exact AW_rI dX2_mostTakenBy_37 rfl rfl H
  · replace H := H.2 c
    refine AW_aload_n dX2_mostTakenBy_11 rfl rfl ?_
    refine AW_getR dX2_mostTakenBy_12 (bI_90 B) fl_X2_49 (bR_90_0 B) ?_
    refine AW_iload_n dX2_mostTakenBy_15 rfl rfl ?_
    refine AW_iload_n dX2_mostTakenBy_16 rfl rfl ?_
    refine AW_vI (as := [(.int xa), (.int xb)]) (st := []) dX2_mostTakenBy_17 (bI_30 B) (by decide) rfl mv_X1_isHeard mi_X1_isHeard ml_X2_107 (Nat.le_of_ble_eq_true rfl) rfl (Nat.le_refl 0) (Nat.le_refl 0) H (fun r4 v3 H => ?_)
    refine AW_if_eq (tgt := 36) dX2_mostTakenBy_20 (by decide) (fun c => ?_) (fun c => ?_)
    · replace H := H.1 c
      refine AW_iconst (x := 0) dX2_mostTakenBy_36 (by decide) ?_
      exact AW_rI dX2_mostTakenBy_37 rfl rfl H
    · replace H := H.2 c
      refine AW_aload_n dX2_mostTakenBy_23 rfl rfl ?_
      refine AW_getR dX2_mostTakenBy_24 (bI_90 B) fl_X2_49 (bR_90_0 B) ?_
      refine AW_iload_n dX2_mostTakenBy_27 rfl rfl ?_
      refine AW_iload_n dX2_mostTakenBy_28 rfl rfl ?_
      refine AW_iconst (x := 2) dX2_mostTakenBy_29 (by decide) ?_
      refine AW_vI (as := [(.int xa), (.int xb), (.int 2)]) (st := []) dX2_mostTakenBy_30 (bI_30 B) (by decide) rfl mv_X1_inchesFrom mi_X1_inchesFrom ml_X2_111 (Nat.le_of_ble_eq_true rfl) rfl (Nat.le_refl 0) (Nat.le_refl 0) H (fun r6 v5 H => ?_)
      refine AW_goto (tgt := 37) dX2_mostTakenBy_33 (by decide) ?_
      exact AW_rI dX2_mostTakenBy_37 rfl rfl H
set_option maxRecDepth 100000 in
set_option maxHeartbeats 4000000 in
theorem vc_X2_mostGainedBy {G : xG} {d : Nat} {z : xZ} {v : xS} {Q : Int32 → xS → Prop} (B : Base z) {xa : Int32} 
    (H : aX2_mostGainedBy G (d + 1) 4 [some (.ref 90), some (.int xa), some (.int 0), some (.int 0), none, none] [] z v Q) :
    oX2_mostGainedBy G (d + 1) [(.ref 90), (.int xa)] z v Q := by
  refine Ok_of (own := RX2) (by decide) rfl (Nat.le_of_ble_eq_true rfl) ?_
  show AW G (d + 1) 0 0 yX2_mostGainedBy cX2_mostGainedBy 6 (some .int) RX2 0 0 0 [some (.ref 90), some (.int xa), none, none, none, none] [] z v _
  refine AW_iconst (x := 0) dX2_mostGainedBy_0 (by decide) ?_
  refine AW_istore_n (L' := [some (.ref 90), some (.int xa), some (.int 0), none, none, none]) dX2_mostGainedBy_1 rfl (by decide) rfl ?_
  refine AW_iconst (x := 0) dX2_mostGainedBy_2 (by decide) ?_
  refine AW_istore_n (L' := [some (.ref 90), some (.int xa), some (.int 0), some (.int 0), none, none]) dX2_mostGainedBy_3 rfl (by decide) rfl ?_
  exact H
set_option maxRecDepth 100000 in
set_option maxHeartbeats 4000000 in
theorem vc_X2_mostGainedBy_4 {G : xG} {d : Nat} {z : xZ} {v : xS} {Q : Int32 → xS → Prop} (B : Base z)  {l1 : Int32} {l2 : Int32} {l3 : Int32} 
    (H : (((v.1 30 1) ≤ l3 → Q l2 v) ∧ (¬ (v.1 30 1) ≤ l3 → (oX2_mostTakenBy G d [(.ref 90), (.int l3), (.int (l1 - 1))] z v (fun r2 v1 => (oX2_mostTakenBy G d [(.ref 90), (.int l3), (.int (l1 + 1))] z v1 (fun r4 v3 => (vp_in l3 3 ∧ ((¬ l1 = (v3.1 32 l3.toNatClampNeg) → aX2_mostGainedBy G (d + 1) 4 [some (.ref 90), some (.int l1), some (.int (l2 + (if r2 < r4 then r4 else r2))), some (.int (l3 + 1)), none, none] [] z v3 Q) ∧ (l1 = (v3.1 32 l3.toNatClampNeg) → aX2_mostGainedBy G (d + 1) 4 [some (.ref 90), some (.int l1), some (.int (l2 + (r2 + r4))), some (.int (l3 + 1)), none, none] [] z v3 Q)))))))))) :
    aX2_mostGainedBy G (d + 1) 4 [some (.ref 90), some (.int l1), some (.int l2), some (.int l3), none, none] [] z v Q := by
  refine AW_iload_n dX2_mostGainedBy_4 rfl rfl ?_
  refine AW_aload_n dX2_mostGainedBy_5 rfl rfl ?_
  refine AW_getR dX2_mostGainedBy_6 (bI_90 B) fl_X2_49 (bR_90_0 B) ?_
  refine AW_getI dX2_mostGainedBy_9 (bI_30 B) fl_X2_92 ?_
  refine AW_icmp_ge (tgt := 72) dX2_mostGainedBy_12 (by decide) (fun c => ?_) (fun c => ?_)
  · replace H := H.1 c
    refine AW_iload_n dX2_mostGainedBy_72 rfl rfl ?_
    exact AW_rI dX2_mostGainedBy_73 rfl rfl H
  · replace H := H.2 c
    refine AW_aload_n dX2_mostGainedBy_15 rfl rfl ?_
    refine AW_iload_n dX2_mostGainedBy_16 rfl rfl ?_
    refine AW_iload_n dX2_mostGainedBy_17 rfl rfl ?_
    refine AW_iconst (x := 1) dX2_mostGainedBy_18 (by decide) ?_
    refine AW_isub dX2_mostGainedBy_19 ?_
    refine AW_vI (as := [(.int l3), (.int (l1 - 1))]) (st := []) dX2_mostGainedBy_20 (bI_90 B) (by decide) rfl mv_X2_mostTakenBy mi_X2_mostTakenBy ml_X2_99 (Nat.le_of_ble_eq_true rfl) rfl (Nat.le_refl 0) (Nat.le_refl 0) H (fun r2 v1 H => ?_)
    refine AW_istore (L' := [some (.ref 90), some (.int l1), some (.int l2), some (.int l3), some (.int r2), none]) dX2_mostGainedBy_23 (by decide) rfl ?_
    refine AW_aload_n dX2_mostGainedBy_25 rfl rfl ?_
    refine AW_iload_n dX2_mostGainedBy_26 rfl rfl ?_
    refine AW_iload_n dX2_mostGainedBy_27 rfl rfl ?_
    refine AW_iconst (x := 1) dX2_mostGainedBy_28 (by decide) ?_
    refine AW_iadd dX2_mostGainedBy_29 ?_
    refine AW_vI (as := [(.int l3), (.int (l1 + 1))]) (st := []) dX2_mostGainedBy_30 (bI_90 B) (by decide) rfl mv_X2_mostTakenBy mi_X2_mostTakenBy ml_X2_99 (Nat.le_of_ble_eq_true rfl) rfl (Nat.le_refl 0) (Nat.le_refl 0) H (fun r4 v3 H => ?_)
    refine AW_istore (L' := [some (.ref 90), some (.int l1), some (.int l2), some (.int l3), some (.int r2), some (.int r4)]) dX2_mostGainedBy_33 (by decide) rfl ?_
    refine AW_iload_n dX2_mostGainedBy_35 rfl rfl ?_
    refine AW_iload_n dX2_mostGainedBy_36 rfl rfl ?_
    refine AW_aload_n dX2_mostGainedBy_37 rfl rfl ?_
    refine AW_getR dX2_mostGainedBy_38 (bI_90 B) fl_X2_49 (bR_90_0 B) ?_
    refine AW_getR dX2_mostGainedBy_41 (bI_30 B) fl_X2_115 (bR_30_5 B) ?_
    refine AW_iload_n dX2_mostGainedBy_44 rfl rfl ?_
    have hi5 := H.1
    replace H := H.2
    refine AW_iald dX2_mostGainedBy_45 (bI_32 B) hi5 ?_
    refine AW_icmp_ne (tgt := 57) dX2_mostGainedBy_46 (by decide) (fun c => ?_) (fun c => ?_)
    · replace H := H.1 c
      refine AW_iload dX2_mostGainedBy_57 rfl ?_
      refine AW_iload dX2_mostGainedBy_59 rfl ?_
      refine AW_max dX2_mostGainedBy_61 ml_X2_118 w_max (Nat.succ_pos _) (Nat.le_of_ble_eq_true rfl) (Nat.le_refl 0) (Nat.le_refl 0) ?_
      refine AW_iadd dX2_mostGainedBy_64 ?_
      refine AW_istore_n (L' := [some (.ref 90), some (.int l1), some (.int (l2 + (if r2 < r4 then r4 else r2))), some (.int l3), some (.int r2), some (.int r4)]) dX2_mostGainedBy_65 rfl (by decide) rfl ?_
      refine AW_iinc (x' := l3 + 1) (L' := [some (.ref 90), some (.int l1), some (.int (l2 + (if r2 < r4 then r4 else r2))), some (.int (l3 + 1)), some (.int r2), some (.int r4)]) dX2_mostGainedBy_66 rfl rfl (by decide) rfl ?_
      refine AW_goto (tgt := 4) dX2_mostGainedBy_69 (by decide) ?_
      refine AW_sub (L' := [some (.ref 90), some (.int l1), some (.int (l2 + (if r2 < r4 then r4 else r2))), some (.int (l3 + 1)), none, none]) (show xle _ _ from ⟨rfl, ⟨rfl, ⟨rfl, ⟨rfl, trivial⟩⟩⟩⟩) ?_
      exact H
    · replace H := H.2 c
      refine AW_iload dX2_mostGainedBy_49 rfl ?_
      refine AW_iload dX2_mostGainedBy_51 rfl ?_
      refine AW_iadd dX2_mostGainedBy_53 ?_
      refine AW_goto (tgt := 64) dX2_mostGainedBy_54 (by decide) ?_
      refine AW_iadd dX2_mostGainedBy_64 ?_
      refine AW_istore_n (L' := [some (.ref 90), some (.int l1), some (.int (l2 + (r2 + r4))), some (.int l3), some (.int r2), some (.int r4)]) dX2_mostGainedBy_65 rfl (by decide) rfl ?_
      refine AW_iinc (x' := l3 + 1) (L' := [some (.ref 90), some (.int l1), some (.int (l2 + (r2 + r4))), some (.int (l3 + 1)), some (.int r2), some (.int r4)]) dX2_mostGainedBy_66 rfl rfl (by decide) rfl ?_
      refine AW_goto (tgt := 4) dX2_mostGainedBy_69 (by decide) ?_
      refine AW_sub (L' := [some (.ref 90), some (.int l1), some (.int (l2 + (r2 + r4))), some (.int (l3 + 1)), none, none]) (show xle _ _ from ⟨rfl, ⟨rfl, ⟨rfl, ⟨rfl, trivial⟩⟩⟩⟩) ?_
      exact H
