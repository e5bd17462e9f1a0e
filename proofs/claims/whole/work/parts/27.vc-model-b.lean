set_option maxRecDepth 100000 in
set_option maxHeartbeats 4000000 in
theorem vc_X6_playOn_28 {G : xG} {d : Nat} {z : xZ} {v : xS} {Q : xS → Prop} (B : Base z)  {l1 : Int32} {l2 : Int32} {l3 : Int32} {l4 : Int32} 
    (H : ((l2 ≤ l4 → Q v) ∧ (¬ l2 ≤ l4 → (vp_in l4 3 ∧ (vp_in l4 3 ∧ (∀ v3 : xS, v3 = wV v 232 l4.toNatClampNeg (v.1 231 l4.toNatClampNeg) → aX6_playOn G (d + 1) 28 [some (.ref 200), some (.int l1), some (.int l2), some (.int l3), some (.int (l4 + 1))] [] z v3 Q)))))) :
    aX6_playOn G (d + 1) 28 [some (.ref 200), some (.int l1), some (.int l2), some (.int l3), some (.int l4)] [] z v Q := by
  refine AW_iload dX6_playOn_28 rfl ?_
  refine AW_iload_n dX6_playOn_30 rfl rfl ?_
  refine AW_icmp_ge (tgt := 54) dX6_playOn_31 (by decide) (fun c => ?_) (fun c => ?_)
  · replace H := H.1 c
    exact AW_rV dX6_playOn_54 rfl H
  · replace H := H.2 c
    refine AW_aload_n dX6_playOn_34 rfl rfl ?_
    refine AW_getR dX6_playOn_35 (bI_200 B) fl_X6_79 (bR_200_32 B) ?_
    refine AW_iload dX6_playOn_38 rfl ?_
    refine AW_aload_n dX6_playOn_40 rfl rfl ?_
    refine AW_getR dX6_playOn_41 (bI_200 B) fl_X6_76 (bR_200_31 B) ?_
    refine AW_iload dX6_playOn_44 rfl ?_
    have hi1 := H.1
    replace H := H.2
    refine AW_iald dX6_playOn_46 (bI_231 B) hi1 ?_
    have hi2 := H.1
    replace H := H.2
    refine AW_iastN dX6_playOn_47 (bI_232 B) hi2 (fun v3 hv3 => ?_)
    replace H := H v3 hv3
    refine AW_iinc (x' := l4 + 1) (L' := [some (.ref 200), some (.int l1), some (.int l2), some (.int l3), some (.int (l4 + 1))]) dX6_playOn_48 rfl rfl (by decide) rfl ?_
    refine AW_goto (tgt := 28) dX6_playOn_51 (by decide) ?_
    exact H
set_option maxRecDepth 100000 in
set_option maxHeartbeats 4000000 in
theorem vc_X6_playOn_70 {G : xG} {d : Nat} {z : xZ} {v : xS} {Q : xS → Prop} (B : Base z)  {l1 : Int32} {l2 : Int32} {l3 : Int32} {l4 : Int32} 
    (H : (oX6_programs G d [(.ref 200)] z v (fun r2 v1 => ((r2 ≤ l4 → Q v1) ∧ (¬ r2 ≤ l4 → (vp_in l1 3 ∧ (∀ v4 : xS, v4 = wV v1 231 l1.toNatClampNeg l4 → (oX6_passEvening G d [(.ref 200), (.int l4)] z v4 (fun r6 v5 => (oX6_breathOf G d [(.ref 200), (.int l4)] z v5 (fun r8 v7 => (oX6_playOn G d [(.ref 200), (.int (l1 + 1)), (.int l2), (.int (l3 + r8))] z v7 (fun v9 => (oX6_read G d [(.ref 200), (.ref 230), (.int (14 * l1))] z v9 (fun v10 => aX6_playOn G (d + 1) 70 [some (.ref 200), some (.int l1), some (.int l2), some (.int l3), some (.int (l4 + 1))] [] z v10 Q))))))))))))))) :
    aX6_playOn G (d + 1) 70 [some (.ref 200), some (.int l1), some (.int l2), some (.int l3), some (.int l4)] [] z v Q := by
  refine AW_iload dX6_playOn_70 rfl ?_
  refine AW_aload_n dX6_playOn_72 rfl rfl ?_
  refine AW_vI (as := []) (st := [(.int l4)]) dX6_playOn_73 (bI_200 B) (by decide) rfl mv_X6_programs mi_X6_programs ml_X6_217 (Nat.le_of_ble_eq_true rfl) rfl (Nat.le_refl 0) (Nat.le_refl 0) H (fun r2 v1 H => ?_)
  refine AW_icmp_ge (tgt := 128) dX6_playOn_76 (by decide) (fun c => ?_) (fun c => ?_)
  · replace H := H.1 c
    exact AW_rV dX6_playOn_128 rfl H
  · replace H := H.2 c
    refine AW_aload_n dX6_playOn_79 rfl rfl ?_
    refine AW_getR dX6_playOn_80 (bI_200 B) fl_X6_76 (bR_200_31 B) ?_
    refine AW_iload_n dX6_playOn_83 rfl rfl ?_
    refine AW_iload dX6_playOn_84 rfl ?_
    have hi3 := H.1
    replace H := H.2
    refine AW_iastN dX6_playOn_86 (bI_231 B) hi3 (fun v4 hv4 => ?_)
    replace H := H v4 hv4
    refine AW_aload_n dX6_playOn_87 rfl rfl ?_
    refine AW_iload dX6_playOn_88 rfl ?_
    refine AW_vI (as := [(.int l4)]) (st := []) dX6_playOn_90 (bI_200 B) (by decide) rfl mv_X6_passEvening mi_X6_passEvening ml_X6_221 (Nat.le_of_ble_eq_true rfl) rfl (Nat.le_refl 0) (Nat.le_refl 0) H (fun r6 v5 H => ?_)
    refine AW_pop dX6_playOn_93 rfl ?_
    refine AW_aload_n dX6_playOn_94 rfl rfl ?_
    refine AW_iload_n dX6_playOn_95 rfl rfl ?_
    refine AW_iconst (x := 1) dX6_playOn_96 (by decide) ?_
    refine AW_iadd dX6_playOn_97 ?_
    refine AW_iload_n dX6_playOn_98 rfl rfl ?_
    refine AW_iload_n dX6_playOn_99 rfl rfl ?_
    refine AW_aload_n dX6_playOn_100 rfl rfl ?_
    refine AW_iload dX6_playOn_101 rfl ?_
    refine AW_vI (as := [(.int l4)]) (st := [(.int l3), (.int l2), (.int (l1 + 1)), (.ref 200)]) dX6_playOn_103 (bI_200 B) (by decide) rfl mv_X6_breathOf mi_X6_breathOf ml_X6_230 (Nat.le_of_ble_eq_true rfl) rfl (Nat.le_refl 0) (Nat.le_refl 0) H (fun r8 v7 H => ?_)
    refine AW_iadd dX6_playOn_106 ?_
    refine AW_vV (as := [(.int (l1 + 1)), (.int l2), (.int (l3 + r8))]) (st := []) dX6_playOn_107 (bI_200 B) (by decide) rfl mv_X6_playOn mi_X6_playOn ml_X6_276 (Nat.le_of_ble_eq_true rfl) rfl (Nat.le_refl 0) (Nat.le_refl 0) H (fun v9 H => ?_)
    refine AW_aload_n dX6_playOn_110 rfl rfl ?_
    refine AW_aload_n dX6_playOn_111 rfl rfl ?_
    refine AW_getR dX6_playOn_112 (bI_200 B) fl_X6_73 (bR_200_30 B) ?_
    refine AW_bipush (x := 14) dX6_playOn_115 (by decide) ?_
    refine AW_iload_n dX6_playOn_117 rfl rfl ?_
    refine AW_imul dX6_playOn_118 ?_
    refine AW_vV (as := [(.ref 230), (.int (14 * l1))]) (st := []) dX6_playOn_119 (bI_200 B) (by decide) rfl mv_X6_read mi_X6_read ml_X6_208 (Nat.le_of_ble_eq_true rfl) rfl (Nat.le_refl 0) (Nat.le_refl 0) H (fun v10 H => ?_)
    refine AW_iinc (x' := l4 + 1) (L' := [some (.ref 200), some (.int l1), some (.int l2), some (.int l3), some (.int (l4 + 1))]) dX6_playOn_122 rfl rfl (by decide) rfl ?_
    refine AW_goto (tgt := 70) dX6_playOn_125 (by decide) ?_
    exact H
set_option maxRecDepth 100000 in
set_option maxHeartbeats 4000000 in
theorem vc_X6_layBest {G : xG} {d : Nat} {z : xZ} {v : xS} {Q : xS → Prop} (B : Base z) {xa : Int32} {xb : Int32} 
    (H : (oX6_row G d [(.ref 200), (.int xa), (.int xb)] z v (fun r2 v1 => aX6_layBest G (d + 1) 9 [some (.ref 200), some (.int xa), some (.int xb), some (.int 0)] [] z v1 Q))) :
    oX6_layBest G (d + 1) [(.ref 200), (.int xa), (.int xb)] z v Q := by
  refine Ok_of (own := RX6) (by decide) rfl (Nat.le_of_ble_eq_true rfl) ?_
  show AW G (d + 1) 0 0 yX6_layBest cX6_layBest 4 none RX6 0 0 0 [some (.ref 200), some (.int xa), some (.int xb), none] [] z v _
  refine AW_aload_n dX6_layBest_0 rfl rfl ?_
  refine AW_iload_n dX6_layBest_1 rfl rfl ?_
  refine AW_iload_n dX6_layBest_2 rfl rfl ?_
  refine AW_vI (as := [(.int xa), (.int xb)]) (st := []) dX6_layBest_3 (bI_200 B) (by decide) rfl mv_X6_row mi_X6_row ml_X6_233 (Nat.le_of_ble_eq_true rfl) rfl (Nat.le_refl 0) (Nat.le_refl 0) H (fun r2 v1 H => ?_)
  refine AW_pop dX6_layBest_6 rfl ?_
  refine AW_iconst (x := 0) dX6_layBest_7 (by decide) ?_
  refine AW_istore_n (L' := [some (.ref 200), some (.int xa), some (.int xb), some (.int 0)]) dX6_layBest_8 rfl (by decide) rfl ?_
  exact H
set_option maxRecDepth 100000 in
set_option maxHeartbeats 4000000 in
theorem vc_X6_layBest_9 {G : xG} {d : Nat} {z : xZ} {v : xS} {Q : xS → Prop} (B : Base z)  {l1 : Int32} {l2 : Int32} {l3 : Int32} 
    (H : ((l2 ≤ l3 → Q v) ∧ (¬ l2 ≤ l3 → (vp_in l3 3 ∧ (oX6_setRow G d [(.ref 200), (.int l1), (.int l3), (.int (v.1 232 l3.toNatClampNeg))] z v (fun v2 => aX6_layBest G (d + 1) 9 [some (.ref 200), some (.int l1), some (.int l2), some (.int (l3 + 1))] [] z v2 Q)))))) :
    aX6_layBest G (d + 1) 9 [some (.ref 200), some (.int l1), some (.int l2), some (.int l3)] [] z v Q := by
  refine AW_iload_n dX6_layBest_9 rfl rfl ?_
  refine AW_iload_n dX6_layBest_10 rfl rfl ?_
  refine AW_icmp_ge (tgt := 32) dX6_layBest_11 (by decide) (fun c => ?_) (fun c => ?_)
  · replace H := H.1 c
    exact AW_rV dX6_layBest_32 rfl H
  · replace H := H.2 c
    refine AW_aload_n dX6_layBest_14 rfl rfl ?_
    refine AW_iload_n dX6_layBest_15 rfl rfl ?_
    refine AW_iload_n dX6_layBest_16 rfl rfl ?_
    refine AW_aload_n dX6_layBest_17 rfl rfl ?_
    refine AW_getR dX6_layBest_18 (bI_200 B) fl_X6_79 (bR_200_32 B) ?_
    refine AW_iload_n dX6_layBest_21 rfl rfl ?_
    have hi1 := H.1
    replace H := H.2
    refine AW_iald dX6_layBest_22 (bI_232 B) hi1 ?_
    refine AW_vV (as := [(.int l1), (.int l3), (.int (v.1 232 l3.toNatClampNeg))]) (st := []) dX6_layBest_23 (bI_200 B) (by decide) rfl mv_X6_setRow mi_X6_setRow ml_X6_107 (Nat.le_of_ble_eq_true rfl) rfl (Nat.le_refl 0) (Nat.le_refl 0) H (fun v2 H => ?_)
    refine AW_iinc (x' := l3 + 1) (L' := [some (.ref 200), some (.int l1), some (.int l2), some (.int (l3 + 1))]) dX6_layBest_26 rfl rfl (by decide) rfl ?_
    refine AW_goto (tgt := 9) dX6_layBest_29 (by decide) ?_
    exact H
set_option maxRecDepth 100000 in
set_option maxHeartbeats 4000000 in
theorem vc_X6_flat {G : xG} {d : Nat} {z : xZ} {v : xS} {Q : Int32 → xS → Prop} (B : Base z) {xa : Int32} {xb : Int32} 
    (H : (oX6_isSet G d [(.ref 200), (.int xa)] z v (fun r2 v1 => ((r2 = 0 → Q (-1) v1) ∧ (¬ r2 = 0 → (oX6_isRow G d [(.int xb)] z v1 (fun r4 v3 => ((¬ r4 = 0 → ((¬ (v3.1 200 8) = 0 → (∀ v5 : xS, v5 = wV v3 200 34 xa → aX6_flat G (d + 1) 34 [some (.ref 200), some (.int xa), some (.int xb), some (.int 0)] [] z v5 Q)) ∧ ((v3.1 200 8) = 0 → Q (-4) v3))) ∧ (r4 = 0 → Q (-1) v3))))))))) :
    oX6_flat G (d + 1) [(.ref 200), (.int xa), (.int xb)] z v Q := by
  refine Ok_of (own := RX6) (by decide) rfl (Nat.le_of_ble_eq_true rfl) ?_
  show AW G (d + 1) 0 0 yX6_flat cX6_flat 4 (some .int) RX6 0 0 0 [some (.ref 200), some (.int xa), some (.int xb), none] [] z v _
  refine AW_aload_n dX6_flat_0 rfl rfl ?_
  refine AW_iload_n dX6_flat_1 rfl rfl ?_
  refine AW_vI (as := [(.int xa)]) (st := []) dX6_flat_2 (bI_200 B) (by decide) rfl mv_X6_isSet mi_X6_isSet ml_X6_214 (Nat.le_of_ble_eq_true rfl) rfl (Nat.le_refl 0) (Nat.le_refl 0) H (fun r2 v1 H => ?_)
  refine AW_if_eq (tgt := 15) dX6_flat_5 (by decide) (fun c => ?_) (fun c => ?_)
  · replace H := H.1 c
    refine AW_iconst (x := (-1)) dX6_flat_15 (by decide) ?_
    exact AW_rI dX6_flat_16 rfl rfl H
  · replace H := H.2 c
    refine AW_iload_n dX6_flat_8 rfl rfl ?_
    refine AW_sI (as := [(.int xb)]) (st := []) dX6_flat_9 mv_X6_isRow ms_X6_isRow ml_X6_96 (Nat.le_of_ble_eq_true rfl) rfl (Nat.le_refl 0) (Nat.le_refl 0) H (fun r4 v3 H => ?_)
    refine AW_if_ne (tgt := 17) dX6_flat_12 (by decide) (fun c => ?_) (fun c => ?_)
    · replace H := H.1 c
      refine AW_aload_n dX6_flat_17 rfl rfl ?_
      refine AW_getI dX6_flat_18 (bI_200 B) fl_X6_151 ?_
      refine AW_if_ne (tgt := 27) dX6_flat_21 (by decide) (fun c => ?_) (fun c => ?_)
      · replace H := H.1 c
        refine AW_aload_n dX6_flat_27 rfl rfl ?_
        refine AW_iload_n dX6_flat_28 rfl rfl ?_
        refine AW_putIN dX6_flat_29 (bI_200 B) fl_X6_261 rfl rfl rfl (fun v5 hv5 => ?_)
        replace H := H v5 hv5
        refine AW_iconst (x := 0) dX6_flat_32 (by decide) ?_
        refine AW_istore_n (L' := [some (.ref 200), some (.int xa), some (.int xb), some (.int 0)]) dX6_flat_33 rfl (by decide) rfl ?_
        exact H
      · replace H := H.2 c
        refine AW_bipush (x := (-4)) dX6_flat_24 (by decide) ?_
        exact AW_rI dX6_flat_26 rfl rfl H
    · replace H := H.2 c
      refine AW_iconst (x := (-1)) dX6_flat_15 (by decide) ?_
      exact AW_rI dX6_flat_16 rfl rfl H
set_option maxRecDepth 100000 in
set_option maxHeartbeats 4000000 in
theorem vc_X6_flat_34 {G : xG} {d : Nat} {z : xZ} {v : xS} {Q : Int32 → xS → Prop} (B : Base z)  {l1 : Int32} {l2 : Int32} {l3 : Int32} 
    (H : ((3 < l3 → Q (-9) v) ∧ (¬ 3 < l3 → (∀ v1 : xS, v1 = wV v 200 33 1048576 → (oX6_playOn G d [(.ref 200), (.int 0), (.int l3), (.int 0)] z v1 (fun v2 => ((1048576 ≤ (v2.1 200 33) → aX6_flat G (d + 1) 34 [some (.ref 200), some (.int l1), some (.int l2), some (.int (l3 + 1))] [] z v2 Q) ∧ (¬ 1048576 ≤ (v2.1 200 33) → (oX6_layBest G d [(.ref 200), (.int l2), (.int l3)] z v2 (fun v3 => (oX6_ask G d [(.ref 200), (.int (v3.1 200 33)), (.int l3)] z v3 (fun r5 v4 => Q r5 v4)))))))))))) :
    aX6_flat G (d + 1) 34 [some (.ref 200), some (.int l1), some (.int l2), some (.int l3)] [] z v Q := by
  refine AW_iload_n dX6_flat_34 rfl rfl ?_
  refine AW_iconst (x := 3) dX6_flat_35 (by decide) ?_
  refine AW_icmp_gt (tgt := 85) dX6_flat_36 (by decide) (fun c => ?_) (fun c => ?_)
  · replace H := H.1 c
    refine AW_bipush (x := (-9)) dX6_flat_85 (by decide) ?_
    exact AW_rI dX6_flat_87 rfl rfl H
  · replace H := H.2 c
    refine AW_aload_n dX6_flat_39 rfl rfl ?_
    refine AW_ldcw dX6_flat_40 ki_X6_279 ?_
    refine AW_putIN dX6_flat_43 (bI_200 B) fl_X6_273 rfl rfl rfl (fun v1 hv1 => ?_)
    replace H := H v1 hv1
    refine AW_aload_n dX6_flat_46 rfl rfl ?_
    refine AW_iconst (x := 0) dX6_flat_47 (by decide) ?_
    refine AW_iload_n dX6_flat_48 rfl rfl ?_
    refine AW_iconst (x := 0) dX6_flat_49 (by decide) ?_
    refine AW_vV (as := [(.int 0), (.int l3), (.int 0)]) (st := []) dX6_flat_50 (bI_200 B) (by decide) rfl mv_X6_playOn mi_X6_playOn ml_X6_276 (Nat.le_of_ble_eq_true rfl) rfl (Nat.le_refl 0) (Nat.le_refl 0) H (fun v2 H => ?_)
    refine AW_aload_n dX6_flat_53 rfl rfl ?_
    refine AW_getI dX6_flat_54 (bI_200 B) fl_X6_273 ?_
    refine AW_ldcw dX6_flat_57 ki_X6_279 ?_
    refine AW_icmp_ge (tgt := 79) dX6_flat_60 (by decide) (fun c => ?_) (fun c => ?_)
    · replace H := H.1 c
      refine AW_iinc (x' := l3 + 1) (L' := [some (.ref 200), some (.int l1), some (.int l2), some (.int (l3 + 1))]) dX6_flat_79 rfl rfl (by decide) rfl ?_
      refine AW_goto (tgt := 34) dX6_flat_82 (by decide) ?_
      exact H
    · replace H := H.2 c
      refine AW_aload_n dX6_flat_63 rfl rfl ?_
      refine AW_iload_n dX6_flat_64 rfl rfl ?_
      refine AW_iload_n dX6_flat_65 rfl rfl ?_
      refine AW_vV (as := [(.int l2), (.int l3)]) (st := []) dX6_flat_66 (bI_200 B) (by decide) rfl mv_X6_layBest mi_X6_layBest ml_X6_280 (Nat.le_of_ble_eq_true rfl) rfl (Nat.le_refl 0) (Nat.le_refl 0) H (fun v3 H => ?_)
      refine AW_aload_n dX6_flat_69 rfl rfl ?_
      refine AW_aload_n dX6_flat_70 rfl rfl ?_
      refine AW_getI dX6_flat_71 (bI_200 B) fl_X6_273 ?_
      refine AW_iload_n dX6_flat_74 rfl rfl ?_
      refine AW_vI (as := [(.int (v3.1 200 33)), (.int l3)]) (st := []) dX6_flat_75 (bI_200 B) (by decide) rfl mv_X6_ask mi_X6_ask ml_X6_118 (Nat.le_of_ble_eq_true rfl) rfl (Nat.le_refl 0) (Nat.le_refl 0) H (fun r5 v4 H => ?_)
      exact AW_rI dX6_flat_78 rfl rfl H
set_option maxRecDepth 100000 in
set_option maxHeartbeats 4000000 in
theorem vc_X6_raise {G : xG} {d : Nat} {z : xZ} {v : xS} {Q : Int32 → xS → Prop} (B : Base z) {xa : Int32} {xb : Int32} {xc : Int32} {xd : Int32} 
    (H : (oX6_isSpot G d [(.ref 200), (.int xa)] z v (fun r2 v1 => ((r2 = 0 → Q (-1) v1) ∧ (¬ r2 = 0 → (oX6_in G d [(.int xb), (.int 0), (.int 99)] z v1 (fun r4 v3 => ((r4 = 0 → Q (-1) v3) ∧ (¬ r4 = 0 → (oX6_in G d [(.int xc), (.int 0), (.int 3)] z v3 (fun r6 v5 => ((r6 = 0 → Q (-1) v5) ∧ (¬ r6 = 0 → (oX6_isRow G d [(.int xd)] z v5 (fun r8 v7 => ((¬ r8 = 0 → (∀ v9 : xS, v9 = wV v7 200 34 (-1) → (∀ v10 : xS, v10 = wV v9 200 35 xa → (∀ v11 : xS, v11 = wV v10 200 36 xb → (∀ v12 : xS, v12 = wV v11 200 33 1048576 → (oX6_playOn G d [(.ref 200), (.int 0), (.int xc), (.int 0)] z v12 (fun v13 => ((¬ (v13.1 200 33) = 1048576 → (oX6_layBest G d [(.ref 200), (.int xd), (.int xc)] z v13 (fun v14 => Q (v14.1 200 33) v14))) ∧ ((v13.1 200 33) = 1048576 → Q (-9) v13))))))))) ∧ (r8 = 0 → Q (-1) v7))))))))))))))))) :
    oX6_raise G (d + 1) [(.ref 200), (.int xa), (.int xb), (.int xc), (.int xd)] z v Q := by
  refine Ok_of (own := RX6) (by decide) rfl (Nat.le_of_ble_eq_true rfl) ?_
  show AW G (d + 1) 0 0 yX6_raise cX6_raise 5 (some .int) RX6 0 0 0 [some (.ref 200), some (.int xa), some (.int xb), some (.int xc), some (.int xd)] [] z v _
  refine AW_aload_n dX6_raise_0 rfl rfl ?_
  refine AW_iload_n dX6_raise_1 rfl rfl ?_
  refine AW_vI (as := [(.int xa)]) (st := []) dX6_raise_2 (bI_200 B) (by decide) rfl mv_X6_isSpot mi_X6_isSpot ml_X6_163 (Nat.le_of_ble_eq_true rfl) rfl (Nat.le_refl 0) (Nat.le_refl 0) H (fun r2 v1 H => ?_)
  refine AW_if_eq (tgt := 35) dX6_raise_5 (by decide) (fun c => ?_) (fun c => ?_)
  · replace H := H.1 c
    refine AW_iconst (x := (-1)) dX6_raise_35 (by decide) ?_
    exact AW_rI dX6_raise_36 rfl rfl H
  · replace H := H.2 c
    refine AW_iload_n dX6_raise_8 rfl rfl ?_
    refine AW_iconst (x := 0) dX6_raise_9 (by decide) ?_
    refine AW_bipush (x := 99) dX6_raise_10 (by decide) ?_
    refine AW_sI (as := [(.int xb), (.int 0), (.int 99)]) (st := []) dX6_raise_12 mv_X6_in ms_X6_in ml_X6_92 (Nat.le_of_ble_eq_true rfl) rfl (Nat.le_refl 0) (Nat.le_refl 0) H (fun r4 v3 H => ?_)
    refine AW_if_eq (tgt := 35) dX6_raise_15 (by decide) (fun c => ?_) (fun c => ?_)
    · replace H := H.1 c
      refine AW_iconst (x := (-1)) dX6_raise_35 (by decide) ?_
      exact AW_rI dX6_raise_36 rfl rfl H
    · replace H := H.2 c
      refine AW_iload_n dX6_raise_18 rfl rfl ?_
      refine AW_iconst (x := 0) dX6_raise_19 (by decide) ?_
      refine AW_iconst (x := 3) dX6_raise_20 (by decide) ?_
      refine AW_sI (as := [(.int xc), (.int 0), (.int 3)]) (st := []) dX6_raise_21 mv_X6_in ms_X6_in ml_X6_92 (Nat.le_of_ble_eq_true rfl) rfl (Nat.le_refl 0) (Nat.le_refl 0) H (fun r6 v5 H => ?_)
      refine AW_if_eq (tgt := 35) dX6_raise_24 (by decide) (fun c => ?_) (fun c => ?_)
      · replace H := H.1 c
        refine AW_iconst (x := (-1)) dX6_raise_35 (by decide) ?_
        exact AW_rI dX6_raise_36 rfl rfl H
      · replace H := H.2 c
        refine AW_iload dX6_raise_27 rfl ?_
        refine AW_sI (as := [(.int xd)]) (st := []) dX6_raise_29 mv_X6_isRow ms_X6_isRow ml_X6_96 (Nat.le_of_ble_eq_true rfl) rfl (Nat.le_refl 0) (Nat.le_refl 0) H (fun r8 v7 H => ?_)
        refine AW_if_ne (tgt := 37) dX6_raise_32 (by decide) (fun c => ?_) (fun c => ?_)
        · replace H := H.1 c
          refine AW_aload_n dX6_raise_37 rfl rfl ?_
          refine AW_iconst (x := (-1)) dX6_raise_38 (by decide) ?_
          refine AW_putIN dX6_raise_39 (bI_200 B) fl_X6_261 rfl rfl rfl (fun v9 hv9 => ?_)
          replace H := H v9 hv9
          refine AW_aload_n dX6_raise_42 rfl rfl ?_
          refine AW_iload_n dX6_raise_43 rfl rfl ?_
          refine AW_putIN dX6_raise_44 (bI_200 B) fl_X6_264 rfl rfl rfl (fun v10 hv10 => ?_)
          replace H := H v10 hv10
          refine AW_aload_n dX6_raise_47 rfl rfl ?_
          refine AW_iload_n dX6_raise_48 rfl rfl ?_
          refine AW_putIN dX6_raise_49 (bI_200 B) fl_X6_267 rfl rfl rfl (fun v11 hv11 => ?_)
          replace H := H v11 hv11
          refine AW_aload_n dX6_raise_52 rfl rfl ?_
          refine AW_ldcw dX6_raise_53 ki_X6_279 ?_
          refine AW_putIN dX6_raise_56 (bI_200 B) fl_X6_273 rfl rfl rfl (fun v12 hv12 => ?_)
          replace H := H v12 hv12
          refine AW_aload_n dX6_raise_59 rfl rfl ?_
          refine AW_iconst (x := 0) dX6_raise_60 (by decide) ?_
          refine AW_iload_n dX6_raise_61 rfl rfl ?_
          refine AW_iconst (x := 0) dX6_raise_62 (by decide) ?_
          refine AW_vV (as := [(.int 0), (.int xc), (.int 0)]) (st := []) dX6_raise_63 (bI_200 B) (by decide) rfl mv_X6_playOn mi_X6_playOn ml_X6_276 (Nat.le_of_ble_eq_true rfl) rfl (Nat.le_refl 0) (Nat.le_refl 0) H (fun v13 H => ?_)
          refine AW_aload_n dX6_raise_66 rfl rfl ?_
          refine AW_getI dX6_raise_67 (bI_200 B) fl_X6_273 ?_
          refine AW_ldcw dX6_raise_70 ki_X6_279 ?_
          refine AW_icmp_ne (tgt := 79) dX6_raise_73 (by decide) (fun c => ?_) (fun c => ?_)
          · replace H := H.1 c
            refine AW_aload_n dX6_raise_79 rfl rfl ?_
            refine AW_iload dX6_raise_80 rfl ?_
            refine AW_iload_n dX6_raise_82 rfl rfl ?_
            refine AW_vV (as := [(.int xd), (.int xc)]) (st := []) dX6_raise_83 (bI_200 B) (by decide) rfl mv_X6_layBest mi_X6_layBest ml_X6_280 (Nat.le_of_ble_eq_true rfl) rfl (Nat.le_refl 0) (Nat.le_refl 0) H (fun v14 H => ?_)
            refine AW_aload_n dX6_raise_86 rfl rfl ?_
            refine AW_getI dX6_raise_87 (bI_200 B) fl_X6_273 ?_
            exact AW_rI dX6_raise_90 rfl rfl H
          · replace H := H.2 c
            refine AW_bipush (x := (-9)) dX6_raise_76 (by decide) ?_
            exact AW_rI dX6_raise_78 rfl rfl H
        · replace H := H.2 c
          refine AW_iconst (x := (-1)) dX6_raise_35 (by decide) ?_
          exact AW_rI dX6_raise_36 rfl rfl H
set_option maxRecDepth 100000 in
set_option maxHeartbeats 4000000 in
theorem vc_X6_keeps {G : xG} {d : Nat} {z : xZ} {v : xS} {Q : Int32 → xS → Prop} (B : Base z) {xa : Int32} 
    (H : (oX6_isSpot G d [(.ref 200), (.int xa)] z v (fun r2 v1 => ((¬ r2 = 0 → (oX6_putAhead G d [(.ref 200)] z v1 (fun v3 => (vp_in xa 10 ∧ aX6_keeps G (d + 1) 29 [some (.ref 200), some (.int xa), some (.int 0), some (.int 0), some (.int (v3.1 210 xa.toNatClampNeg)), some (.int 1), none] [] z v3 Q)))) ∧ (r2 = 0 → Q (-1) v1))))) :
    oX6_keeps G (d + 1) [(.ref 200), (.int xa)] z v Q := by
  refine Ok_of (own := RX6) (by decide) rfl (Nat.le_of_ble_eq_true rfl) ?_
  show AW G (d + 1) 0 0 yX6_keeps cX6_keeps 7 (some .int) RX6 0 0 0 [some (.ref 200), some (.int xa), none, none, none, none, none] [] z v _
  refine AW_aload_n dX6_keeps_0 rfl rfl ?_
  refine AW_iload_n dX6_keeps_1 rfl rfl ?_
  refine AW_vI (as := [(.int xa)]) (st := []) dX6_keeps_2 (bI_200 B) (by decide) rfl mv_X6_isSpot mi_X6_isSpot ml_X6_163 (Nat.le_of_ble_eq_true rfl) rfl (Nat.le_refl 0) (Nat.le_refl 0) H (fun r2 v1 H => ?_)
  refine AW_if_ne (tgt := 10) dX6_keeps_5 (by decide) (fun c => ?_) (fun c => ?_)
  · replace H := H.1 c
    refine AW_aload_n dX6_keeps_10 rfl rfl ?_
    refine AW_vV (as := []) (st := []) dX6_keeps_11 (bI_200 B) (by decide) rfl mv_X6_putAhead mi_X6_putAhead ml_X6_239 (Nat.le_of_ble_eq_true rfl) rfl (Nat.le_refl 0) (Nat.le_refl 0) H (fun v3 H => ?_)
    refine AW_iconst (x := 0) dX6_keeps_14 (by decide) ?_
    refine AW_istore_n (L' := [some (.ref 200), some (.int xa), some (.int 0), none, none, none, none]) dX6_keeps_15 rfl (by decide) rfl ?_
    refine AW_iconst (x := 0) dX6_keeps_16 (by decide) ?_
    refine AW_istore_n (L' := [some (.ref 200), some (.int xa), some (.int 0), some (.int 0), none, none, none]) dX6_keeps_17 rfl (by decide) rfl ?_
    refine AW_aload_n dX6_keeps_18 rfl rfl ?_
    refine AW_getR dX6_keeps_19 (bI_200 B) fl_X6_28 (bR_200_10 B) ?_
    refine AW_iload_n dX6_keeps_22 rfl rfl ?_
    have hi4 := H.1
    replace H := H.2
    refine AW_iald dX6_keeps_23 (bI_210 B) hi4 ?_
    refine AW_istore (L' := [some (.ref 200), some (.int xa), some (.int 0), some (.int 0), some (.int (v3.1 210 xa.toNatClampNeg)), none, none]) dX6_keeps_24 (by decide) rfl ?_
    refine AW_iconst (x := 1) dX6_keeps_26 (by decide) ?_
    refine AW_istore (L' := [some (.ref 200), some (.int xa), some (.int 0), some (.int 0), some (.int (v3.1 210 xa.toNatClampNeg)), some (.int 1), none]) dX6_keeps_27 (by decide) rfl ?_
    exact H
  · replace H := H.2 c
    refine AW_iconst (x := (-1)) dX6_keeps_8 (by decide) ?_
    exact AW_rI dX6_keeps_9 rfl rfl H
set_option maxRecDepth 100000 in
set_option maxHeartbeats 4000000 in
theorem vc_X6_keeps_29 {G : xG} {d : Nat} {z : xZ} {v : xS} {Q : Int32 → xS → Prop} (B : Base z)  {l1 : Int32} {l2 : Int32} {l3 : Int32} {l4 : Int32} {l5 : Int32} 
    (H : (oX6_programs G d [(.ref 200)] z v (fun r2 v1 => ((r2 ≤ l5 → (oX6_ask G d [(.ref 200), (.int l2), (.int l3)] z v1 (fun r4 v3 => Q r4 v3))) ∧ (¬ r2 ≤ l5 → (oX6_passEvening G d [(.ref 200), (.int l5)] z v1 (fun r6 v5 => (vp_in l1 10 ∧ ((¬ (v5.1 210 l1.toNatClampNeg) = l4 → (oX6_comeBack G d [(.ref 200)] z v5 (fun v8 => aX6_keeps G (d + 1) 29 [some (.ref 200), some (.int l1), some (.int l2), some (.int l3), some (.int l4), some (.int (l5 + 1)), none] [] z v8 Q))) ∧ ((v5.1 210 l1.toNatClampNeg) = l4 → (oX6_breathOf G d [(.ref 200), (.int l5)] z v5 (fun r10 v9 => ((r10 ≤ l3 → (oX6_comeBack G d [(.ref 200)] z v9 (fun v11 => aX6_keeps G (d + 1) 29 [some (.ref 200), some (.int l1), some (.int l2), some (.int l3), some (.int l4), some (.int (l5 + 1)), none] [] z v11 Q))) ∧ (¬ r10 ≤ l3 → (oX6_comeBack G d [(.ref 200)] z v9 (fun v12 => (oX6_breathOf G d [(.ref 200), (.int l5)] z v12 (fun r14 v13 => aX6_keeps G (d + 1) 29 [some (.ref 200), some (.int l1), some (.int l5), some (.int r14), some (.int l4), some (.int (l5 + 1)), none] [] z v13 Q)))))))))))))))))) :
    aX6_keeps G (d + 1) 29 [some (.ref 200), some (.int l1), some (.int l2), some (.int l3), some (.int l4), some (.int l5), none] [] z v Q := by
  refine AW_iload dX6_keeps_29 rfl ?_
  refine AW_aload_n dX6_keeps_31 rfl rfl ?_
  refine AW_vI (as := []) (st := [(.int l5)]) dX6_keeps_32 (bI_200 B) (by decide) rfl mv_X6_programs mi_X6_programs ml_X6_217 (Nat.le_of_ble_eq_true rfl) rfl (Nat.le_refl 0) (Nat.le_refl 0) H (fun r2 v1 H => ?_)
  refine AW_icmp_ge (tgt := 111) dX6_keeps_35 (by decide) (fun c => ?_) (fun c => ?_)
  · replace H := H.1 c
    refine AW_aload_n dX6_keeps_111 rfl rfl ?_
    refine AW_iload_n dX6_keeps_112 rfl rfl ?_
    refine AW_iload_n dX6_keeps_113 rfl rfl ?_
    refine AW_vI (as := [(.int l2), (.int l3)]) (st := []) dX6_keeps_114 (bI_200 B) (by decide) rfl mv_X6_ask mi_X6_ask ml_X6_118 (Nat.le_of_ble_eq_true rfl) rfl (Nat.le_refl 0) (Nat.le_refl 0) H (fun r4 v3 H => ?_)
    exact AW_rI dX6_keeps_117 rfl rfl H
  · replace H := H.2 c
    refine AW_aload_n dX6_keeps_38 rfl rfl ?_
    refine AW_iload dX6_keeps_39 rfl ?_
    refine AW_vI (as := [(.int l5)]) (st := []) dX6_keeps_41 (bI_200 B) (by decide) rfl mv_X6_passEvening mi_X6_passEvening ml_X6_221 (Nat.le_of_ble_eq_true rfl) rfl (Nat.le_refl 0) (Nat.le_refl 0) H (fun r6 v5 H => ?_)
    refine AW_pop dX6_keeps_44 rfl ?_
    refine AW_aload_n dX6_keeps_45 rfl rfl ?_
    refine AW_getR dX6_keeps_46 (bI_200 B) fl_X6_28 (bR_200_10 B) ?_
    refine AW_iload_n dX6_keeps_49 rfl rfl ?_
    have hi7 := H.1
    replace H := H.2
    refine AW_iald dX6_keeps_50 (bI_210 B) hi7 ?_
    refine AW_iload dX6_keeps_51 rfl ?_
    refine AW_icmp_ne (tgt := 70) dX6_keeps_53 (by decide) (fun c => ?_) (fun c => ?_)
    · replace H := H.1 c
      refine AW_iconst (x := 0) dX6_keeps_70 (by decide) ?_
      refine AW_istore (L' := [some (.ref 200), some (.int l1), some (.int l2), some (.int l3), some (.int l4), some (.int l5), some (.int 0)]) dX6_keeps_71 (by decide) rfl ?_
      refine AW_aload_n dX6_keeps_73 rfl rfl ?_
      refine AW_vV (as := []) (st := []) dX6_keeps_74 (bI_200 B) (by decide) rfl mv_X6_comeBack mi_X6_comeBack ml_X6_242 (Nat.le_of_ble_eq_true rfl) rfl (Nat.le_refl 0) (Nat.le_refl 0) H (fun v8 H => ?_)
      refine AW_iload dX6_keeps_77 rfl ?_
      refine AW_if_eq (tgt := 87) dX6_keeps_79 (by decide) (fun _ => ?_) (fun q => absurd (by decide) q)
      refine AW_iload_n dX6_keeps_87 rfl rfl ?_
      refine AW_istore_n (L' := [some (.ref 200), some (.int l1), some (.int l2), some (.int l3), some (.int l4), some (.int l5), some (.int 0)]) dX6_keeps_88 rfl (by decide) rfl ?_
      refine AW_iload dX6_keeps_89 rfl ?_
      refine AW_if_eq (tgt := 103) dX6_keeps_91 (by decide) (fun _ => ?_) (fun q => absurd (by decide) q)
      refine AW_iload_n dX6_keeps_103 rfl rfl ?_
      refine AW_istore_n (L' := [some (.ref 200), some (.int l1), some (.int l2), some (.int l3), some (.int l4), some (.int l5), some (.int 0)]) dX6_keeps_104 rfl (by decide) rfl ?_
      refine AW_iinc (x' := l5 + 1) (L' := [some (.ref 200), some (.int l1), some (.int l2), some (.int l3), some (.int l4), some (.int (l5 + 1)), some (.int 0)]) dX6_keeps_105 rfl rfl (by decide) rfl ?_
      refine AW_goto (tgt := 29) dX6_keeps_108 (by decide) ?_
      refine AW_sub (L' := [some (.ref 200), some (.int l1), some (.int l2), some (.int l3), some (.int l4), some (.int (l5 + 1)), none]) (show xle _ _ from ⟨rfl, ⟨rfl, ⟨rfl, ⟨rfl, ⟨rfl, ⟨rfl, trivial⟩⟩⟩⟩⟩⟩) ?_
      exact H
    · replace H := H.2 c
      refine AW_aload_n dX6_keeps_56 rfl rfl ?_
      refine AW_iload dX6_keeps_57 rfl ?_
      refine AW_vI (as := [(.int l5)]) (st := []) dX6_keeps_59 (bI_200 B) (by decide) rfl mv_X6_breathOf mi_X6_breathOf ml_X6_230 (Nat.le_of_ble_eq_true rfl) rfl (Nat.le_refl 0) (Nat.le_refl 0) H (fun r10 v9 H => ?_)
      refine AW_iload_n dX6_keeps_62 rfl rfl ?_
      refine AW_icmp_le (tgt := 70) dX6_keeps_63 (by decide) (fun c => ?_) (fun c => ?_)
      · replace H := H.1 c
        refine AW_iconst (x := 0) dX6_keeps_70 (by decide) ?_
        refine AW_istore (L' := [some (.ref 200), some (.int l1), some (.int l2), some (.int l3), some (.int l4), some (.int l5), some (.int 0)]) dX6_keeps_71 (by decide) rfl ?_
        refine AW_aload_n dX6_keeps_73 rfl rfl ?_
        refine AW_vV (as := []) (st := []) dX6_keeps_74 (bI_200 B) (by decide) rfl mv_X6_comeBack mi_X6_comeBack ml_X6_242 (Nat.le_of_ble_eq_true rfl) rfl (Nat.le_refl 0) (Nat.le_refl 0) H (fun v11 H => ?_)
        refine AW_iload dX6_keeps_77 rfl ?_
        refine AW_if_eq (tgt := 87) dX6_keeps_79 (by decide) (fun _ => ?_) (fun q => absurd (by decide) q)
        refine AW_iload_n dX6_keeps_87 rfl rfl ?_
        refine AW_istore_n (L' := [some (.ref 200), some (.int l1), some (.int l2), some (.int l3), some (.int l4), some (.int l5), some (.int 0)]) dX6_keeps_88 rfl (by decide) rfl ?_
        refine AW_iload dX6_keeps_89 rfl ?_
        refine AW_if_eq (tgt := 103) dX6_keeps_91 (by decide) (fun _ => ?_) (fun q => absurd (by decide) q)
        refine AW_iload_n dX6_keeps_103 rfl rfl ?_
        refine AW_istore_n (L' := [some (.ref 200), some (.int l1), some (.int l2), some (.int l3), some (.int l4), some (.int l5), some (.int 0)]) dX6_keeps_104 rfl (by decide) rfl ?_
        refine AW_iinc (x' := l5 + 1) (L' := [some (.ref 200), some (.int l1), some (.int l2), some (.int l3), some (.int l4), some (.int (l5 + 1)), some (.int 0)]) dX6_keeps_105 rfl rfl (by decide) rfl ?_
        refine AW_goto (tgt := 29) dX6_keeps_108 (by decide) ?_
        refine AW_sub (L' := [some (.ref 200), some (.int l1), some (.int l2), some (.int l3), some (.int l4), some (.int (l5 + 1)), none]) (show xle _ _ from ⟨rfl, ⟨rfl, ⟨rfl, ⟨rfl, ⟨rfl, ⟨rfl, trivial⟩⟩⟩⟩⟩⟩) ?_
        exact H
      · replace H := H.2 c
        refine AW_iconst (x := 1) dX6_keeps_66 (by decide) ?_
        refine AW_goto (tgt := 71) dX6_keeps_67 (by decide) ?_
        refine AW_istore (L' := [some (.ref 200), some (.int l1), some (.int l2), some (.int l3), some (.int l4), some (.int l5), some (.int 1)]) dX6_keeps_71 (by decide) rfl ?_
        refine AW_aload_n dX6_keeps_73 rfl rfl ?_
        refine AW_vV (as := []) (st := []) dX6_keeps_74 (bI_200 B) (by decide) rfl mv_X6_comeBack mi_X6_comeBack ml_X6_242 (Nat.le_of_ble_eq_true rfl) rfl (Nat.le_refl 0) (Nat.le_refl 0) H (fun v12 H => ?_)
        refine AW_iload dX6_keeps_77 rfl ?_
        refine AW_if_eq (tgt := 87) dX6_keeps_79 (by decide) (fun q => absurd q (by decide)) (fun _ => ?_)
        refine AW_iload dX6_keeps_82 rfl ?_
        refine AW_goto (tgt := 88) dX6_keeps_84 (by decide) ?_
        refine AW_istore_n (L' := [some (.ref 200), some (.int l1), some (.int l5), some (.int l3), some (.int l4), some (.int l5), some (.int 1)]) dX6_keeps_88 rfl (by decide) rfl ?_
        refine AW_iload dX6_keeps_89 rfl ?_
        refine AW_if_eq (tgt := 103) dX6_keeps_91 (by decide) (fun q => absurd q (by decide)) (fun _ => ?_)
        refine AW_aload_n dX6_keeps_94 rfl rfl ?_
        refine AW_iload dX6_keeps_95 rfl ?_
        refine AW_vI (as := [(.int l5)]) (st := []) dX6_keeps_97 (bI_200 B) (by decide) rfl mv_X6_breathOf mi_X6_breathOf ml_X6_230 (Nat.le_of_ble_eq_true rfl) rfl (Nat.le_refl 0) (Nat.le_refl 0) H (fun r14 v13 H => ?_)
        refine AW_goto (tgt := 104) dX6_keeps_100 (by decide) ?_
        refine AW_istore_n (L' := [some (.ref 200), some (.int l1), some (.int l5), some (.int r14), some (.int l4), some (.int l5), some (.int 1)]) dX6_keeps_104 rfl (by decide) rfl ?_
        refine AW_iinc (x' := l5 + 1) (L' := [some (.ref 200), some (.int l1), some (.int l5), some (.int r14), some (.int l4), some (.int (l5 + 1)), some (.int 1)]) dX6_keeps_105 rfl rfl (by decide) rfl ?_
        refine AW_goto (tgt := 29) dX6_keeps_108 (by decide) ?_
        refine AW_sub (L' := [some (.ref 200), some (.int l1), some (.int l5), some (.int r14), some (.int l4), some (.int (l5 + 1)), none]) (show xle _ _ from ⟨rfl, ⟨rfl, ⟨rfl, ⟨rfl, ⟨rfl, ⟨rfl, trivial⟩⟩⟩⟩⟩⟩) ?_
        exact H
set_option maxRecDepth 100000 in
set_option maxHeartbeats 4000000 in
theorem vc_X6_rivalOn {G : xG} {d : Nat} {z : xZ} {v : xS} {Q : Int32 → xS → Prop} (B : Base z) {xa : Int32} {xb : Int32} {xc : Int32} {xd : Int32} {xe : Int32} 
    (H : ((¬ xd = xe → (oX6_write G d [(.ref 200), (.ref 230), (.int (14 * xd))] z v (fun v1 => ((¬ (xd - xd / 2 * 2) = 0 → aX6_rivalOn G (d + 1) 51 [some (.ref 200), some (.int xa), some (.int xb), some (.int xc), some (.int xd), some (.int xe), some (.int 0), some (.int (-9)), some (.int 0), some (.int 0), none, none] [] z v1 Q) ∧ ((xd - xd / 2 * 2) = 0 → aX6_rivalOn G (d + 1) 51 [some (.ref 200), some (.int xa), some (.int xb), some (.int xc), some (.int xd), some (.int xe), some (.int 1), some (.int (-9)), some (.int 0), some (.int 0), none, none] [] z v1 Q))))) ∧ (xd = xe → (vp_in xc 10 ∧ Q (v.1 210 xc.toNatClampNeg) v)))) :
    oX6_rivalOn G (d + 1) [(.ref 200), (.int xa), (.int xb), (.int xc), (.int xd), (.int xe)] z v Q := by
  refine Ok_of (own := RX6) (by decide) rfl (Nat.le_of_ble_eq_true rfl) ?_
  show AW G (d + 1) 0 0 yX6_rivalOn cX6_rivalOn 12 (some .int) RX6 0 0 0 [some (.ref 200), some (.int xa), some (.int xb), some (.int xc), some (.int xd), some (.int xe), none, none, none, none, none, none] [] z v _
  refine AW_iload dX6_rivalOn_0 rfl ?_
  refine AW_iload dX6_rivalOn_2 rfl ?_
  refine AW_icmp_ne (tgt := 14) dX6_rivalOn_4 (by decide) (fun c => ?_) (fun c => ?_)
  · replace H := H.1 c
    refine AW_aload_n dX6_rivalOn_14 rfl rfl ?_
    refine AW_aload_n dX6_rivalOn_15 rfl rfl ?_
    refine AW_getR dX6_rivalOn_16 (bI_200 B) fl_X6_73 (bR_200_30 B) ?_
    refine AW_bipush (x := 14) dX6_rivalOn_19 (by decide) ?_
    refine AW_iload dX6_rivalOn_21 rfl ?_
    refine AW_imul dX6_rivalOn_23 ?_
    refine AW_vV (as := [(.ref 230), (.int (14 * xd))]) (st := []) dX6_rivalOn_24 (bI_200 B) (by decide) rfl mv_X6_write mi_X6_write ml_X6_204 (Nat.le_of_ble_eq_true rfl) rfl (Nat.le_refl 0) (Nat.le_refl 0) H (fun v1 H => ?_)
    refine AW_iload dX6_rivalOn_27 rfl ?_
    refine AW_iconst (x := 2) dX6_rivalOn_29 (by decide) ?_
    refine AW_irem dX6_rivalOn_30 (by decide) ?_
    refine AW_if_ne (tgt := 38) dX6_rivalOn_31 (by decide) (fun c => ?_) (fun c => ?_)
    · replace H := H.1 c
      refine AW_iconst (x := 0) dX6_rivalOn_38 (by decide) ?_
      refine AW_istore (L' := [some (.ref 200), some (.int xa), some (.int xb), some (.int xc), some (.int xd), some (.int xe), some (.int 0), none, none, none, none, none]) dX6_rivalOn_39 (by decide) rfl ?_
      refine AW_bipush (x := (-9)) dX6_rivalOn_41 (by decide) ?_
      refine AW_istore (L' := [some (.ref 200), some (.int xa), some (.int xb), some (.int xc), some (.int xd), some (.int xe), some (.int 0), some (.int (-9)), none, none, none, none]) dX6_rivalOn_43 (by decide) rfl ?_
      refine AW_iconst (x := 0) dX6_rivalOn_45 (by decide) ?_
      refine AW_istore (L' := [some (.ref 200), some (.int xa), some (.int xb), some (.int xc), some (.int xd), some (.int xe), some (.int 0), some (.int (-9)), some (.int 0), none, none, none]) dX6_rivalOn_46 (by decide) rfl ?_
      refine AW_iconst (x := 0) dX6_rivalOn_48 (by decide) ?_
      refine AW_istore (L' := [some (.ref 200), some (.int xa), some (.int xb), some (.int xc), some (.int xd), some (.int xe), some (.int 0), some (.int (-9)), some (.int 0), some (.int 0), none, none]) dX6_rivalOn_49 (by decide) rfl ?_
      exact H
    · replace H := H.2 c
      refine AW_iconst (x := 1) dX6_rivalOn_34 (by decide) ?_
      refine AW_goto (tgt := 39) dX6_rivalOn_35 (by decide) ?_
      refine AW_istore (L' := [some (.ref 200), some (.int xa), some (.int xb), some (.int xc), some (.int xd), some (.int xe), some (.int 1), none, none, none, none, none]) dX6_rivalOn_39 (by decide) rfl ?_
      refine AW_bipush (x := (-9)) dX6_rivalOn_41 (by decide) ?_
      refine AW_istore (L' := [some (.ref 200), some (.int xa), some (.int xb), some (.int xc), some (.int xd), some (.int xe), some (.int 1), some (.int (-9)), none, none, none, none]) dX6_rivalOn_43 (by decide) rfl ?_
      refine AW_iconst (x := 0) dX6_rivalOn_45 (by decide) ?_
      refine AW_istore (L' := [some (.ref 200), some (.int xa), some (.int xb), some (.int xc), some (.int xd), some (.int xe), some (.int 1), some (.int (-9)), some (.int 0), none, none, none]) dX6_rivalOn_46 (by decide) rfl ?_
      refine AW_iconst (x := 0) dX6_rivalOn_48 (by decide) ?_
      refine AW_istore (L' := [some (.ref 200), some (.int xa), some (.int xb), some (.int xc), some (.int xd), some (.int xe), some (.int 1), some (.int (-9)), some (.int 0), some (.int 0), none, none]) dX6_rivalOn_49 (by decide) rfl ?_
      exact H
  · replace H := H.2 c
    refine AW_aload_n dX6_rivalOn_7 rfl rfl ?_
    refine AW_getR dX6_rivalOn_8 (bI_200 B) fl_X6_28 (bR_200_10 B) ?_
    refine AW_iload_n dX6_rivalOn_11 rfl rfl ?_
    have hi2 := H.1
    replace H := H.2
    refine AW_iald dX6_rivalOn_12 (bI_210 B) hi2 ?_
    exact AW_rI dX6_rivalOn_13 rfl rfl H
set_option maxRecDepth 100000 in
set_option maxHeartbeats 4000000 in
theorem vc_X6_rivalOn_51 {G : xG} {d : Nat} {z : xZ} {v : xS} {Q : Int32 → xS → Prop} (B : Base z)  {l1 : Int32} {l2 : Int32} {l3 : Int32} {l4 : Int32} {l5 : Int32} {l6 : Int32} {l7 : Int32} {l8 : Int32} {l9 : Int32} 
    (H : ((3 ≤ l9 → (∀ v1 : xS, v1 = wV v 200 37 l7 → Q l8 v1)) ∧ (¬ 3 ≤ l9 → ((l6 = 0 → (oX6_play G d [(.ref 200), (.int l2), (.int l9)] z v (fun r3 v2 => (oX6_rivalOn G d [(.ref 200), (.int l1), (.int l2), (.int l3), (.int (l4 + 1)), (.int l5)] z v2 (fun r5 v4 => (oX6_read G d [(.ref 200), (.ref 230), (.int (14 * l4))] z v4 (fun v6 => ((l7 = (-9) → aX6_rivalOn G (d + 1) 51 [some (.ref 200), some (.int l1), some (.int l2), some (.int l3), some (.int l4), some (.int l5), some (.int l6), some (.int l9), some (.int r5), some (.int (l9 + 1)), none, none] [] z v6 Q) ∧ (¬ l7 = (-9) → ((l6 = 0 → ((l8 ≤ r5 → aX6_rivalOn G (d + 1) 51 [some (.ref 200), some (.int l1), some (.int l2), some (.int l3), some (.int l4), some (.int l5), some (.int l6), some (.int l7), some (.int l8), some (.int (l9 + 1)), none, none] [] z v6 Q) ∧ (¬ l8 ≤ r5 → aX6_rivalOn G (d + 1) 51 [some (.ref 200), some (.int l1), some (.int l2), some (.int l3), some (.int l4), some (.int l5), some (.int l6), some (.int l9), some (.int r5), some (.int (l9 + 1)), none, none] [] z v6 Q))) ∧ (¬ l6 = 0 → ((r5 ≤ l8 → aX6_rivalOn G (d + 1) 51 [some (.ref 200), some (.int l1), some (.int l2), some (.int l3), some (.int l4), some (.int l5), some (.int l6), some (.int l7), some (.int l8), some (.int (l9 + 1)), none, none] [] z v6 Q) ∧ (¬ r5 ≤ l8 → aX6_rivalOn G (d + 1) 51 [some (.ref 200), some (.int l1), some (.int l2), some (.int l3), some (.int l4), some (.int l5), some (.int l6), some (.int l9), some (.int r5), some (.int (l9 + 1)), none, none] [] z v6 Q))))))))))))) ∧ (¬ l6 = 0 → (oX6_play G d [(.ref 200), (.int l1), (.int l9)] z v (fun r8 v7 => (oX6_rivalOn G d [(.ref 200), (.int l1), (.int l2), (.int l3), (.int (l4 + 1)), (.int l5)] z v7 (fun r10 v9 => (oX6_read G d [(.ref 200), (.ref 230), (.int (14 * l4))] z v9 (fun v11 => ((l7 = (-9) → aX6_rivalOn G (d + 1) 51 [some (.ref 200), some (.int l1), some (.int l2), some (.int l3), some (.int l4), some (.int l5), some (.int l6), some (.int l9), some (.int r10), some (.int (l9 + 1)), none, none] [] z v11 Q) ∧ (¬ l7 = (-9) → ((l6 = 0 → ((l8 ≤ r10 → aX6_rivalOn G (d + 1) 51 [some (.ref 200), some (.int l1), some (.int l2), some (.int l3), some (.int l4), some (.int l5), some (.int l6), some (.int l7), some (.int l8), some (.int (l9 + 1)), none, none] [] z v11 Q) ∧ (¬ l8 ≤ r10 → aX6_rivalOn G (d + 1) 51 [some (.ref 200), some (.int l1), some (.int l2), some (.int l3), some (.int l4), some (.int l5), some (.int l6), some (.int l9), some (.int r10), some (.int (l9 + 1)), none, none] [] z v11 Q))) ∧ (¬ l6 = 0 → ((r10 ≤ l8 → aX6_rivalOn G (d + 1) 51 [some (.ref 200), some (.int l1), some (.int l2), some (.int l3), some (.int l4), some (.int l5), some (.int l6), some (.int l7), some (.int l8), some (.int (l9 + 1)), none, none] [] z v11 Q) ∧ (¬ r10 ≤ l8 → aX6_rivalOn G (d + 1) 51 [some (.ref 200), some (.int l1), some (.int l2), some (.int l3), some (.int l4), some (.int l5), some (.int l6), some (.int l9), some (.int r10), some (.int (l9 + 1)), none, none] [] z v11 Q))))))))))))))))) :
    aX6_rivalOn G (d + 1) 51 [some (.ref 200), some (.int l1), some (.int l2), some (.int l3), some (.int l4), some (.int l5), some (.int l6), some (.int l7), some (.int l8), some (.int l9), none, none] [] z v Q := by
  refine AW_iload dX6_rivalOn_51 rfl ?_
  refine AW_iconst (x := 3) dX6_rivalOn_53 (by decide) ?_
  refine AW_icmp_ge (tgt := 172) dX6_rivalOn_54 (by decide) (fun c => ?_) (fun c => ?_)
  · replace H := H.1 c
    refine AW_aload_n dX6_rivalOn_172 rfl rfl ?_
    refine AW_iload dX6_rivalOn_173 rfl ?_
    refine AW_putIN dX6_rivalOn_175 (bI_200 B) fl_X6_288 rfl rfl rfl (fun v1 hv1 => ?_)
    replace H := H v1 hv1
    refine AW_iload dX6_rivalOn_178 rfl ?_
    exact AW_rI dX6_rivalOn_180 rfl rfl H
  · replace H := H.2 c
    refine AW_aload_n dX6_rivalOn_57 rfl rfl ?_
    refine AW_iload dX6_rivalOn_58 rfl ?_
    refine AW_if_eq (tgt := 67) dX6_rivalOn_60 (by decide) (fun c => ?_) (fun c => ?_)
    · replace H := H.1 c
      refine AW_iload_n dX6_rivalOn_67 rfl rfl ?_
      refine AW_iload dX6_rivalOn_68 rfl ?_
      refine AW_vI (as := [(.int l2), (.int l9)]) (st := []) dX6_rivalOn_70 (bI_200 B) (by decide) rfl mv_X6_play mi_X6_play ml_X6_201 (Nat.le_of_ble_eq_true rfl) rfl (Nat.le_refl 0) (Nat.le_refl 0) H (fun r3 v2 H => ?_)
      refine AW_pop dX6_rivalOn_73 rfl ?_
      refine AW_aload_n dX6_rivalOn_74 rfl rfl ?_
      refine AW_iload_n dX6_rivalOn_75 rfl rfl ?_
      refine AW_iload_n dX6_rivalOn_76 rfl rfl ?_
      refine AW_iload_n dX6_rivalOn_77 rfl rfl ?_
      refine AW_iload dX6_rivalOn_78 rfl ?_
      refine AW_iconst (x := 1) dX6_rivalOn_80 (by decide) ?_
      refine AW_iadd dX6_rivalOn_81 ?_
      refine AW_iload dX6_rivalOn_82 rfl ?_
      refine AW_vI (as := [(.int l1), (.int l2), (.int l3), (.int (l4 + 1)), (.int l5)]) (st := []) dX6_rivalOn_84 (bI_200 B) (by decide) rfl mv_X6_rivalOn mi_X6_rivalOn ml_X6_284 (Nat.le_of_ble_eq_true rfl) rfl (Nat.le_refl 0) (Nat.le_refl 0) H (fun r5 v4 H => ?_)
      refine AW_istore (L' := [some (.ref 200), some (.int l1), some (.int l2), some (.int l3), some (.int l4), some (.int l5), some (.int l6), some (.int l7), some (.int l8), some (.int l9), some (.int r5), none]) dX6_rivalOn_87 (by decide) rfl ?_
      refine AW_aload_n dX6_rivalOn_89 rfl rfl ?_
      refine AW_aload_n dX6_rivalOn_90 rfl rfl ?_
      refine AW_getR dX6_rivalOn_91 (bI_200 B) fl_X6_73 (bR_200_30 B) ?_
      refine AW_bipush (x := 14) dX6_rivalOn_94 (by decide) ?_
      refine AW_iload dX6_rivalOn_96 rfl ?_
      refine AW_imul dX6_rivalOn_98 ?_
      refine AW_vV (as := [(.ref 230), (.int (14 * l4))]) (st := []) dX6_rivalOn_99 (bI_200 B) (by decide) rfl mv_X6_read mi_X6_read ml_X6_208 (Nat.le_of_ble_eq_true rfl) rfl (Nat.le_refl 0) (Nat.le_refl 0) H (fun v6 H => ?_)
      refine AW_iload dX6_rivalOn_102 rfl ?_
      refine AW_bipush (x := (-9)) dX6_rivalOn_104 (by decide) ?_
      refine AW_icmp_eq (tgt := 131) dX6_rivalOn_106 (by decide) (fun c => ?_) (fun c => ?_)
      · replace H := H.1 c
        refine AW_iconst (x := 1) dX6_rivalOn_131 (by decide) ?_
        refine AW_goto (tgt := 136) dX6_rivalOn_132 (by decide) ?_
        refine AW_istore (L' := [some (.ref 200), some (.int l1), some (.int l2), some (.int l3), some (.int l4), some (.int l5), some (.int l6), some (.int l7), some (.int l8), some (.int l9), some (.int r5), some (.int 1)]) dX6_rivalOn_136 (by decide) rfl ?_
        refine AW_iload dX6_rivalOn_138 rfl ?_
        refine AW_if_eq (tgt := 148) dX6_rivalOn_140 (by decide) (fun q => absurd q (by decide)) (fun _ => ?_)
        refine AW_iload dX6_rivalOn_143 rfl ?_
        refine AW_goto (tgt := 150) dX6_rivalOn_145 (by decide) ?_
        refine AW_istore (L' := [some (.ref 200), some (.int l1), some (.int l2), some (.int l3), some (.int l4), some (.int l5), some (.int l6), some (.int l9), some (.int l8), some (.int l9), some (.int r5), some (.int 1)]) dX6_rivalOn_150 (by decide) rfl ?_
        refine AW_iload dX6_rivalOn_152 rfl ?_
        refine AW_if_eq (tgt := 162) dX6_rivalOn_154 (by decide) (fun q => absurd q (by decide)) (fun _ => ?_)
        refine AW_iload dX6_rivalOn_157 rfl ?_
        refine AW_goto (tgt := 164) dX6_rivalOn_159 (by decide) ?_
        refine AW_istore (L' := [some (.ref 200), some (.int l1), some (.int l2), some (.int l3), some (.int l4), some (.int l5), some (.int l6), some (.int l9), some (.int r5), some (.int l9), some (.int r5), some (.int 1)]) dX6_rivalOn_164 (by decide) rfl ?_
        refine AW_iinc (x' := l9 + 1) (L' := [some (.ref 200), some (.int l1), some (.int l2), some (.int l3), some (.int l4), some (.int l5), some (.int l6), some (.int l9), some (.int r5), some (.int (l9 + 1)), some (.int r5), some (.int 1)]) dX6_rivalOn_166 rfl rfl (by decide) rfl ?_
        refine AW_goto (tgt := 51) dX6_rivalOn_169 (by decide) ?_
        refine AW_sub (L' := [some (.ref 200), some (.int l1), some (.int l2), some (.int l3), some (.int l4), some (.int l5), some (.int l6), some (.int l9), some (.int r5), some (.int (l9 + 1)), none, none]) (show xle _ _ from ⟨rfl, ⟨rfl, ⟨rfl, ⟨rfl, ⟨rfl, ⟨rfl, ⟨rfl, ⟨rfl, ⟨rfl, ⟨rfl, trivial⟩⟩⟩⟩⟩⟩⟩⟩⟩⟩) ?_
        exact H
      · replace H := H.2 c
        refine AW_iload dX6_rivalOn_109 rfl ?_
        refine AW_if_eq (tgt := 124) dX6_rivalOn_111 (by decide) (fun c => ?_) (fun c => ?_)
        · replace H := H.1 c
          refine AW_iload dX6_rivalOn_124 rfl ?_
          refine AW_iload dX6_rivalOn_126 rfl ?_
          refine AW_icmp_ge (tgt := 135) dX6_rivalOn_128 (by decide) (fun c => ?_) (fun c => ?_)
          · replace H := H.1 c
            refine AW_iconst (x := 0) dX6_rivalOn_135 (by decide) ?_
            refine AW_istore (L' := [some (.ref 200), some (.int l1), some (.int l2), some (.int l3), some (.int l4), some (.int l5), some (.int l6), some (.int l7), some (.int l8), some (.int l9), some (.int r5), some (.int 0)]) dX6_rivalOn_136 (by decide) rfl ?_
            refine AW_iload dX6_rivalOn_138 rfl ?_
            refine AW_if_eq (tgt := 148) dX6_rivalOn_140 (by decide) (fun _ => ?_) (fun q => absurd (by decide) q)
            refine AW_iload dX6_rivalOn_148 rfl ?_
            refine AW_istore (L' := [some (.ref 200), some (.int l1), some (.int l2), some (.int l3), some (.int l4), some (.int l5), some (.int l6), some (.int l7), some (.int l8), some (.int l9), some (.int r5), some (.int 0)]) dX6_rivalOn_150 (by decide) rfl ?_
            refine AW_iload dX6_rivalOn_152 rfl ?_
            refine AW_if_eq (tgt := 162) dX6_rivalOn_154 (by decide) (fun _ => ?_) (fun q => absurd (by decide) q)
            refine AW_iload dX6_rivalOn_162 rfl ?_
            refine AW_istore (L' := [some (.ref 200), some (.int l1), some (.int l2), some (.int l3), some (.int l4), some (.int l5), some (.int l6), some (.int l7), some (.int l8), some (.int l9), some (.int r5), some (.int 0)]) dX6_rivalOn_164 (by decide) rfl ?_
            refine AW_iinc (x' := l9 + 1) (L' := [some (.ref 200), some (.int l1), some (.int l2), some (.int l3), some (.int l4), some (.int l5), some (.int l6), some (.int l7), some (.int l8), some (.int (l9 + 1)), some (.int r5), some (.int 0)]) dX6_rivalOn_166 rfl rfl (by decide) rfl ?_
            refine AW_goto (tgt := 51) dX6_rivalOn_169 (by decide) ?_
            refine AW_sub (L' := [some (.ref 200), some (.int l1), some (.int l2), some (.int l3), some (.int l4), some (.int l5), some (.int l6), some (.int l7), some (.int l8), some (.int (l9 + 1)), none, none]) (show xle _ _ from ⟨rfl, ⟨rfl, ⟨rfl, ⟨rfl, ⟨rfl, ⟨rfl, ⟨rfl, ⟨rfl, ⟨rfl, ⟨rfl, trivial⟩⟩⟩⟩⟩⟩⟩⟩⟩⟩) ?_
            exact H
          · replace H := H.2 c
            refine AW_iconst (x := 1) dX6_rivalOn_131 (by decide) ?_
            refine AW_goto (tgt := 136) dX6_rivalOn_132 (by decide) ?_
            refine AW_istore (L' := [some (.ref 200), some (.int l1), some (.int l2), some (.int l3), some (.int l4), some (.int l5), some (.int l6), some (.int l7), some (.int l8), some (.int l9), some (.int r5), some (.int 1)]) dX6_rivalOn_136 (by decide) rfl ?_
            refine AW_iload dX6_rivalOn_138 rfl ?_
            refine AW_if_eq (tgt := 148) dX6_rivalOn_140 (by decide) (fun q => absurd q (by decide)) (fun _ => ?_)
            refine AW_iload dX6_rivalOn_143 rfl ?_
            refine AW_goto (tgt := 150) dX6_rivalOn_145 (by decide) ?_
            refine AW_istore (L' := [some (.ref 200), some (.int l1), some (.int l2), some (.int l3), some (.int l4), some (.int l5), some (.int l6), some (.int l9), some (.int l8), some (.int l9), some (.int r5), some (.int 1)]) dX6_rivalOn_150 (by decide) rfl ?_
            refine AW_iload dX6_rivalOn_152 rfl ?_
            refine AW_if_eq (tgt := 162) dX6_rivalOn_154 (by decide) (fun q => absurd q (by decide)) (fun _ => ?_)
            refine AW_iload dX6_rivalOn_157 rfl ?_
            refine AW_goto (tgt := 164) dX6_rivalOn_159 (by decide) ?_
            refine AW_istore (L' := [some (.ref 200), some (.int l1), some (.int l2), some (.int l3), some (.int l4), some (.int l5), some (.int l6), some (.int l9), some (.int r5), some (.int l9), some (.int r5), some (.int 1)]) dX6_rivalOn_164 (by decide) rfl ?_
            refine AW_iinc (x' := l9 + 1) (L' := [some (.ref 200), some (.int l1), some (.int l2), some (.int l3), some (.int l4), some (.int l5), some (.int l6), some (.int l9), some (.int r5), some (.int (l9 + 1)), some (.int r5), some (.int 1)]) dX6_rivalOn_166 rfl rfl (by decide) rfl ?_
            refine AW_goto (tgt := 51) dX6_rivalOn_169 (by decide) ?_
            refine AW_sub (L' := [some (.ref 200), some (.int l1), some (.int l2), some (.int l3), some (.int l4), some (.int l5), some (.int l6), some (.int l9), some (.int r5), some (.int (l9 + 1)), none, none]) (show xle _ _ from ⟨rfl, ⟨rfl, ⟨rfl, ⟨rfl, ⟨rfl, ⟨rfl, ⟨rfl, ⟨rfl, ⟨rfl, ⟨rfl, trivial⟩⟩⟩⟩⟩⟩⟩⟩⟩⟩) ?_
            exact H
        · replace H := H.2 c
          refine AW_iload dX6_rivalOn_114 rfl ?_
          refine AW_iload dX6_rivalOn_116 rfl ?_
          refine AW_icmp_le (tgt := 135) dX6_rivalOn_118 (by decide) (fun c => ?_) (fun c => ?_)
          · replace H := H.1 c
            refine AW_iconst (x := 0) dX6_rivalOn_135 (by decide) ?_
            refine AW_istore (L' := [some (.ref 200), some (.int l1), some (.int l2), some (.int l3), some (.int l4), some (.int l5), some (.int l6), some (.int l7), some (.int l8), some (.int l9), some (.int r5), some (.int 0)]) dX6_rivalOn_136 (by decide) rfl ?_
            refine AW_iload dX6_rivalOn_138 rfl ?_
            refine AW_if_eq (tgt := 148) dX6_rivalOn_140 (by decide) (fun _ => ?_) (fun q => absurd (by decide) q)
            refine AW_iload dX6_rivalOn_148 rfl ?_
            refine AW_istore (L' := [some (.ref 200), some (.int l1), some (.int l2), some (.int l3), some (.int l4), some (.int l5), some (.int l6), some (.int l7), some (.int l8), some (.int l9), some (.int r5), some (.int 0)]) dX6_rivalOn_150 (by decide) rfl ?_
            refine AW_iload dX6_rivalOn_152 rfl ?_
            refine AW_if_eq (tgt := 162) dX6_rivalOn_154 (by decide) (fun _ => ?_) (fun q => absurd (by decide) q)
            refine AW_iload dX6_rivalOn_162 rfl ?_
            refine AW_istore (L' := [some (.ref 200), some (.int l1), some (.int l2), some (.int l3), some (.int l4), some (.int l5), some (.int l6), some (.int l7), some (.int l8), some (.int l9), some (.int r5), some (.int 0)]) dX6_rivalOn_164 (by decide) rfl ?_
            refine AW_iinc (x' := l9 + 1) (L' := [some (.ref 200), some (.int l1), some (.int l2), some (.int l3), some (.int l4), some (.int l5), some (.int l6), some (.int l7), some (.int l8), some (.int (l9 + 1)), some (.int r5), some (.int 0)]) dX6_rivalOn_166 rfl rfl (by decide) rfl ?_
            refine AW_goto (tgt := 51) dX6_rivalOn_169 (by decide) ?_
            refine AW_sub (L' := [some (.ref 200), some (.int l1), some (.int l2), some (.int l3), some (.int l4), some (.int l5), some (.int l6), some (.int l7), some (.int l8), some (.int (l9 + 1)), none, none]) (show xle _ _ from ⟨rfl, ⟨rfl, ⟨rfl, ⟨rfl, ⟨rfl, ⟨rfl, ⟨rfl, ⟨rfl, ⟨rfl, ⟨rfl, trivial⟩⟩⟩⟩⟩⟩⟩⟩⟩⟩) ?_
            exact H
          · replace H := H.2 c
            refine AW_goto (tgt := 131) dX6_rivalOn_121 (by decide) ?_
            refine AW_iconst (x := 1) dX6_rivalOn_131 (by decide) ?_
            refine AW_goto (tgt := 136) dX6_rivalOn_132 (by decide) ?_
            refine AW_istore (L' := [some (.ref 200), some (.int l1), some (.int l2), some (.int l3), some (.int l4), some (.int l5), some (.int l6), some (.int l7), some (.int l8), some (.int l9), some (.int r5), some (.int 1)]) dX6_rivalOn_136 (by decide) rfl ?_
            refine AW_iload dX6_rivalOn_138 rfl ?_
            refine AW_if_eq (tgt := 148) dX6_rivalOn_140 (by decide) (fun q => absurd q (by decide)) (fun _ => ?_)
            refine AW_iload dX6_rivalOn_143 rfl ?_
            refine AW_goto (tgt := 150) dX6_rivalOn_145 (by decide) ?_
            refine AW_istore (L' := [some (.ref 200), some (.int l1), some (.int l2), some (.int l3), some (.int l4), some (.int l5), some (.int l6), some (.int l9), some (.int l8), some (.int l9), some (.int r5), some (.int 1)]) dX6_rivalOn_150 (by decide) rfl ?_
            refine AW_iload dX6_rivalOn_152 rfl ?_
            refine AW_if_eq (tgt := 162) dX6_rivalOn_154 (by decide) (fun q => absurd q (by decide)) (fun _ => ?_)
            refine AW_iload dX6_rivalOn_157 rfl ?_
            refine AW_goto (tgt := 164) dX6_rivalOn_159 (by decide) ?_
            refine AW_istore (L' := [some (.ref 200), some (.int l1), some (.int l2), some (.int l3), some (.int l4), some (.int l5), some (.int l6), some (.int l9), some (.int r5), some (.int l9), some (.int r5), some (.int 1)]) dX6_rivalOn_164 (by decide) rfl ?_
            refine AW_iinc (x' := l9 + 1) (L' := [some (.ref 200), some (.int l1), some (.int l2), some (.int l3), some (.int l4), some (.int l5), some (.int l6), some (.int l9), some (.int r5), some (.int (l9 + 1)), some (.int r5), some (.int 1)]) dX6_rivalOn_166 rfl rfl (by decide) rfl ?_
            refine AW_goto (tgt := 51) dX6_rivalOn_169 (by decide) ?_
            refine AW_sub (L' := [some (.ref 200), some (.int l1), some (.int l2), some (.int l3), some (.int l4), some (.int l5), some (.int l6), some (.int l9), some (.int r5), some (.int (l9 + 1)), none, none]) (show xle _ _ from ⟨rfl, ⟨rfl, ⟨rfl, ⟨rfl, ⟨rfl, ⟨rfl, ⟨rfl, ⟨rfl, ⟨rfl, ⟨rfl, trivial⟩⟩⟩⟩⟩⟩⟩⟩⟩⟩) ?_
            exact H
    · replace H := H.2 c
      refine AW_iload_n dX6_rivalOn_63 rfl rfl ?_
      refine AW_goto (tgt := 68) dX6_rivalOn_64 (by decide) ?_
      refine AW_iload dX6_rivalOn_68 rfl ?_
      refine AW_vI (as := [(.int l1), (.int l9)]) (st := []) dX6_rivalOn_70 (bI_200 B) (by decide) rfl mv_X6_play mi_X6_play ml_X6_201 (Nat.le_of_ble_eq_true rfl) rfl (Nat.le_refl 0) (Nat.le_refl 0) H (fun r8 v7 H => ?_)
      refine AW_pop dX6_rivalOn_73 rfl ?_
      refine AW_aload_n dX6_rivalOn_74 rfl rfl ?_
      refine AW_iload_n dX6_rivalOn_75 rfl rfl ?_
      refine AW_iload_n dX6_rivalOn_76 rfl rfl ?_
      refine AW_iload_n dX6_rivalOn_77 rfl rfl ?_
      refine AW_iload dX6_rivalOn_78 rfl ?_
      refine AW_iconst (x := 1) dX6_rivalOn_80 (by decide) ?_
      refine AW_iadd dX6_rivalOn_81 ?_
      refine AW_iload dX6_rivalOn_82 rfl ?_
      refine AW_vI (as := [(.int l1), (.int l2), (.int l3), (.int (l4 + 1)), (.int l5)]) (st := []) dX6_rivalOn_84 (bI_200 B) (by decide) rfl mv_X6_rivalOn mi_X6_rivalOn ml_X6_284 (Nat.le_of_ble_eq_true rfl) rfl (Nat.le_refl 0) (Nat.le_refl 0) H (fun r10 v9 H => ?_)
      refine AW_istore (L' := [some (.ref 200), some (.int l1), some (.int l2), some (.int l3), some (.int l4), some (.int l5), some (.int l6), some (.int l7), some (.int l8), some (.int l9), some (.int r10), none]) dX6_rivalOn_87 (by decide) rfl ?_
      refine AW_aload_n dX6_rivalOn_89 rfl rfl ?_
      refine AW_aload_n dX6_rivalOn_90 rfl rfl ?_
      refine AW_getR dX6_rivalOn_91 (bI_200 B) fl_X6_73 (bR_200_30 B) ?_
      refine AW_bipush (x := 14) dX6_rivalOn_94 (by decide) ?_
      refine AW_iload dX6_rivalOn_96 rfl ?_
      refine AW_imul dX6_rivalOn_98 ?_
      refine AW_vV (as := [(.ref 230), (.int (14 * l4))]) (st := []) dX6_rivalOn_99 (bI_200 B) (by decide) rfl mv_X6_read mi_X6_read ml_X6_208 (Nat.le_of_ble_eq_true rfl) rfl (Nat.le_refl 0) (Nat.le_refl 0) H (fun v11 H => ?_)
      refine AW_iload dX6_rivalOn_102 rfl ?_
      refine AW_bipush (x := (-9)) dX6_rivalOn_104 (by decide) ?_
      refine AW_icmp_eq (tgt := 131) dX6_rivalOn_106 (by decide) (fun c => ?_) (fun c => ?_)
      · replace H := H.1 c
        refine AW_iconst (x := 1) dX6_rivalOn_131 (by decide) ?_
        refine AW_goto (tgt := 136) dX6_rivalOn_132 (by decide) ?_
        refine AW_istore (L' := [some (.ref 200), some (.int l1), some (.int l2), some (.int l3), some (.int l4), some (.int l5), some (.int l6), some (.int l7), some (.int l8), some (.int l9), some (.int r10), some (.int 1)]) dX6_rivalOn_136 (by decide) rfl ?_
        refine AW_iload dX6_rivalOn_138 rfl ?_
        refine AW_if_eq (tgt := 148) dX6_rivalOn_140 (by decide) (fun q => absurd q (by decide)) (fun _ => ?_)
        refine AW_iload dX6_rivalOn_143 rfl ?_
        refine AW_goto (tgt := 150) dX6_rivalOn_145 (by decide) ?_
        refine AW_istore (L' := [some (.ref 200), some (.int l1), some (.int l2), some (.int l3), some (.int l4), some (.int l5), some (.int l6), some (.int l9), some (.int l8), some (.int l9), some (.int r10), some (.int 1)]) dX6_rivalOn_150 (by decide) rfl ?_
        refine AW_iload dX6_rivalOn_152 rfl ?_
        refine AW_if_eq (tgt := 162) dX6_rivalOn_154 (by decide) (fun q => absurd q (by decide)) (fun _ => ?_)
        refine AW_iload dX6_rivalOn_157 rfl ?_
        refine AW_goto (tgt := 164) dX6_rivalOn_159 (by decide) ?_
        refine AW_istore (L' := [some (.ref 200), some (.int l1), some (.int l2), some (.int l3), some (.int l4), some (.int l5), some (.int l6), some (.int l9), some (.int r10), some (.int l9), some (.int r10), some (.int 1)]) dX6_rivalOn_164 (by decide) rfl ?_
        refine AW_iinc (x' := l9 + 1) (L' := [some (.ref 200), some (.int l1), some (.int l2), some (.int l3), some (.int l4), some (.int l5), some (.int l6), some (.int l9), some (.int r10), some (.int (l9 + 1)), some (.int r10), some (.int 1)]) dX6_rivalOn_166 rfl rfl (by decide) rfl ?_
        refine AW_goto (tgt := 51) dX6_rivalOn_169 (by decide) ?_
        refine AW_sub (L' := [some (.ref 200), some (.int l1), some (.int l2), some (.int l3), some (.int l4), some (.int l5), some (.int l6), some (.int l9), some (.int r10), some (.int (l9 + 1)), none, none]) (show xle _ _ from ⟨rfl, ⟨rfl, ⟨rfl, ⟨rfl, ⟨rfl, ⟨rfl, ⟨rfl, ⟨rfl, ⟨rfl, ⟨rfl, trivial⟩⟩⟩⟩⟩⟩⟩⟩⟩⟩) ?_
        exact H
      · replace H := H.2 c
        refine AW_iload dX6_rivalOn_109 rfl ?_
        refine AW_if_eq (tgt := 124) dX6_rivalOn_111 (by decide) (fun c => ?_) (fun c => ?_)
        · replace H := H.1 c
          refine AW_iload dX6_rivalOn_124 rfl ?_
          refine AW_iload dX6_rivalOn_126 rfl ?_
          refine AW_icmp_ge (tgt := 135) dX6_rivalOn_128 (by decide) (fun c => ?_) (fun c => ?_)
          · replace H := H.1 c
            refine AW_iconst (x := 0) dX6_rivalOn_135 (by decide) ?_
            refine AW_istore (L' := [some (.ref 200), some (.int l1), some (.int l2), some (.int l3), some (.int l4), some (.int l5), some (.int l6), some (.int l7), some (.int l8), some (.int l9), some (.int r10), some (.int 0)]) dX6_rivalOn_136 (by decide) rfl ?_
            refine AW_iload dX6_rivalOn_138 rfl ?_
            refine AW_if_eq (tgt := 148) dX6_rivalOn_140 (by decide) (fun _ => ?_) (fun q => absurd (by decide) q)
            refine AW_iload dX6_rivalOn_148 rfl ?_
            refine AW_istore (L' := [some (.ref 200), some (.int l1), some (.int l2), some (.int l3), some (.int l4), some (.int l5), some (.int l6), some (.int l7), some (.int l8), some (.int l9), some (.int r10), some (.int 0)]) dX6_rivalOn_150 (by decide) rfl ?_
            refine AW_iload dX6_rivalOn_152 rfl ?_
            refine AW_if_eq (tgt := 162) dX6_rivalOn_154 (by decide) (fun _ => ?_) (fun q => absurd (by decide) q)
            refine AW_iload dX6_rivalOn_162 rfl ?_
            refine AW_istore (L' := [some (.ref 200), some (.int l1), some (.int l2), some (.int l3), some (.int l4), some (.int l5), some (.int l6), some (.int l7), some (.int l8), some (.int l9), some (.int r10), some (.int 0)]) dX6_rivalOn_164 (by decide) rfl ?_
            refine AW_iinc (x' := l9 + 1) (L' := [some (.ref 200), some (.int l1), some (.int l2), some (.int l3), some (.int l4), some (.int l5), some (.int l6), some (.int l7), some (.int l8), some (.int (l9 + 1)), some (.int r10), some (.int 0)]) dX6_rivalOn_166 rfl rfl (by decide) rfl ?_
            refine AW_goto (tgt := 51) dX6_rivalOn_169 (by decide) ?_
            refine AW_sub (L' := [some (.ref 200), some (.int l1), some (.int l2), some (.int l3), some (.int l4), some (.int l5), some (.int l6), some (.int l7), some (.int l8), some (.int (l9 + 1)), none, none]) (show xle _ _ from ⟨rfl, ⟨rfl, ⟨rfl, ⟨rfl, ⟨rfl, ⟨rfl, ⟨rfl, ⟨rfl, ⟨rfl, ⟨rfl, trivial⟩⟩⟩⟩⟩⟩⟩⟩⟩⟩) ?_
            exact H
          · replace H := H.2 c
            refine AW_iconst (x := 1) dX6_rivalOn_131 (by decide) ?_
            refine AW_goto (tgt := 136) dX6_rivalOn_132 (by decide) ?_
            refine AW_istore (L' := [some (.ref 200), some (.int l1), some (.int l2), some (.int l3), some (.int l4), some (.int l5), some (.int l6), some (.int l7), some (.int l8), some (.int l9), some (.int r10), some (.int 1)]) dX6_rivalOn_136 (by decide) rfl ?_
            refine AW_iload dX6_rivalOn_138 rfl ?_
            refine AW_if_eq (tgt := 148) dX6_rivalOn_140 (by decide) (fun q => absurd q (by decide)) (fun _ => ?_)
            refine AW_iload dX6_rivalOn_143 rfl ?_
            refine AW_goto (tgt := 150) dX6_rivalOn_145 (by decide) ?_
            refine AW_istore (L' := [some (.ref 200), some (.int l1), some (.int l2), some (.int l3), some (.int l4), some (.int l5), some (.int l6), some (.int l9), some (.int l8), some (.int l9), some (.int r10), some (.int 1)]) dX6_rivalOn_150 (by decide) rfl ?_
            refine AW_iload dX6_rivalOn_152 rfl ?_
            refine AW_if_eq (tgt := 162) dX6_rivalOn_154 (by decide) (fun q => absurd q (by decide)) (fun _ => ?_)
            refine AW_iload dX6_rivalOn_157 rfl ?_
            refine AW_goto (tgt := 164) dX6_rivalOn_159 (by decide) ?_
            refine AW_istore (L' := [some (.ref 200), some (.int l1), some (.int l2), some (.int l3), some (.int l4), some (.int l5), some (.int l6), some (.int l9), some (.int r10), some (.int l9), some (.int r10), some (.int 1)]) dX6_rivalOn_164 (by decide) rfl ?_
            refine AW_iinc (x' := l9 + 1) (L' := [some (.ref 200), some (.int l1), some (.int l2), some (.int l3), some (.int l4), some (.int l5), some (.int l6), some (.int l9), some (.int r10), some (.int (l9 + 1)), some (.int r10), some (.int 1)]) dX6_rivalOn_166 rfl rfl (by decide) rfl ?_
            refine AW_goto (tgt := 51) dX6_rivalOn_169 (by decide) ?_
            refine AW_sub (L' := [some (.ref 200), some (.int l1), some (.int l2), some (.int l3), some (.int l4), some (.int l5), some (.int l6), some (.int l9), some (.int r10), some (.int (l9 + 1)), none, none]) (show xle _ _ from ⟨rfl, ⟨rfl, ⟨rfl, ⟨rfl, ⟨rfl, ⟨rfl, ⟨rfl, ⟨rfl, ⟨rfl, ⟨rfl, trivial⟩⟩⟩⟩⟩⟩⟩⟩⟩⟩) ?_
            exact H
        · replace H := H.2 c
          refine AW_iload dX6_rivalOn_114 rfl ?_
          refine AW_iload dX6_rivalOn_116 rfl ?_
          refine AW_icmp_le (tgt := 135) dX6_rivalOn_118 (by decide) (fun c => ?_) (fun c => ?_)
          · replace H := H.1 c
            refine AW_iconst (x := 0) dX6_rivalOn_135 (by decide) ?_
            refine AW_istore (L' := [some (.ref 200), some (.int l1), some (.int l2), some (.int l3), some (.int l4), some (.int l5), some (.int l6), some (.int l7), some (.int l8), some (.int l9), some (.int r10), some (.int 0)]) dX6_rivalOn_136 (by decide) rfl ?_
            refine AW_iload dX6_rivalOn_138 rfl ?_
            refine AW_if_eq (tgt := 148) dX6_rivalOn_140 (by decide) (fun _ => ?_) (fun q => absurd (by decide) q)
            refine AW_iload dX6_rivalOn_148 rfl ?_
            refine AW_istore (L' := [some (.ref 200), some (.int l1), some (.int l2), some (.int l3), some (.int l4), some (.int l5), some (.int l6), some (.int l7), some (.int l8), some (.int l9), some (.int r10), some (.int 0)]) dX6_rivalOn_150 (by decide) rfl ?_
            refine AW_iload dX6_rivalOn_152 rfl ?_
            refine AW_if_eq (tgt := 162) dX6_rivalOn_154 (by decide) (fun _ => ?_) (fun q => absurd (by decide) q)
            refine AW_iload dX6_rivalOn_162 rfl ?_
            refine AW_istore (L' := [some (.ref 200), some (.int l1), some (.int l2), some (.int l3), some (.int l4), some (.int l5), some (.int l6), some (.int l7), some (.int l8), some (.int l9), some (.int r10), some (.int 0)]) dX6_rivalOn_164 (by decide) rfl ?_
            refine AW_iinc (x' := l9 + 1) (L' := [some (.ref 200), some (.int l1), some (.int l2), some (.int l3), some (.int l4), some (.int l5), some (.int l6), some (.int l7), some (.int l8), some (.int (l9 + 1)), some (.int r10), some (.int 0)]) dX6_rivalOn_166 rfl rfl (by decide) rfl ?_
            refine AW_goto (tgt := 51) dX6_rivalOn_169 (by decide) ?_
            refine AW_sub (L' := [some (.ref 200), some (.int l1), some (.int l2), some (.int l3), some (.int l4), some (.int l5), some (.int l6), some (.int l7), some (.int l8), some (.int (l9 + 1)), none, none]) (show xle _ _ from ⟨rfl, ⟨rfl, ⟨rfl, ⟨rfl, ⟨rfl, ⟨rfl, ⟨rfl, ⟨rfl, ⟨rfl, ⟨rfl, trivial⟩⟩⟩⟩⟩⟩⟩⟩⟩⟩) ?_
            exact H
          · replace H := H.2 c
            refine AW_goto (tgt := 131) dX6_rivalOn_121 (by decide) ?_
            refine AW_iconst (x := 1) dX6_rivalOn_131 (by decide) ?_
            refine AW_goto (tgt := 136) dX6_rivalOn_132 (by decide) ?_
            refine AW_istore (L' := [some (.ref 200), some (.int l1), some (.int l2), some (.int l3), some (.int l4), some (.int l5), some (.int l6), some (.int l7), some (.int l8), some (.int l9), some (.int r10), some (.int 1)]) dX6_rivalOn_136 (by decide) rfl ?_
            refine AW_iload dX6_rivalOn_138 rfl ?_
            refine AW_if_eq (tgt := 148) dX6_rivalOn_140 (by decide) (fun q => absurd q (by decide)) (fun _ => ?_)
            refine AW_iload dX6_rivalOn_143 rfl ?_
            refine AW_goto (tgt := 150) dX6_rivalOn_145 (by decide) ?_
            refine AW_istore (L' := [some (.ref 200), some (.int l1), some (.int l2), some (.int l3), some (.int l4), some (.int l5), some (.int l6), some (.int l9), some (.int l8), some (.int l9), some (.int r10), some (.int 1)]) dX6_rivalOn_150 (by decide) rfl ?_
            refine AW_iload dX6_rivalOn_152 rfl ?_
            refine AW_if_eq (tgt := 162) dX6_rivalOn_154 (by decide) (fun q => absurd q (by decide)) (fun _ => ?_)
            refine AW_iload dX6_rivalOn_157 rfl ?_
            refine AW_goto (tgt := 164) dX6_rivalOn_159 (by decide) ?_
            refine AW_istore (L' := [some (.ref 200), some (.int l1), some (.int l2), some (.int l3), some (.int l4), some (.int l5), some (.int l6), some (.int l9), some (.int r10), some (.int l9), some (.int r10), some (.int 1)]) dX6_rivalOn_164 (by decide) rfl ?_
            refine AW_iinc (x' := l9 + 1) (L' := [some (.ref 200), some (.int l1), some (.int l2), some (.int l3), some (.int l4), some (.int l5), some (.int l6), some (.int l9), some (.int r10), some (.int (l9 + 1)), some (.int r10), some (.int 1)]) dX6_rivalOn_166 rfl rfl (by decide) rfl ?_
            refine AW_goto (tgt := 51) dX6_rivalOn_169 (by decide) ?_
            refine AW_sub (L' := [some (.ref 200), some (.int l1), some (.int l2), some (.int l3), some (.int l4), some (.int l5), some (.int l6), some (.int l9), some (.int r10), some (.int (l9 + 1)), none, none]) (show xle _ _ from ⟨rfl, ⟨rfl, ⟨rfl, ⟨rfl, ⟨rfl, ⟨rfl, ⟨rfl, ⟨rfl, ⟨rfl, ⟨rfl, trivial⟩⟩⟩⟩⟩⟩⟩⟩⟩⟩) ?_
            exact H
set_option maxRecDepth 100000 in
set_option maxHeartbeats 4000000 in
theorem vc_X6_rivals {G : xG} {d : Nat} {z : xZ} {v : xS} {Q : Int32 → xS → Prop} (B : Base z) {xa : Int32} {xb : Int32} {xc : Int32} {xd : Int32} 
    (H : (oX6_isBand G d [(.ref 200), (.int xa)] z v (fun r2 v1 => ((r2 = 0 → Q (-1) v1) ∧ (¬ r2 = 0 → (oX6_isBand G d [(.ref 200), (.int xb)] z v1 (fun r4 v3 => ((r4 = 0 → Q (-1) v3) ∧ (¬ r4 = 0 → ((xa = xb → Q (-1) v3) ∧ (¬ xa = xb → (oX6_isSpot G d [(.ref 200), (.int xc)] z v3 (fun r6 v5 => ((r6 = 0 → Q (-1) v5) ∧ (¬ r6 = 0 → (oX6_in G d [(.int xd), (.int 0), (.int 6)] z v5 (fun r8 v7 => ((¬ r8 = 0 → (∀ v9 : xS, v9 = wV v7 200 37 0 → (oX6_rivalOn G d [(.ref 200), (.int xa), (.int xb), (.int xc), (.int 0), (.int xd)] z v9 (fun r11 v10 => (oX6_ask G d [(.ref 200), (.int (v10.1 200 37)), (.int r11)] z v10 (fun r13 v12 => Q r13 v12)))))) ∧ (r8 = 0 → Q (-1) v7))))))))))))))))))) :
    oX6_rivals G (d + 1) [(.ref 200), (.int xa), (.int xb), (.int xc), (.int xd)] z v Q := by
  refine Ok_of (own := RX6) (by decide) rfl (Nat.le_of_ble_eq_true rfl) ?_
  show AW G (d + 1) 0 0 yX6_rivals cX6_rivals 6 (some .int) RX6 0 0 0 [some (.ref 200), some (.int xa), some (.int xb), some (.int xc), some (.int xd), none] [] z v _
  refine AW_aload_n dX6_rivals_0 rfl rfl ?_
  refine AW_iload_n dX6_rivals_1 rfl rfl ?_
  refine AW_vI (as := [(.int xa)]) (st := []) dX6_rivals_2 (bI_200 B) (by decide) rfl mv_X6_isBand mi_X6_isBand ml_X6_179 (Nat.le_of_ble_eq_true rfl) rfl (Nat.le_refl 0) (Nat.le_refl 0) H (fun r2 v1 H => ?_)
  refine AW_if_eq (tgt := 40) dX6_rivals_5 (by decide) (fun c => ?_) (fun c => ?_)
  · replace H := H.1 c
    refine AW_iconst (x := (-1)) dX6_rivals_40 (by decide) ?_
    exact AW_rI dX6_rivals_41 rfl rfl H
  · replace H := H.2 c
    refine AW_aload_n dX6_rivals_8 rfl rfl ?_
    refine AW_iload_n dX6_rivals_9 rfl rfl ?_
    refine AW_vI (as := [(.int xb)]) (st := []) dX6_rivals_10 (bI_200 B) (by decide) rfl mv_X6_isBand mi_X6_isBand ml_X6_179 (Nat.le_of_ble_eq_true rfl) rfl (Nat.le_refl 0) (Nat.le_refl 0) H (fun r4 v3 H => ?_)
    refine AW_if_eq (tgt := 40) dX6_rivals_13 (by decide) (fun c => ?_) (fun c => ?_)
    · replace H := H.1 c
      refine AW_iconst (x := (-1)) dX6_rivals_40 (by decide) ?_
      exact AW_rI dX6_rivals_41 rfl rfl H
    · replace H := H.2 c
      refine AW_iload_n dX6_rivals_16 rfl rfl ?_
      refine AW_iload_n dX6_rivals_17 rfl rfl ?_
      refine AW_icmp_eq (tgt := 40) dX6_rivals_18 (by decide) (fun c => ?_) (fun c => ?_)
      · replace H := H.1 c
        refine AW_iconst (x := (-1)) dX6_rivals_40 (by decide) ?_
        exact AW_rI dX6_rivals_41 rfl rfl H
      · replace H := H.2 c
        refine AW_aload_n dX6_rivals_21 rfl rfl ?_
        refine AW_iload_n dX6_rivals_22 rfl rfl ?_
        refine AW_vI (as := [(.int xc)]) (st := []) dX6_rivals_23 (bI_200 B) (by decide) rfl mv_X6_isSpot mi_X6_isSpot ml_X6_163 (Nat.le_of_ble_eq_true rfl) rfl (Nat.le_refl 0) (Nat.le_refl 0) H (fun r6 v5 H => ?_)
        refine AW_if_eq (tgt := 40) dX6_rivals_26 (by decide) (fun c => ?_) (fun c => ?_)
        · replace H := H.1 c
          refine AW_iconst (x := (-1)) dX6_rivals_40 (by decide) ?_
          exact AW_rI dX6_rivals_41 rfl rfl H
        · replace H := H.2 c
          refine AW_iload dX6_rivals_29 rfl ?_
          refine AW_iconst (x := 0) dX6_rivals_31 (by decide) ?_
          refine AW_bipush (x := 6) dX6_rivals_32 (by decide) ?_
          refine AW_sI (as := [(.int xd), (.int 0), (.int 6)]) (st := []) dX6_rivals_34 mv_X6_in ms_X6_in ml_X6_92 (Nat.le_of_ble_eq_true rfl) rfl (Nat.le_refl 0) (Nat.le_refl 0) H (fun r8 v7 H => ?_)
          refine AW_if_ne (tgt := 42) dX6_rivals_37 (by decide) (fun c => ?_) (fun c => ?_)
          · replace H := H.1 c
            refine AW_aload_n dX6_rivals_42 rfl rfl ?_
            refine AW_iconst (x := 0) dX6_rivals_43 (by decide) ?_
            refine AW_putIN dX6_rivals_44 (bI_200 B) fl_X6_288 rfl rfl rfl (fun v9 hv9 => ?_)
            replace H := H v9 hv9
            refine AW_aload_n dX6_rivals_47 rfl rfl ?_
            refine AW_iload_n dX6_rivals_48 rfl rfl ?_
            refine AW_iload_n dX6_rivals_49 rfl rfl ?_
            refine AW_iload_n dX6_rivals_50 rfl rfl ?_
            refine AW_iconst (x := 0) dX6_rivals_51 (by decide) ?_
            refine AW_iload dX6_rivals_52 rfl ?_
            refine AW_vI (as := [(.int xa), (.int xb), (.int xc), (.int 0), (.int xd)]) (st := []) dX6_rivals_54 (bI_200 B) (by decide) rfl mv_X6_rivalOn mi_X6_rivalOn ml_X6_284 (Nat.le_of_ble_eq_true rfl) rfl (Nat.le_refl 0) (Nat.le_refl 0) H (fun r11 v10 H => ?_)
            refine AW_istore (L' := [some (.ref 200), some (.int xa), some (.int xb), some (.int xc), some (.int xd), some (.int r11)]) dX6_rivals_57 (by decide) rfl ?_
            refine AW_aload_n dX6_rivals_59 rfl rfl ?_
            refine AW_aload_n dX6_rivals_60 rfl rfl ?_
            refine AW_getI dX6_rivals_61 (bI_200 B) fl_X6_288 ?_
            refine AW_iload dX6_rivals_64 rfl ?_
            refine AW_vI (as := [(.int (v10.1 200 37)), (.int r11)]) (st := []) dX6_rivals_66 (bI_200 B) (by decide) rfl mv_X6_ask mi_X6_ask ml_X6_118 (Nat.le_of_ble_eq_true rfl) rfl (Nat.le_refl 0) (Nat.le_refl 0) H (fun r13 v12 H => ?_)
            exact AW_rI dX6_rivals_69 rfl rfl H
          · replace H := H.2 c
            refine AW_iconst (x := (-1)) dX6_rivals_40 (by decide) ?_
            exact AW_rI dX6_rivals_41 rfl rfl H
set_option maxRecDepth 100000 in
set_option maxHeartbeats 4000000 in
theorem vc_X6_isRowNow {G : xG} {d : Nat} {z : xZ} {v : xS} {Q : Int32 → xS → Prop} (B : Base z) {xa : Int32} 
    (H : aX6_isRowNow G (d + 1) 4 [some (.ref 200), some (.int xa), some (.int 1), some (.int 0)] [] z v Q) :
    oX6_isRowNow G (d + 1) [(.ref 200), (.int xa)] z v Q := by
  refine Ok_of (own := RX6) (by decide) rfl (Nat.le_of_ble_eq_true rfl) ?_
  show AW G (d + 1) 0 0 yX6_isRowNow cX6_isRowNow 4 (some .boolean) RX6 0 0 0 [some (.ref 200), some (.int xa), none, none] [] z v _
  refine AW_iconst (x := 1) dX6_isRowNow_0 (by decide) ?_
  refine AW_istore_n (L' := [some (.ref 200), some (.int xa), some (.int 1), none]) dX6_isRowNow_1 rfl (by decide) rfl ?_
  refine AW_iconst (x := 0) dX6_isRowNow_2 (by decide) ?_
  refine AW_istore_n (L' := [some (.ref 200), some (.int xa), some (.int 1), some (.int 0)]) dX6_isRowNow_3 rfl (by decide) rfl ?_
  exact H
set_option maxRecDepth 100000 in
set_option maxHeartbeats 4000000 in
theorem vc_X6_isRowNow_4 {G : xG} {d : Nat} {z : xZ} {v : xS} {Q : Int32 → xS → Prop} (B : Base z)  {l1 : Int32} {l2 : Int32} {l3 : Int32} 
    (H : (((v.1 200 8) ≤ l3 → (xbl l2 ∧ Q l2 v)) ∧ (¬ (v.1 200 8) ≤ l3 → ((l2 = 0 → aX6_isRowNow G (d + 1) 4 [some (.ref 200), some (.int l1), some (.int 0), some (.int (l3 + 1))] [] z v Q) ∧ (¬ l2 = 0 → (vp_in l3 10 ∧ (oX6_rowAt G d [(.ref 200), (.int l1), (.int l3)] z v (fun r3 v2 => ((¬ (v.1 210 l3.toNatClampNeg) = r3 → aX6_isRowNow G (d + 1) 4 [some (.ref 200), some (.int l1), some (.int 0), some (.int (l3 + 1))] [] z v2 Q) ∧ ((v.1 210 l3.toNatClampNeg) = r3 → aX6_isRowNow G (d + 1) 4 [some (.ref 200), some (.int l1), some (.int 1), some (.int (l3 + 1))] [] z v2 Q)))))))))) :
    aX6_isRowNow G (d + 1) 4 [some (.ref 200), some (.int l1), some (.int l2), some (.int l3)] [] z v Q := by
  refine AW_iload_n dX6_isRowNow_4 rfl rfl ?_
  refine AW_aload_n dX6_isRowNow_5 rfl rfl ?_
  refine AW_getI dX6_isRowNow_6 (bI_200 B) fl_X6_151 ?_
  refine AW_icmp_ge (tgt := 43) dX6_isRowNow_9 (by decide) (fun c => ?_) (fun c => ?_)
  · replace H := H.1 c
    refine AW_iload_n dX6_isRowNow_43 rfl rfl ?_
    exact AW_rI dX6_isRowNow_44 rfl H.1 H.2
  · replace H := H.2 c
    refine AW_iload_n dX6_isRowNow_12 rfl rfl ?_
    refine AW_if_eq (tgt := 35) dX6_isRowNow_13 (by decide) (fun c => ?_) (fun c => ?_)
    · replace H := H.1 c
      refine AW_iconst (x := 0) dX6_isRowNow_35 (by decide) ?_
      refine AW_istore_n (L' := [some (.ref 200), some (.int l1), some (.int 0), some (.int l3)]) dX6_isRowNow_36 rfl (by decide) rfl ?_
      refine AW_iinc (x' := l3 + 1) (L' := [some (.ref 200), some (.int l1), some (.int 0), some (.int (l3 + 1))]) dX6_isRowNow_37 rfl rfl (by decide) rfl ?_
      refine AW_goto (tgt := 4) dX6_isRowNow_40 (by decide) ?_
      exact H
    · replace H := H.2 c
      refine AW_aload_n dX6_isRowNow_16 rfl rfl ?_
      refine AW_getR dX6_isRowNow_17 (bI_200 B) fl_X6_28 (bR_200_10 B) ?_
      refine AW_iload_n dX6_isRowNow_20 rfl rfl ?_
      have hi1 := H.1
      replace H := H.2
      refine AW_iald dX6_isRowNow_21 (bI_210 B) hi1 ?_
      refine AW_aload_n dX6_isRowNow_22 rfl rfl ?_
      refine AW_iload_n dX6_isRowNow_23 rfl rfl ?_
      refine AW_iload_n dX6_isRowNow_24 rfl rfl ?_
      refine AW_vI (as := [(.int l1), (.int l3)]) (st := [(.int (v.1 210 l3.toNatClampNeg))]) dX6_isRowNow_25 (bI_200 B) (by decide) rfl mv_X6_rowAt mi_X6_rowAt ml_X6_114 (Nat.le_of_ble_eq_true rfl) rfl (Nat.le_refl 0) (Nat.le_refl 0) H (fun r3 v2 H => ?_)
      refine AW_icmp_ne (tgt := 35) dX6_isRowNow_28 (by decide) (fun c => ?_) (fun c => ?_)
      · replace H := H.1 c
        refine AW_iconst (x := 0) dX6_isRowNow_35 (by decide) ?_
        refine AW_istore_n (L' := [some (.ref 200), some (.int l1), some (.int 0), some (.int l3)]) dX6_isRowNow_36 rfl (by decide) rfl ?_
        refine AW_iinc (x' := l3 + 1) (L' := [some (.ref 200), some (.int l1), some (.int 0), some (.int (l3 + 1))]) dX6_isRowNow_37 rfl rfl (by decide) rfl ?_
        refine AW_goto (tgt := 4) dX6_isRowNow_40 (by decide) ?_
        exact H
      · replace H := H.2 c
        refine AW_iconst (x := 1) dX6_isRowNow_31 (by decide) ?_
        refine AW_goto (tgt := 36) dX6_isRowNow_32 (by decide) ?_
        refine AW_istore_n (L' := [some (.ref 200), some (.int l1), some (.int 1), some (.int l3)]) dX6_isRowNow_36 rfl (by decide) rfl ?_
        refine AW_iinc (x' := l3 + 1) (L' := [some (.ref 200), some (.int l1), some (.int 1), some (.int (l3 + 1))]) dX6_isRowNow_37 rfl rfl (by decide) rfl ?_
        refine AW_goto (tgt := 4) dX6_isRowNow_40 (by decide) ?_
        exact H
set_option maxRecDepth 100000 in
set_option maxHeartbeats 4000000 in
theorem vc_X6_askedHeights {G : xG} {d : Nat} {z : xZ} {v : xS} {Q : Int32 → xS → Prop} (B : Base z) {xa : Int32} 
    (H : (oX6_askedRow G d [(.ref 200), (.int xa)] z v (fun r2 v1 => ((0 ≤ r2 → (vp_in xa 6 ∧ (((v1.1 203 xa.toNatClampNeg) = (v1.1 200 8) → Q 0 v1) ∧ (¬ (v1.1 203 xa.toNatClampNeg) = (v1.1 200 8) → (oX6_meet G d [(.ref 200), (.int 5)] z v1 (fun r5 v4 => Q r5 v4)))))) ∧ (¬ 0 ≤ r2 → Q r2 v1))))) :
    oX6_askedHeights G (d + 1) [(.ref 200), (.int xa)] z v Q := by
  refine Ok_of (own := RX6) (by decide) rfl (Nat.le_of_ble_eq_true rfl) ?_
  show AW G (d + 1) 0 0 yX6_askedHeights cX6_askedHeights 3 (some .int) RX6 0 0 0 [some (.ref 200), some (.int xa), none] [] z v _
  refine AW_aload_n dX6_askedHeights_0 rfl rfl ?_
  refine AW_iload_n dX6_askedHeights_1 rfl rfl ?_
  refine AW_vI (as := [(.int xa)]) (st := []) dX6_askedHeights_2 (bI_200 B) (by decide) rfl mv_X6_askedRow mi_X6_askedRow ml_X6_111 (Nat.le_of_ble_eq_true rfl) rfl (Nat.le_refl 0) (Nat.le_refl 0) H (fun r2 v1 H => ?_)
  refine AW_istore_n (L' := [some (.ref 200), some (.int xa), some (.int r2)]) dX6_askedHeights_5 rfl (by decide) rfl ?_
  refine AW_iload_n dX6_askedHeights_6 rfl rfl ?_
  refine AW_if_ge (tgt := 12) dX6_askedHeights_7 (by decide) (fun c => ?_) (fun c => ?_)
  · replace H := H.1 c
    refine AW_aload_n dX6_askedHeights_12 rfl rfl ?_
    refine AW_getR dX6_askedHeights_13 (bI_200 B) fl_X6_13 (bR_200_3 B) ?_
    refine AW_iload_n dX6_askedHeights_16 rfl rfl ?_
    have hi3 := H.1
    replace H := H.2
    refine AW_iald dX6_askedHeights_17 (bI_203 B) hi3 ?_
    refine AW_aload_n dX6_askedHeights_18 rfl rfl ?_
    refine AW_getI dX6_askedHeights_19 (bI_200 B) fl_X6_151 ?_
    refine AW_icmp_eq (tgt := 33) dX6_askedHeights_22 (by decide) (fun c => ?_) (fun c => ?_)
    · replace H := H.1 c
      refine AW_iconst (x := 0) dX6_askedHeights_33 (by decide) ?_
      exact AW_rI dX6_askedHeights_34 rfl rfl H
    · replace H := H.2 c
      refine AW_aload_n dX6_askedHeights_25 rfl rfl ?_
      refine AW_iconst (x := 5) dX6_askedHeights_26 (by decide) ?_
      refine AW_vI (as := [(.int 5)]) (st := []) dX6_askedHeights_27 (bI_200 B) (by decide) rfl mv_X6_meet mi_X6_meet ml_X6_100 (Nat.le_of_ble_eq_true rfl) rfl (Nat.le_refl 0) (Nat.le_refl 0) H (fun r5 v4 H => ?_)
      refine AW_goto (tgt := 34) dX6_askedHeights_30 (by decide) ?_
      exact AW_rI dX6_askedHeights_34 rfl rfl H
  · replace H := H.2 c
    refine AW_iload_n dX6_askedHeights_10 rfl rfl ?_
    exact AW_rI dX6_askedHeights_11 rfl rfl H
set_option maxRecDepth 100000 in
set_option maxHeartbeats 4000000 in
theorem vc_X6_setPlayed {G : xG} {d : Nat} {z : xZ} {v : xS} {Q : xS → Prop} (B : Base z) {xa : Int32} 
    (H : (∀ v1 : xS, v1 = wV v 200 38 0 → (∀ v2 : xS, v2 = wV v1 200 39 (-9) → aX6_setPlayed G (d + 1) 13 [some (.ref 200), some (.int xa), some (.int 0), none, none] [] z v2 Q))) :
    oX6_setPlayed G (d + 1) [(.ref 200), (.int xa)] z v Q := by
  refine Ok_of (own := RX6) (by decide) rfl (Nat.le_of_ble_eq_true rfl) ?_
  show AW G (d + 1) 0 0 yX6_setPlayed cX6_setPlayed 5 none RX6 0 0 0 [some (.ref 200), some (.int xa), none, none, none] [] z v _
  refine AW_aload_n dX6_setPlayed_0 rfl rfl ?_
  refine AW_iconst (x := 0) dX6_setPlayed_1 (by decide) ?_
  refine AW_putIN dX6_setPlayed_2 (bI_200 B) fl_X6_291 rfl rfl rfl (fun v1 hv1 => ?_)
  replace H := H v1 hv1
  refine AW_aload_n dX6_setPlayed_5 rfl rfl ?_
  refine AW_bipush (x := (-9)) dX6_setPlayed_6 (by decide) ?_
  refine AW_putIN dX6_setPlayed_8 (bI_200 B) fl_X6_294 rfl rfl rfl (fun v2 hv2 => ?_)
  replace H := H v2 hv2
  refine AW_iconst (x := 0) dX6_setPlayed_11 (by decide) ?_
  refine AW_istore_n (L' := [some (.ref 200), some (.int xa), some (.int 0), none, none]) dX6_setPlayed_12 rfl (by decide) rfl ?_
  exact H
set_option maxRecDepth 100000 in
set_option maxHeartbeats 4000000 in
theorem vc_X6_setPlayed_13 {G : xG} {d : Nat} {z : xZ} {v : xS} {Q : xS → Prop} (B : Base z)  {l1 : Int32} {l2 : Int32} 
    (H : ((3 ≤ l2 → (oX6_putAhead G d [(.ref 200)] z v (fun v1 => aX6_setPlayed G (d + 1) 37 [some (.ref 200), some (.int l1), some (.int 0), none, none] [] z v1 Q))) ∧ (¬ 3 ≤ l2 → (vp_in l2 3 ∧ (∀ v3 : xS, v3 = wV v 240 l2.toNatClampNeg 0 → aX6_setPlayed G (d + 1) 13 [some (.ref 200), some (.int l1), some (.int (l2 + 1)), none, none] [] z v3 Q))))) :
    aX6_setPlayed G (d + 1) 13 [some (.ref 200), some (.int l1), some (.int l2), none, none] [] z v Q := by
  refine AW_iload_n dX6_setPlayed_13 rfl rfl ?_
  refine AW_iconst (x := 3) dX6_setPlayed_14 (by decide) ?_
  refine AW_icmp_ge (tgt := 31) dX6_setPlayed_15 (by decide) (fun c => ?_) (fun c => ?_)
  · replace H := H.1 c
    refine AW_aload_n dX6_setPlayed_31 rfl rfl ?_
    refine AW_vV (as := []) (st := []) dX6_setPlayed_32 (bI_200 B) (by decide) rfl mv_X6_putAhead mi_X6_putAhead ml_X6_239 (Nat.le_of_ble_eq_true rfl) rfl (Nat.le_refl 0) (Nat.le_refl 0) H (fun v1 H => ?_)
    refine AW_iconst (x := 0) dX6_setPlayed_35 (by decide) ?_
    refine AW_istore_n (L' := [some (.ref 200), some (.int l1), some (.int 0), none, none]) dX6_setPlayed_36 rfl (by decide) rfl ?_
    exact H
  · replace H := H.2 c
    refine AW_aload_n dX6_setPlayed_18 rfl rfl ?_
    refine AW_getR dX6_setPlayed_19 (bI_200 B) fl_X6_82 (bR_200_40 B) ?_
    refine AW_iload_n dX6_setPlayed_22 rfl rfl ?_
    refine AW_iconst (x := 0) dX6_setPlayed_23 (by decide) ?_
    have hi2 := H.1
    replace H := H.2
    refine AW_iastN dX6_setPlayed_24 (bI_240 B) hi2 (fun v3 hv3 => ?_)
    replace H := H v3 hv3
    refine AW_iinc (x' := l2 + 1) (L' := [some (.ref 200), some (.int l1), some (.int (l2 + 1)), none, none]) dX6_setPlayed_25 rfl rfl (by decide) rfl ?_
    refine AW_goto (tgt := 13) dX6_setPlayed_28 (by decide) ?_
    exact H
set_option maxRecDepth 100000 in
set_option maxHeartbeats 4000000 in
theorem vc_X6_setPlayed_37 {G : xG} {d : Nat} {z : xZ} {v : xS} {Q : xS → Prop} (B : Base z)  {l1 : Int32} {l2 : Int32} 
    (H : (oX6_programs G d [(.ref 200)] z v (fun r2 v1 => ((r2 ≤ l2 → Q v1) ∧ (¬ r2 ≤ l2 → (oX6_passEvening G d [(.ref 200), (.int l2)] z v1 (fun r4 v3 => (oX6_isRowNow G d [(.ref 200), (.int l1)] z v3 (fun r6 v5 => (oX6_comeBack G d [(.ref 200)] z v5 (fun v7 => ((r6 = 0 → (∀ v8 : xS, v8 = wV v7 200 39 (v7.1 200 39) → ((r6 = 0 → (∀ v9 : xS, v9 = wV v8 200 38 ((v8.1 200 38) + 0) → aX6_setPlayed G (d + 1) 105 [some (.ref 200), some (.int l1), some (.int l2), some (.int r6), some (.int 0)] [] z v9 Q)) ∧ (¬ r6 = 0 → (∀ v10 : xS, v10 = wV v8 200 38 ((v8.1 200 38) + 1) → aX6_setPlayed G (d + 1) 105 [some (.ref 200), some (.int l1), some (.int l2), some (.int r6), some (.int 0)] [] z v10 Q))))) ∧ (¬ r6 = 0 → ((¬ (v7.1 200 38) = 0 → (∀ v11 : xS, v11 = wV v7 200 39 (v7.1 200 39) → ((r6 = 0 → (∀ v12 : xS, v12 = wV v11 200 38 ((v11.1 200 38) + 0) → aX6_setPlayed G (d + 1) 105 [some (.ref 200), some (.int l1), some (.int l2), some (.int r6), some (.int 0)] [] z v12 Q)) ∧ (¬ r6 = 0 → (∀ v13 : xS, v13 = wV v11 200 38 ((v11.1 200 38) + 1) → aX6_setPlayed G (d + 1) 105 [some (.ref 200), some (.int l1), some (.int l2), some (.int r6), some (.int 0)] [] z v13 Q))))) ∧ ((v7.1 200 38) = 0 → (∀ v14 : xS, v14 = wV v7 200 39 l2 → ((r6 = 0 → (∀ v15 : xS, v15 = wV v14 200 38 ((v14.1 200 38) + 0) → aX6_setPlayed G (d + 1) 105 [some (.ref 200), some (.int l1), some (.int l2), some (.int r6), some (.int 0)] [] z v15 Q)) ∧ (¬ r6 = 0 → (∀ v16 : xS, v16 = wV v14 200 38 ((v14.1 200 38) + 1) → aX6_setPlayed G (d + 1) 105 [some (.ref 200), some (.int l1), some (.int l2), some (.int r6), some (.int 0)] [] z v16 Q))))))))))))))))))) :
    aX6_setPlayed G (d + 1) 37 [some (.ref 200), some (.int l1), some (.int l2), none, none] [] z v Q := by
  refine AW_iload_n dX6_setPlayed_37 rfl rfl ?_
  refine AW_aload_n dX6_setPlayed_38 rfl rfl ?_
  refine AW_vI (as := []) (st := [(.int l2)]) dX6_setPlayed_39 (bI_200 B) (by decide) rfl mv_X6_programs mi_X6_programs ml_X6_217 (Nat.le_of_ble_eq_true rfl) rfl (Nat.le_refl 0) (Nat.le_refl 0) H (fun r2 v1 H => ?_)
  refine AW_icmp_ge (tgt := 152) dX6_setPlayed_42 (by decide) (fun c => ?_) (fun c => ?_)
  · replace H := H.1 c
    exact AW_rV dX6_setPlayed_152 rfl H
  · replace H := H.2 c
    refine AW_aload_n dX6_setPlayed_45 rfl rfl ?_
    refine AW_iload_n dX6_setPlayed_46 rfl rfl ?_
    refine AW_vI (as := [(.int l2)]) (st := []) dX6_setPlayed_47 (bI_200 B) (by decide) rfl mv_X6_passEvening mi_X6_passEvening ml_X6_221 (Nat.le_of_ble_eq_true rfl) rfl (Nat.le_refl 0) (Nat.le_refl 0) H (fun r4 v3 H => ?_)
    refine AW_pop dX6_setPlayed_50 rfl ?_
    refine AW_aload_n dX6_setPlayed_51 rfl rfl ?_
    refine AW_iload_n dX6_setPlayed_52 rfl rfl ?_
    refine AW_vI (as := [(.int l1)]) (st := []) dX6_setPlayed_53 (bI_200 B) (by decide) rfl mv_X6_isRowNow mi_X6_isRowNow ml_X6_297 (Nat.le_of_ble_eq_true rfl) rfl (Nat.le_refl 0) (Nat.le_refl 0) H (fun r6 v5 H => ?_)
    refine AW_istore_n (L' := [some (.ref 200), some (.int l1), some (.int l2), some (.int r6), none]) dX6_setPlayed_56 rfl (by decide) rfl ?_
    refine AW_aload_n dX6_setPlayed_57 rfl rfl ?_
    refine AW_vV (as := []) (st := []) dX6_setPlayed_58 (bI_200 B) (by decide) rfl mv_X6_comeBack mi_X6_comeBack ml_X6_242 (Nat.le_of_ble_eq_true rfl) rfl (Nat.le_refl 0) (Nat.le_refl 0) H (fun v7 H => ?_)
    refine AW_aload_n dX6_setPlayed_61 rfl rfl ?_
    refine AW_iload_n dX6_setPlayed_62 rfl rfl ?_
    refine AW_if_eq (tgt := 77) dX6_setPlayed_63 (by decide) (fun c => ?_) (fun c => ?_)
    · replace H := H.1 c
      refine AW_aload_n dX6_setPlayed_77 rfl rfl ?_
      refine AW_getI dX6_setPlayed_78 (bI_200 B) fl_X6_294 ?_
      refine AW_putIN dX6_setPlayed_81 (bI_200 B) fl_X6_294 rfl rfl rfl (fun v8 hv8 => ?_)
      replace H := H v8 hv8
      refine AW_aload_n dX6_setPlayed_84 rfl rfl ?_
      refine AW_dup dX6_setPlayed_85 rfl ?_
      refine AW_getI dX6_setPlayed_86 (bI_200 B) fl_X6_291 ?_
      refine AW_iload_n dX6_setPlayed_89 rfl rfl ?_
      refine AW_if_eq (tgt := 97) dX6_setPlayed_90 (by decide) (fun c => ?_) (fun c => ?_)
      · replace H := H.1 c
        refine AW_iconst (x := 0) dX6_setPlayed_97 (by decide) ?_
        refine AW_iadd dX6_setPlayed_98 ?_
        refine AW_putIN dX6_setPlayed_99 (bI_200 B) fl_X6_291 rfl rfl rfl (fun v9 hv9 => ?_)
        replace H := H v9 hv9
        refine AW_iconst (x := 0) dX6_setPlayed_102 (by decide) ?_
        refine AW_istore (L' := [some (.ref 200), some (.int l1), some (.int l2), some (.int r6), some (.int 0)]) dX6_setPlayed_103 (by decide) rfl ?_
        exact H
      · replace H := H.2 c
        refine AW_iconst (x := 1) dX6_setPlayed_93 (by decide) ?_
        refine AW_goto (tgt := 98) dX6_setPlayed_94 (by decide) ?_
        refine AW_iadd dX6_setPlayed_98 ?_
        refine AW_putIN dX6_setPlayed_99 (bI_200 B) fl_X6_291 rfl rfl rfl (fun v10 hv10 => ?_)
        replace H := H v10 hv10
        refine AW_iconst (x := 0) dX6_setPlayed_102 (by decide) ?_
        refine AW_istore (L' := [some (.ref 200), some (.int l1), some (.int l2), some (.int r6), some (.int 0)]) dX6_setPlayed_103 (by decide) rfl ?_
        exact H
    · replace H := H.2 c
      refine AW_aload_n dX6_setPlayed_66 rfl rfl ?_
      refine AW_getI dX6_setPlayed_67 (bI_200 B) fl_X6_291 ?_
      refine AW_if_ne (tgt := 77) dX6_setPlayed_70 (by decide) (fun c => ?_) (fun c => ?_)
      · replace H := H.1 c
        refine AW_aload_n dX6_setPlayed_77 rfl rfl ?_
        refine AW_getI dX6_setPlayed_78 (bI_200 B) fl_X6_294 ?_
        refine AW_putIN dX6_setPlayed_81 (bI_200 B) fl_X6_294 rfl rfl rfl (fun v11 hv11 => ?_)
        replace H := H v11 hv11
        refine AW_aload_n dX6_setPlayed_84 rfl rfl ?_
        refine AW_dup dX6_setPlayed_85 rfl ?_
        refine AW_getI dX6_setPlayed_86 (bI_200 B) fl_X6_291 ?_
        refine AW_iload_n dX6_setPlayed_89 rfl rfl ?_
        refine AW_if_eq (tgt := 97) dX6_setPlayed_90 (by decide) (fun c => ?_) (fun c => ?_)
        · replace H := H.1 c
          refine AW_iconst (x := 0) dX6_setPlayed_97 (by decide) ?_
          refine AW_iadd dX6_setPlayed_98 ?_
          refine AW_putIN dX6_setPlayed_99 (bI_200 B) fl_X6_291 rfl rfl rfl (fun v12 hv12 => ?_)
          replace H := H v12 hv12
          refine AW_iconst (x := 0) dX6_setPlayed_102 (by decide) ?_
          refine AW_istore (L' := [some (.ref 200), some (.int l1), some (.int l2), some (.int r6), some (.int 0)]) dX6_setPlayed_103 (by decide) rfl ?_
          exact H
        · replace H := H.2 c
          refine AW_iconst (x := 1) dX6_setPlayed_93 (by decide) ?_
          refine AW_goto (tgt := 98) dX6_setPlayed_94 (by decide) ?_
          refine AW_iadd dX6_setPlayed_98 ?_
          refine AW_putIN dX6_setPlayed_99 (bI_200 B) fl_X6_291 rfl rfl rfl (fun v13 hv13 => ?_)
          replace H := H v13 hv13
          refine AW_iconst (x := 0) dX6_setPlayed_102 (by decide) ?_
          refine AW_istore (L' := [some (.ref 200), some (.int l1), some (.int l2), some (.int r6), some (.int 0)]) dX6_setPlayed_103 (by decide) rfl ?_
          exact H
      · replace H := H.2 c
        refine AW_iload_n dX6_setPlayed_73 rfl rfl ?_
        refine AW_goto (tgt := 81) dX6_setPlayed_74 (by decide) ?_
        refine AW_putIN dX6_setPlayed_81 (bI_200 B) fl_X6_294 rfl rfl rfl (fun v14 hv14 => ?_)
        replace H := H v14 hv14
        refine AW_aload_n dX6_setPlayed_84 rfl rfl ?_
        refine AW_dup dX6_setPlayed_85 rfl ?_
        refine AW_getI dX6_setPlayed_86 (bI_200 B) fl_X6_291 ?_
        refine AW_iload_n dX6_setPlayed_89 rfl rfl ?_
        refine AW_if_eq (tgt := 97) dX6_setPlayed_90 (by decide) (fun c => ?_) (fun c => ?_)
        · replace H := H.1 c
          refine AW_iconst (x := 0) dX6_setPlayed_97 (by decide) ?_
          refine AW_iadd dX6_setPlayed_98 ?_
          refine AW_putIN dX6_setPlayed_99 (bI_200 B) fl_X6_291 rfl rfl rfl (fun v15 hv15 => ?_)
          replace H := H v15 hv15
          refine AW_iconst (x := 0) dX6_setPlayed_102 (by decide) ?_
          refine AW_istore (L' := [some (.ref 200), some (.int l1), some (.int l2), some (.int r6), some (.int 0)]) dX6_setPlayed_103 (by decide) rfl ?_
          exact H
        · replace H := H.2 c
          refine AW_iconst (x := 1) dX6_setPlayed_93 (by decide) ?_
          refine AW_goto (tgt := 98) dX6_setPlayed_94 (by decide) ?_
          refine AW_iadd dX6_setPlayed_98 ?_
          refine AW_putIN dX6_setPlayed_99 (bI_200 B) fl_X6_291 rfl rfl rfl (fun v16 hv16 => ?_)
          replace H := H v16 hv16
          refine AW_iconst (x := 0) dX6_setPlayed_102 (by decide) ?_
          refine AW_istore (L' := [some (.ref 200), some (.int l1), some (.int l2), some (.int r6), some (.int 0)]) dX6_setPlayed_103 (by decide) rfl ?_
          exact H
set_option maxRecDepth 100000 in
set_option maxHeartbeats 4000000 in
theorem vc_X6_setPlayed_105 {G : xG} {d : Nat} {z : xZ} {v : xS} {Q : xS → Prop} (B : Base z)  {l1 : Int32} {l2 : Int32} {l3 : Int32} {l4 : Int32} 
    (H : (((v.1 200 9) ≤ l4 → aX6_setPlayed G (d + 1) 37 [some (.ref 200), some (.int l1), some (.int (l2 + 1)), none, none] [] z v Q) ∧ (¬ (v.1 200 9) ≤ l4 → (vp_in l4 3 ∧ ((l3 = 0 → (vp_in l4 3 ∧ (∀ v3 : xS, v3 = wV v 240 l4.toNatClampNeg ((v.1 240 l4.toNatClampNeg) ||| 0) → aX6_setPlayed G (d + 1) 105 [some (.ref 200), some (.int l1), some (.int l2), some (.int l3), some (.int (l4 + 1))] [] z v3 Q))) ∧ (¬ l3 = 0 → (oX6_tuneOf G d [(.int l2), (.int l4)] z v (fun r5 v4 => (vp_in l4 3 ∧ (∀ v7 : xS, v7 = wV v4 240 l4.toNatClampNeg ((v.1 240 l4.toNatClampNeg) ||| (1 <<< (r5 &&& 31))) → aX6_setPlayed G (d + 1) 105 [some (.ref 200), some (.int l1), some (.int l2), some (.int l3), some (.int (l4 + 1))] [] z v7 Q)))))))))) :
    aX6_setPlayed G (d + 1) 105 [some (.ref 200), some (.int l1), some (.int l2), some (.int l3), some (.int l4)] [] z v Q := by
  refine AW_iload dX6_setPlayed_105 rfl ?_
  refine AW_aload_n dX6_setPlayed_107 rfl rfl ?_
  refine AW_getI dX6_setPlayed_108 (bI_200 B) fl_X6_154 ?_
  refine AW_icmp_ge (tgt := 146) dX6_setPlayed_111 (by decide) (fun c => ?_) (fun c => ?_)
  · replace H := H.1 c
    refine AW_iinc (x' := l2 + 1) (L' := [some (.ref 200), some (.int l1), some (.int (l2 + 1)), some (.int l3), some (.int l4)]) dX6_setPlayed_146 rfl rfl (by decide) rfl ?_
    refine AW_goto (tgt := 37) dX6_setPlayed_149 (by decide) ?_
    refine AW_sub (L' := [some (.ref 200), some (.int l1), some (.int (l2 + 1)), none, none]) (show xle _ _ from ⟨rfl, ⟨rfl, ⟨rfl, trivial⟩⟩⟩) ?_
    exact H
  · replace H := H.2 c
    refine AW_aload_n dX6_setPlayed_114 rfl rfl ?_
    refine AW_getR dX6_setPlayed_115 (bI_200 B) fl_X6_82 (bR_200_40 B) ?_
    refine AW_iload dX6_setPlayed_118 rfl ?_
    refine AW_dup2 dX6_setPlayed_120 rfl rfl ?_
    have hi1 := H.1
    replace H := H.2
    refine AW_iald dX6_setPlayed_121 (bI_240 B) hi1 ?_
    refine AW_iload_n dX6_setPlayed_122 rfl rfl ?_
    refine AW_if_eq (tgt := 137) dX6_setPlayed_123 (by decide) (fun c => ?_) (fun c => ?_)
    · replace H := H.1 c
      refine AW_iconst (x := 0) dX6_setPlayed_137 (by decide) ?_
      refine AW_ior dX6_setPlayed_138 ?_
      have hi2 := H.1
      replace H := H.2
      refine AW_iastN dX6_setPlayed_139 (bI_240 B) hi2 (fun v3 hv3 => ?_)
      replace H := H v3 hv3
      refine AW_iinc (x' := l4 + 1) (L' := [some (.ref 200), some (.int l1), some (.int l2), some (.int l3), some (.int (l4 + 1))]) dX6_setPlayed_140 rfl rfl (by decide) rfl ?_
      refine AW_goto (tgt := 105) dX6_setPlayed_143 (by decide) ?_
      exact H
    · replace H := H.2 c
      refine AW_iconst (x := 1) dX6_setPlayed_126 (by decide) ?_
      refine AW_iload_n dX6_setPlayed_127 rfl rfl ?_
      refine AW_iload dX6_setPlayed_128 rfl ?_
      refine AW_sI (as := [(.int l2), (.int l4)]) (st := [(.int 1), (.int (v.1 240 l4.toNatClampNeg)), (.int l4), (.ref 240)]) dX6_setPlayed_130 mv_X6_tuneOf ms_X6_tuneOf ml_X6_198 (Nat.le_of_ble_eq_true rfl) rfl (Nat.le_refl 0) (Nat.le_refl 0) H (fun r5 v4 H => ?_)
      refine AW_ishl dX6_setPlayed_133 ?_
      refine AW_goto (tgt := 138) dX6_setPlayed_134 (by decide) ?_
      refine AW_ior dX6_setPlayed_138 ?_
      have hi6 := H.1
      replace H := H.2
      refine AW_iastN dX6_setPlayed_139 (bI_240 B) hi6 (fun v7 hv7 => ?_)
      replace H := H v7 hv7
      refine AW_iinc (x' := l4 + 1) (L' := [some (.ref 200), some (.int l1), some (.int l2), some (.int l3), some (.int (l4 + 1))]) dX6_setPlayed_140 rfl rfl (by decide) rfl ?_
      refine AW_goto (tgt := 105) dX6_setPlayed_143 (by decide) ?_
      exact H
set_option maxRecDepth 100000 in
set_option maxHeartbeats 4000000 in
theorem vc_X6_askedPlayed {G : xG} {d : Nat} {z : xZ} {v : xS} {Q : Int32 → xS → Prop} (B : Base z) {xa : Int32} 
    (H : (oX6_isRow G d [(.int xa)] z v (fun r2 v1 => ((¬ r2 = 0 → ((¬ (v1.1 200 8) = 0 → (oX6_askedHeights G d [(.ref 200), (.int xa)] z v1 (fun r4 v3 => Q r4 v3))) ∧ ((v1.1 200 8) = 0 → Q (-4) v1))) ∧ (r2 = 0 → Q (-1) v1))))) :
    oX6_askedPlayed G (d + 1) [(.ref 200), (.int xa)] z v Q := by
  refine Ok_of (own := RX6) (by decide) rfl (Nat.le_of_ble_eq_true rfl) ?_
  show AW G (d + 1) 0 0 yX6_askedPlayed cX6_askedPlayed 2 (some .int) RX6 0 0 0 [some (.ref 200), some (.int xa)] [] z v _
  refine AW_iload_n dX6_askedPlayed_0 rfl rfl ?_
  refine AW_sI (as := [(.int xa)]) (st := []) dX6_askedPlayed_1 mv_X6_isRow ms_X6_isRow ml_X6_96 (Nat.le_of_ble_eq_true rfl) rfl (Nat.le_refl 0) (Nat.le_refl 0) H (fun r2 v1 H => ?_)
  refine AW_if_ne (tgt := 11) dX6_askedPlayed_4 (by decide) (fun c => ?_) (fun c => ?_)
  · replace H := H.1 c
    refine AW_aload_n dX6_askedPlayed_11 rfl rfl ?_
    refine AW_getI dX6_askedPlayed_12 (bI_200 B) fl_X6_151 ?_
    refine AW_if_ne (tgt := 23) dX6_askedPlayed_15 (by decide) (fun c => ?_) (fun c => ?_)
    · replace H := H.1 c
      refine AW_aload_n dX6_askedPlayed_23 rfl rfl ?_
      refine AW_iload_n dX6_askedPlayed_24 rfl rfl ?_
      refine AW_vI (as := [(.int xa)]) (st := []) dX6_askedPlayed_25 (bI_200 B) (by decide) rfl mv_X6_askedHeights mi_X6_askedHeights ml_X6_300 (Nat.le_of_ble_eq_true rfl) rfl (Nat.le_refl 0) (Nat.le_refl 0) H (fun r4 v3 H => ?_)
      exact AW_rI dX6_askedPlayed_28 rfl rfl H
    · replace H := H.2 c
      refine AW_bipush (x := (-4)) dX6_askedPlayed_18 (by decide) ?_
      refine AW_goto (tgt := 28) dX6_askedPlayed_20 (by decide) ?_
      exact AW_rI dX6_askedPlayed_28 rfl rfl H
  · replace H := H.2 c
    refine AW_iconst (x := (-1)) dX6_askedPlayed_7 (by decide) ?_
    refine AW_goto (tgt := 28) dX6_askedPlayed_8 (by decide) ?_
    exact AW_rI dX6_askedPlayed_28 rfl rfl H
set_option maxRecDepth 100000 in
set_option maxHeartbeats 4000000 in
theorem vc_X6_played {G : xG} {d : Nat} {z : xZ} {v : xS} {Q : Int32 → xS → Prop} (B : Base z) {xa : Int32} 
    (H : (oX6_askedPlayed G d [(.ref 200), (.int xa)] z v (fun r2 v1 => ((0 ≤ r2 → (oX6_setPlayed G d [(.ref 200), (.int xa)] z v1 (fun v3 => (oX6_ask G d [(.ref 200), (.int (v3.1 200 39)), (.int (v3.1 200 38))] z v3 (fun r5 v4 => Q r5 v4))))) ∧ (¬ 0 ≤ r2 → Q r2 v1))))) :
    oX6_played G (d + 1) [(.ref 200), (.int xa)] z v Q := by
  refine Ok_of (own := RX6) (by decide) rfl (Nat.le_of_ble_eq_true rfl) ?_
  show AW G (d + 1) 0 0 yX6_played cX6_played 3 (some .int) RX6 0 0 0 [some (.ref 200), some (.int xa), none] [] z v _
  refine AW_aload_n dX6_played_0 rfl rfl ?_
  refine AW_iload_n dX6_played_1 rfl rfl ?_
  refine AW_vI (as := [(.int xa)]) (st := []) dX6_played_2 (bI_200 B) (by decide) rfl mv_X6_askedPlayed mi_X6_askedPlayed ml_X6_303 (Nat.le_of_ble_eq_true rfl) rfl (Nat.le_refl 0) (Nat.le_refl 0) H (fun r2 v1 H => ?_)
  refine AW_istore_n (L' := [some (.ref 200), some (.int xa), some (.int r2)]) dX6_played_5 rfl (by decide) rfl ?_
  refine AW_iload_n dX6_played_6 rfl rfl ?_
  refine AW_if_ge (tgt := 12) dX6_played_7 (by decide) (fun c => ?_) (fun c => ?_)
  · replace H := H.1 c
    refine AW_aload_n dX6_played_12 rfl rfl ?_
    refine AW_iload_n dX6_played_13 rfl rfl ?_
    refine AW_vV (as := [(.int xa)]) (st := []) dX6_played_14 (bI_200 B) (by decide) rfl mv_X6_setPlayed mi_X6_setPlayed ml_X6_306 (Nat.le_of_ble_eq_true rfl) rfl (Nat.le_refl 0) (Nat.le_refl 0) H (fun v3 H => ?_)
    refine AW_aload_n dX6_played_17 rfl rfl ?_
    refine AW_aload_n dX6_played_18 rfl rfl ?_
    refine AW_getI dX6_played_19 (bI_200 B) fl_X6_294 ?_
    refine AW_aload_n dX6_played_22 rfl rfl ?_
    refine AW_getI dX6_played_23 (bI_200 B) fl_X6_291 ?_
    refine AW_vI (as := [(.int (v3.1 200 39)), (.int (v3.1 200 38))]) (st := []) dX6_played_26 (bI_200 B) (by decide) rfl mv_X6_ask mi_X6_ask ml_X6_118 (Nat.le_of_ble_eq_true rfl) rfl (Nat.le_refl 0) (Nat.le_refl 0) H (fun r5 v4 H => ?_)
    exact AW_rI dX6_played_29 rfl rfl H
  · replace H := H.2 c
    refine AW_iload_n dX6_played_10 rfl rfl ?_
    exact AW_rI dX6_played_11 rfl rfl H
set_option maxRecDepth 100000 in
set_option maxHeartbeats 4000000 in
theorem vc_X6_could {G : xG} {d : Nat} {z : xZ} {v : xS} {Q : Int32 → xS → Prop} (B : Base z) {xa : Int32} {xb : Int32} 
    (H : (oX6_isBand G d [(.ref 200), (.int xa)] z v (fun r2 v1 => ((r2 = 0 → Q (-1) v1) ∧ (¬ r2 = 0 → (oX6_isRow G d [(.int xb)] z v1 (fun r4 v3 => ((¬ r4 = 0 → (oX6_askedHeights G d [(.ref 200), (.int xb)] z v3 (fun r6 v5 => ((0 ≤ r6 → (oX6_setPlayed G d [(.ref 200), (.int xb)] z v5 (fun v7 => (vp_in xa 3 ∧ Q (v7.1 240 xa.toNatClampNeg) v7)))) ∧ (¬ 0 ≤ r6 → Q r6 v5))))) ∧ (r4 = 0 → Q (-1) v3))))))))) :
    oX6_could G (d + 1) [(.ref 200), (.int xa), (.int xb)] z v Q := by
  refine Ok_of (own := RX6) (by decide) rfl (Nat.le_of_ble_eq_true rfl) ?_
  show AW G (d + 1) 0 0 yX6_could cX6_could 4 (some .int) RX6 0 0 0 [some (.ref 200), some (.int xa), some (.int xb), none] [] z v _
  refine AW_aload_n dX6_could_0 rfl rfl ?_
  refine AW_iload_n dX6_could_1 rfl rfl ?_
  refine AW_vI (as := [(.int xa)]) (st := []) dX6_could_2 (bI_200 B) (by decide) rfl mv_X6_isBand mi_X6_isBand ml_X6_179 (Nat.le_of_ble_eq_true rfl) rfl (Nat.le_refl 0) (Nat.le_refl 0) H (fun r2 v1 H => ?_)
  refine AW_if_eq (tgt := 15) dX6_could_5 (by decide) (fun c => ?_) (fun c => ?_)
  · replace H := H.1 c
    refine AW_iconst (x := (-1)) dX6_could_15 (by decide) ?_
    exact AW_rI dX6_could_16 rfl rfl H
  · replace H := H.2 c
    refine AW_iload_n dX6_could_8 rfl rfl ?_
    refine AW_sI (as := [(.int xb)]) (st := []) dX6_could_9 mv_X6_isRow ms_X6_isRow ml_X6_96 (Nat.le_of_ble_eq_true rfl) rfl (Nat.le_refl 0) (Nat.le_refl 0) H (fun r4 v3 H => ?_)
    refine AW_if_ne (tgt := 17) dX6_could_12 (by decide) (fun c => ?_) (fun c => ?_)
    · replace H := H.1 c
      refine AW_aload_n dX6_could_17 rfl rfl ?_
      refine AW_iload_n dX6_could_18 rfl rfl ?_
      refine AW_vI (as := [(.int xb)]) (st := []) dX6_could_19 (bI_200 B) (by decide) rfl mv_X6_askedHeights mi_X6_askedHeights ml_X6_300 (Nat.le_of_ble_eq_true rfl) rfl (Nat.le_refl 0) (Nat.le_refl 0) H (fun r6 v5 H => ?_)
      refine AW_istore_n (L' := [some (.ref 200), some (.int xa), some (.int xb), some (.int r6)]) dX6_could_22 rfl (by decide) rfl ?_
      refine AW_iload_n dX6_could_23 rfl rfl ?_
      refine AW_if_ge (tgt := 29) dX6_could_24 (by decide) (fun c => ?_) (fun c => ?_)
      · replace H := H.1 c
        refine AW_aload_n dX6_could_29 rfl rfl ?_
        refine AW_iload_n dX6_could_30 rfl rfl ?_
        refine AW_vV (as := [(.int xb)]) (st := []) dX6_could_31 (bI_200 B) (by decide) rfl mv_X6_setPlayed mi_X6_setPlayed ml_X6_306 (Nat.le_of_ble_eq_true rfl) rfl (Nat.le_refl 0) (Nat.le_refl 0) H (fun v7 H => ?_)
        refine AW_aload_n dX6_could_34 rfl rfl ?_
        refine AW_getR dX6_could_35 (bI_200 B) fl_X6_82 (bR_200_40 B) ?_
        refine AW_iload_n dX6_could_38 rfl rfl ?_
        have hi8 := H.1
        replace H := H.2
        refine AW_iald dX6_could_39 (bI_240 B) hi8 ?_
        exact AW_rI dX6_could_40 rfl rfl H
      · replace H := H.2 c
        refine AW_iload_n dX6_could_27 rfl rfl ?_
        exact AW_rI dX6_could_28 rfl rfl H
    · replace H := H.2 c
      refine AW_iconst (x := (-1)) dX6_could_15 (by decide) ?_
      exact AW_rI dX6_could_16 rfl rfl H
set_option maxRecDepth 100000 in
set_option maxHeartbeats 4000000 in
theorem vc_X6_twice {G : xG} {d : Nat} {z : xZ} {v : xS} {Q : Int32 → xS → Prop} (B : Base z) {xa : Int32} 
    (H : (oX6_askedPlayed G d [(.ref 200), (.int xa)] z v (fun r2 v1 => ((0 ≤ r2 → (oX6_write G d [(.ref 200), (.ref 230), (.int 0)] z v1 (fun v3 => aX6_twice G (d + 1) 30 [some (.ref 200), some (.int xa), some (.int r2), some (.int 0), some (.int (-9)), some (.int 0)] [] z v3 Q))) ∧ (¬ 0 ≤ r2 → Q r2 v1))))) :
    oX6_twice G (d + 1) [(.ref 200), (.int xa)] z v Q := by
  refine Ok_of (own := RX6) (by decide) rfl (Nat.le_of_ble_eq_true rfl) ?_
  show AW G (d + 1) 0 0 yX6_twice cX6_twice 6 (some .int) RX6 0 0 0 [some (.ref 200), some (.int xa), none, none, none, none] [] z v _
  refine AW_aload_n dX6_twice_0 rfl rfl ?_
  refine AW_iload_n dX6_twice_1 rfl rfl ?_
  refine AW_vI (as := [(.int xa)]) (st := []) dX6_twice_2 (bI_200 B) (by decide) rfl mv_X6_askedPlayed mi_X6_askedPlayed ml_X6_303 (Nat.le_of_ble_eq_true rfl) rfl (Nat.le_refl 0) (Nat.le_refl 0) H (fun r2 v1 H => ?_)
  refine AW_istore_n (L' := [some (.ref 200), some (.int xa), some (.int r2), none, none, none]) dX6_twice_5 rfl (by decide) rfl ?_
  refine AW_iload_n dX6_twice_6 rfl rfl ?_
  refine AW_if_ge (tgt := 12) dX6_twice_7 (by decide) (fun c => ?_) (fun c => ?_)
  · replace H := H.1 c
    refine AW_iconst (x := 0) dX6_twice_12 (by decide) ?_
    refine AW_istore_n (L' := [some (.ref 200), some (.int xa), some (.int r2), some (.int 0), none, none]) dX6_twice_13 rfl (by decide) rfl ?_
    refine AW_bipush (x := (-9)) dX6_twice_14 (by decide) ?_
    refine AW_istore (L' := [some (.ref 200), some (.int xa), some (.int r2), some (.int 0), some (.int (-9)), none]) dX6_twice_16 (by decide) rfl ?_
    refine AW_aload_n dX6_twice_18 rfl rfl ?_
    refine AW_aload_n dX6_twice_19 rfl rfl ?_
    refine AW_getR dX6_twice_20 (bI_200 B) fl_X6_73 (bR_200_30 B) ?_
    refine AW_iconst (x := 0) dX6_twice_23 (by decide) ?_
    refine AW_vV (as := [(.ref 230), (.int 0)]) (st := []) dX6_twice_24 (bI_200 B) (by decide) rfl mv_X6_write mi_X6_write ml_X6_204 (Nat.le_of_ble_eq_true rfl) rfl (Nat.le_refl 0) (Nat.le_refl 0) H (fun v3 H => ?_)
    refine AW_iconst (x := 0) dX6_twice_27 (by decide) ?_
    refine AW_istore (L' := [some (.ref 200), some (.int xa), some (.int r2), some (.int 0), some (.int (-9)), some (.int 0)]) dX6_twice_28 (by decide) rfl ?_
    exact H
  · replace H := H.2 c
    refine AW_iload_n dX6_twice_10 rfl rfl ?_
    exact AW_rI dX6_twice_11 rfl rfl H
set_option maxRecDepth 100000 in
set_option maxHeartbeats 4000000 in
theorem vc_X6_twice_30 {G : xG} {d : Nat} {z : xZ} {v : xS} {Q : Int32 → xS → Prop} (B : Base z)  {l1 : Int32} {l2 : Int32} {l3 : Int32} {l4 : Int32} {l5 : Int32} 
    (H : (oX6_programs G d [(.ref 200)] z v (fun r2 v1 => ((r2 ≤ l5 → (oX6_ask G d [(.ref 200), (.int l4), (.int l3)] z v1 (fun r4 v3 => Q r4 v3))) ∧ (¬ r2 ≤ l5 → (oX6_passEvening G d [(.ref 200), (.int l5)] z v1 (fun r6 v5 => (oX6_setPlayed G d [(.ref 200), (.int l1)] z v5 (fun v7 => (oX6_read G d [(.ref 200), (.ref 230), (.int 0)] z v7 (fun v8 => ((¬ l3 = 0 → aX6_twice G (d + 1) 30 [some (.ref 200), some (.int l1), some (.int l2), some (.int (l3 + (v8.1 200 38))), some (.int l4), some (.int (l5 + 1))] [] z v8 Q) ∧ (l3 = 0 → (((v8.1 200 38) ≤ 0 → aX6_twice G (d + 1) 30 [some (.ref 200), some (.int l1), some (.int l2), some (.int (l3 + (v8.1 200 38))), some (.int l4), some (.int (l5 + 1))] [] z v8 Q) ∧ (¬ (v8.1 200 38) ≤ 0 → aX6_twice G (d + 1) 30 [some (.ref 200), some (.int l1), some (.int l2), some (.int (l3 + (v8.1 200 38))), some (.int ((1000 * l5) + (v8.1 200 39))), some (.int (l5 + 1))] [] z v8 Q))))))))))))))) :
    aX6_twice G (d + 1) 30 [some (.ref 200), some (.int l1), some (.int l2), some (.int l3), some (.int l4), some (.int l5)] [] z v Q := by
  refine AW_iload dX6_twice_30 rfl ?_
  refine AW_aload_n dX6_twice_32 rfl rfl ?_
  refine AW_vI (as := []) (st := [(.int l5)]) dX6_twice_33 (bI_200 B) (by decide) rfl mv_X6_programs mi_X6_programs ml_X6_217 (Nat.le_of_ble_eq_true rfl) rfl (Nat.le_refl 0) (Nat.le_refl 0) H (fun r2 v1 H => ?_)
  refine AW_icmp_ge (tgt := 102) dX6_twice_36 (by decide) (fun c => ?_) (fun c => ?_)
  · replace H := H.1 c
    refine AW_aload_n dX6_twice_102 rfl rfl ?_
    refine AW_iload dX6_twice_103 rfl ?_
    refine AW_iload_n dX6_twice_105 rfl rfl ?_
    refine AW_vI (as := [(.int l4), (.int l3)]) (st := []) dX6_twice_106 (bI_200 B) (by decide) rfl mv_X6_ask mi_X6_ask ml_X6_118 (Nat.le_of_ble_eq_true rfl) rfl (Nat.le_refl 0) (Nat.le_refl 0) H (fun r4 v3 H => ?_)
    exact AW_rI dX6_twice_109 rfl rfl H
  · replace H := H.2 c
    refine AW_aload_n dX6_twice_39 rfl rfl ?_
    refine AW_iload dX6_twice_40 rfl ?_
    refine AW_vI (as := [(.int l5)]) (st := []) dX6_twice_42 (bI_200 B) (by decide) rfl mv_X6_passEvening mi_X6_passEvening ml_X6_221 (Nat.le_of_ble_eq_true rfl) rfl (Nat.le_refl 0) (Nat.le_refl 0) H (fun r6 v5 H => ?_)
    refine AW_pop dX6_twice_45 rfl ?_
    refine AW_aload_n dX6_twice_46 rfl rfl ?_
    refine AW_iload_n dX6_twice_47 rfl rfl ?_
    refine AW_vV (as := [(.int l1)]) (st := []) dX6_twice_48 (bI_200 B) (by decide) rfl mv_X6_setPlayed mi_X6_setPlayed ml_X6_306 (Nat.le_of_ble_eq_true rfl) rfl (Nat.le_refl 0) (Nat.le_refl 0) H (fun v7 H => ?_)
    refine AW_aload_n dX6_twice_51 rfl rfl ?_
    refine AW_aload_n dX6_twice_52 rfl rfl ?_
    refine AW_getR dX6_twice_53 (bI_200 B) fl_X6_73 (bR_200_30 B) ?_
    refine AW_iconst (x := 0) dX6_twice_56 (by decide) ?_
    refine AW_vV (as := [(.ref 230), (.int 0)]) (st := []) dX6_twice_57 (bI_200 B) (by decide) rfl mv_X6_read mi_X6_read ml_X6_208 (Nat.le_of_ble_eq_true rfl) rfl (Nat.le_refl 0) (Nat.le_refl 0) H (fun v8 H => ?_)
    refine AW_iload_n dX6_twice_60 rfl rfl ?_
    refine AW_if_ne (tgt := 85) dX6_twice_61 (by decide) (fun c => ?_) (fun c => ?_)
    · replace H := H.1 c
      refine AW_iload dX6_twice_85 rfl ?_
      refine AW_istore (L' := [some (.ref 200), some (.int l1), some (.int l2), some (.int l3), some (.int l4), some (.int l5)]) dX6_twice_87 (by decide) rfl ?_
      refine AW_iload_n dX6_twice_89 rfl rfl ?_
      refine AW_aload_n dX6_twice_90 rfl rfl ?_
      refine AW_getI dX6_twice_91 (bI_200 B) fl_X6_291 ?_
      refine AW_iadd dX6_twice_94 ?_
      refine AW_istore_n (L' := [some (.ref 200), some (.int l1), some (.int l2), some (.int (l3 + (v8.1 200 38))), some (.int l4), some (.int l5)]) dX6_twice_95 rfl (by decide) rfl ?_
      refine AW_iinc (x' := l5 + 1) (L' := [some (.ref 200), some (.int l1), some (.int l2), some (.int (l3 + (v8.1 200 38))), some (.int l4), some (.int (l5 + 1))]) dX6_twice_96 rfl rfl (by decide) rfl ?_
      refine AW_goto (tgt := 30) dX6_twice_99 (by decide) ?_
      exact H
    · replace H := H.2 c
      refine AW_aload_n dX6_twice_64 rfl rfl ?_
      refine AW_getI dX6_twice_65 (bI_200 B) fl_X6_291 ?_
      refine AW_if_le (tgt := 85) dX6_twice_68 (by decide) (fun c => ?_) (fun c => ?_)
      · replace H := H.1 c
        refine AW_iload dX6_twice_85 rfl ?_
        refine AW_istore (L' := [some (.ref 200), some (.int l1), some (.int l2), some (.int l3), some (.int l4), some (.int l5)]) dX6_twice_87 (by decide) rfl ?_
        refine AW_iload_n dX6_twice_89 rfl rfl ?_
        refine AW_aload_n dX6_twice_90 rfl rfl ?_
        refine AW_getI dX6_twice_91 (bI_200 B) fl_X6_291 ?_
        refine AW_iadd dX6_twice_94 ?_
        refine AW_istore_n (L' := [some (.ref 200), some (.int l1), some (.int l2), some (.int (l3 + (v8.1 200 38))), some (.int l4), some (.int l5)]) dX6_twice_95 rfl (by decide) rfl ?_
        refine AW_iinc (x' := l5 + 1) (L' := [some (.ref 200), some (.int l1), some (.int l2), some (.int (l3 + (v8.1 200 38))), some (.int l4), some (.int (l5 + 1))]) dX6_twice_96 rfl rfl (by decide) rfl ?_
        refine AW_goto (tgt := 30) dX6_twice_99 (by decide) ?_
        exact H
      · replace H := H.2 c
        refine AW_sipush (x := 1000) dX6_twice_71 (by decide) ?_
        refine AW_iload dX6_twice_74 rfl ?_
        refine AW_imul dX6_twice_76 ?_
        refine AW_aload_n dX6_twice_77 rfl rfl ?_
        refine AW_getI dX6_twice_78 (bI_200 B) fl_X6_294 ?_
        refine AW_iadd dX6_twice_81 ?_
        refine AW_goto (tgt := 87) dX6_twice_82 (by decide) ?_
        refine AW_istore (L' := [some (.ref 200), some (.int l1), some (.int l2), some (.int l3), some (.int ((1000 * l5) + (v8.1 200 39))), some (.int l5)]) dX6_twice_87 (by decide) rfl ?_
        refine AW_iload_n dX6_twice_89 rfl rfl ?_
        refine AW_aload_n dX6_twice_90 rfl rfl ?_
        refine AW_getI dX6_twice_91 (bI_200 B) fl_X6_291 ?_
        refine AW_iadd dX6_twice_94 ?_
        refine AW_istore_n (L' := [some (.ref 200), some (.int l1), some (.int l2), some (.int (l3 + (v8.1 200 38))), some (.int ((1000 * l5) + (v8.1 200 39))), some (.int l5)]) dX6_twice_95 rfl (by decide) rfl ?_
        refine AW_iinc (x' := l5 + 1) (L' := [some (.ref 200), some (.int l1), some (.int l2), some (.int (l3 + (v8.1 200 38))), some (.int ((1000 * l5) + (v8.1 200 39))), some (.int (l5 + 1))]) dX6_twice_96 rfl rfl (by decide) rfl ?_
        refine AW_goto (tgt := 30) dX6_twice_99 (by decide) ?_
        exact H
set_option maxRecDepth 100000 in
set_option maxHeartbeats 4000000 in
theorem vc_X6_valleys {G : xG} {d : Nat} {z : xZ} {v : xS} {Q : Int32 → xS → Prop} (B : Base z)  
    (H : aX6_valleys G (d + 1) 9 [some (.ref 200), some (.int 0), some (.int 0), some (.int 0), some (.int 0)] [] z v Q) :
    oX6_valleys G (d + 1) [(.ref 200)] z v Q := by
  refine Ok_of (own := RX6) (by decide) rfl (Nat.le_of_ble_eq_true rfl) ?_
  show AW G (d + 1) 0 0 yX6_valleys cX6_valleys 5 (some .int) RX6 0 0 0 [some (.ref 200), none, none, none, none] [] z v _
  refine AW_iconst (x := 0) dX6_valleys_0 (by decide) ?_
  refine AW_istore_n (L' := [some (.ref 200), some (.int 0), none, none, none]) dX6_valleys_1 rfl (by decide) rfl ?_
  refine AW_iconst (x := 0) dX6_valleys_2 (by decide) ?_
  refine AW_istore_n (L' := [some (.ref 200), some (.int 0), some (.int 0), none, none]) dX6_valleys_3 rfl (by decide) rfl ?_
  refine AW_iconst (x := 0) dX6_valleys_4 (by decide) ?_
  refine AW_istore_n (L' := [some (.ref 200), some (.int 0), some (.int 0), some (.int 0), none]) dX6_valleys_5 rfl (by decide) rfl ?_
  refine AW_iconst (x := 0) dX6_valleys_6 (by decide) ?_
  refine AW_istore (L' := [some (.ref 200), some (.int 0), some (.int 0), some (.int 0), some (.int 0)]) dX6_valleys_7 (by decide) rfl ?_
  exact H
set_option maxRecDepth 100000 in
set_option maxHeartbeats 4000000 in
theorem vc_X6_valleys_9 {G : xG} {d : Nat} {z : xZ} {v : xS} {Q : Int32 → xS → Prop} (B : Base z)  {l1 : Int32} {l2 : Int32} {l3 : Int32} {l4 : Int32} 
    (H : (((v.1 200 8) ≤ l4 → (oX6_ask G d [(.ref 200), (.int l2), (.int l1)] z v (fun r2 v1 => Q r2 v1))) ∧ (¬ (v.1 200 8) ≤ l4 → (vp_in l4 10 ∧ ((¬ (v.1 210 l4.toNatClampNeg) = 0 → ((0 ≤ l2 → aX6_valleys G (d + 1) 9 [some (.ref 200), some (.int (l1 + 0)), some (.int l2), some (.int 0), some (.int (l4 + 1))] [] z v Q) ∧ (¬ 0 ≤ l2 → aX6_valleys G (d + 1) 9 [some (.ref 200), some (.int (l1 + 0)), some (.int 0), some (.int 0), some (.int (l4 + 1))] [] z v Q))) ∧ ((v.1 210 l4.toNatClampNeg) = 0 → ((¬ (l3 + 1) = 1 → (((l3 + 1) ≤ l2 → aX6_valleys G (d + 1) 9 [some (.ref 200), some (.int (l1 + 0)), some (.int l2), some (.int (l3 + 1)), some (.int (l4 + 1))] [] z v Q) ∧ (¬ (l3 + 1) ≤ l2 → aX6_valleys G (d + 1) 9 [some (.ref 200), some (.int (l1 + 0)), some (.int (l3 + 1)), some (.int (l3 + 1)), some (.int (l4 + 1))] [] z v Q))) ∧ ((l3 + 1) = 1 → (((l3 + 1) ≤ l2 → aX6_valleys G (d + 1) 9 [some (.ref 200), some (.int (l1 + 1)), some (.int l2), some (.int (l3 + 1)), some (.int (l4 + 1))] [] z v Q) ∧ (¬ (l3 + 1) ≤ l2 → aX6_valleys G (d + 1) 9 [some (.ref 200), some (.int (l1 + 1)), some (.int (l3 + 1)), some (.int (l3 + 1)), some (.int (l4 + 1))] [] z v Q)))))))))) :
    aX6_valleys G (d + 1) 9 [some (.ref 200), some (.int l1), some (.int l2), some (.int l3), some (.int l4)] [] z v Q := by
  refine AW_iload dX6_valleys_9 rfl ?_
  refine AW_aload_n dX6_valleys_11 rfl rfl ?_
  refine AW_getI dX6_valleys_12 (bI_200 B) fl_X6_151 ?_
  refine AW_icmp_ge (tgt := 66) dX6_valleys_15 (by decide) (fun c => ?_) (fun c => ?_)
  · replace H := H.1 c
    refine AW_aload_n dX6_valleys_66 rfl rfl ?_
    refine AW_iload_n dX6_valleys_67 rfl rfl ?_
    refine AW_iload_n dX6_valleys_68 rfl rfl ?_
    refine AW_vI (as := [(.int l2), (.int l1)]) (st := []) dX6_valleys_69 (bI_200 B) (by decide) rfl mv_X6_ask mi_X6_ask ml_X6_118 (Nat.le_of_ble_eq_true rfl) rfl (Nat.le_refl 0) (Nat.le_refl 0) H (fun r2 v1 H => ?_)
    exact AW_rI dX6_valleys_72 rfl rfl H
  · replace H := H.2 c
    refine AW_aload_n dX6_valleys_18 rfl rfl ?_
    refine AW_getR dX6_valleys_19 (bI_200 B) fl_X6_28 (bR_200_10 B) ?_
    refine AW_iload dX6_valleys_22 rfl ?_
    have hi3 := H.1
    replace H := H.2
    refine AW_iald dX6_valleys_24 (bI_210 B) hi3 ?_
    refine AW_if_ne (tgt := 34) dX6_valleys_25 (by decide) (fun c => ?_) (fun c => ?_)
    · replace H := H.1 c
      refine AW_iconst (x := 0) dX6_valleys_34 (by decide) ?_
      refine AW_istore_n (L' := [some (.ref 200), some (.int l1), some (.int l2), some (.int 0), some (.int l4)]) dX6_valleys_35 rfl (by decide) rfl ?_
      refine AW_iload_n dX6_valleys_36 rfl rfl ?_
      refine AW_iload_n dX6_valleys_37 rfl rfl ?_
      refine AW_iconst (x := 1) dX6_valleys_38 (by decide) ?_
      refine AW_icmp_ne (tgt := 46) dX6_valleys_39 (by decide) (fun _ => ?_) (fun q => absurd q (by decide))
      refine AW_iconst (x := 0) dX6_valleys_46 (by decide) ?_
      refine AW_iadd dX6_valleys_47 ?_
      refine AW_istore_n (L' := [some (.ref 200), some (.int (l1 + 0)), some (.int l2), some (.int 0), some (.int l4)]) dX6_valleys_48 rfl (by decide) rfl ?_
      refine AW_iload_n dX6_valleys_49 rfl rfl ?_
      refine AW_iload_n dX6_valleys_50 rfl rfl ?_
      refine AW_icmp_le (tgt := 58) dX6_valleys_51 (by decide) (fun c => ?_) (fun c => ?_)
      · replace H := H.1 c
        refine AW_iload_n dX6_valleys_58 rfl rfl ?_
        refine AW_istore_n (L' := [some (.ref 200), some (.int (l1 + 0)), some (.int l2), some (.int 0), some (.int l4)]) dX6_valleys_59 rfl (by decide) rfl ?_
        refine AW_iinc (x' := l4 + 1) (L' := [some (.ref 200), some (.int (l1 + 0)), some (.int l2), some (.int 0), some (.int (l4 + 1))]) dX6_valleys_60 rfl rfl (by decide) rfl ?_
        refine AW_goto (tgt := 9) dX6_valleys_63 (by decide) ?_
        exact H
      · replace H := H.2 c
        refine AW_iload_n dX6_valleys_54 rfl rfl ?_
        refine AW_goto (tgt := 59) dX6_valleys_55 (by decide) ?_
        refine AW_istore_n (L' := [some (.ref 200), some (.int (l1 + 0)), some (.int 0), some (.int 0), some (.int l4)]) dX6_valleys_59 rfl (by decide) rfl ?_
        refine AW_iinc (x' := l4 + 1) (L' := [some (.ref 200), some (.int (l1 + 0)), some (.int 0), some (.int 0), some (.int (l4 + 1))]) dX6_valleys_60 rfl rfl (by decide) rfl ?_
        refine AW_goto (tgt := 9) dX6_valleys_63 (by decide) ?_
        exact H
    · replace H := H.2 c
      refine AW_iload_n dX6_valleys_28 rfl rfl ?_
      refine AW_iconst (x := 1) dX6_valleys_29 (by decide) ?_
      refine AW_iadd dX6_valleys_30 ?_
      refine AW_goto (tgt := 35) dX6_valleys_31 (by decide) ?_
      refine AW_istore_n (L' := [some (.ref 200), some (.int l1), some (.int l2), some (.int (l3 + 1)), some (.int l4)]) dX6_valleys_35 rfl (by decide) rfl ?_
      refine AW_iload_n dX6_valleys_36 rfl rfl ?_
      refine AW_iload_n dX6_valleys_37 rfl rfl ?_
      refine AW_iconst (x := 1) dX6_valleys_38 (by decide) ?_
      refine AW_icmp_ne (tgt := 46) dX6_valleys_39 (by decide) (fun c => ?_) (fun c => ?_)
      · replace H := H.1 c
        refine AW_iconst (x := 0) dX6_valleys_46 (by decide) ?_
        refine AW_iadd dX6_valleys_47 ?_
        refine AW_istore_n (L' := [some (.ref 200), some (.int (l1 + 0)), some (.int l2), some (.int (l3 + 1)), some (.int l4)]) dX6_valleys_48 rfl (by decide) rfl ?_
        refine AW_iload_n dX6_valleys_49 rfl rfl ?_
        refine AW_iload_n dX6_valleys_50 rfl rfl ?_
        refine AW_icmp_le (tgt := 58) dX6_valleys_51 (by decide) (fun c => ?_) (fun c => ?_)
        · replace H := H.1 c
          refine AW_iload_n dX6_valleys_58 rfl rfl ?_
          refine AW_istore_n (L' := [some (.ref 200), some (.int (l1 + 0)), some (.int l2), some (.int (l3 + 1)), some (.int l4)]) dX6_valleys_59 rfl (by decide) rfl ?_
          refine AW_iinc (x' := l4 + 1) (L' := [some (.ref 200), some (.int (l1 + 0)), some (.int l2), some (.int (l3 + 1)), some (.int (l4 + 1))]) dX6_valleys_60 rfl rfl (by decide) rfl ?_
          refine AW_goto (tgt := 9) dX6_valleys_63 (by decide) ?_
          exact H
        · replace H := H.2 c
          refine AW_iload_n dX6_valleys_54 rfl rfl ?_
          refine AW_goto (tgt := 59) dX6_valleys_55 (by decide) ?_
          refine AW_istore_n (L' := [some (.ref 200), some (.int (l1 + 0)), some (.int (l3 + 1)), some (.int (l3 + 1)), some (.int l4)]) dX6_valleys_59 rfl (by decide) rfl ?_
          refine AW_iinc (x' := l4 + 1) (L' := [some (.ref 200), some (.int (l1 + 0)), some (.int (l3 + 1)), some (.int (l3 + 1)), some (.int (l4 + 1))]) dX6_valleys_60 rfl rfl (by decide) rfl ?_
          refine AW_goto (tgt := 9) dX6_valleys_63 (by decide) ?_
          exact H
      · replace H := H.2 c
        refine AW_iconst (x := 1) dX6_valleys_42 (by decide) ?_
        refine AW_goto (tgt := 47) dX6_valleys_43 (by decide) ?_
        refine AW_iadd dX6_valleys_47 ?_
        refine AW_istore_n (L' := [some (.ref 200), some (.int (l1 + 1)), some (.int l2), some (.int (l3 + 1)), some (.int l4)]) dX6_valleys_48 rfl (by decide) rfl ?_
        refine AW_iload_n dX6_valleys_49 rfl rfl ?_
        refine AW_iload_n dX6_valleys_50 rfl rfl ?_
        refine AW_icmp_le (tgt := 58) dX6_valleys_51 (by decide) (fun c => ?_) (fun c => ?_)
        · replace H := H.1 c
          refine AW_iload_n dX6_valleys_58 rfl rfl ?_
          refine AW_istore_n (L' := [some (.ref 200), some (.int (l1 + 1)), some (.int l2), some (.int (l3 + 1)), some (.int l4)]) dX6_valleys_59 rfl (by decide) rfl ?_
          refine AW_iinc (x' := l4 + 1) (L' := [some (.ref 200), some (.int (l1 + 1)), some (.int l2), some (.int (l3 + 1)), some (.int (l4 + 1))]) dX6_valleys_60 rfl rfl (by decide) rfl ?_
          refine AW_goto (tgt := 9) dX6_valleys_63 (by decide) ?_
          exact H
        · replace H := H.2 c
          refine AW_iload_n dX6_valleys_54 rfl rfl ?_
          refine AW_goto (tgt := 59) dX6_valleys_55 (by decide) ?_
          refine AW_istore_n (L' := [some (.ref 200), some (.int (l1 + 1)), some (.int (l3 + 1)), some (.int (l3 + 1)), some (.int l4)]) dX6_valleys_59 rfl (by decide) rfl ?_
          refine AW_iinc (x' := l4 + 1) (L' := [some (.ref 200), some (.int (l1 + 1)), some (.int (l3 + 1)), some (.int (l3 + 1)), some (.int (l4 + 1))]) dX6_valleys_60 rfl rfl (by decide) rfl ?_
          refine AW_goto (tgt := 9) dX6_valleys_63 (by decide) ?_
          exact H
set_option maxRecDepth 100000 in
set_option maxHeartbeats 4000000 in
theorem vc_X6_top {G : xG} {d : Nat} {z : xZ} {v : xS} {Q : Int32 → xS → Prop} (B : Base z)  
    (H : ((¬ (v.1 200 8) = 0 → (oX6_topOf G d [(.ref 200), (.int 0), (.int ((v.1 200 8) - 1))] z v (fun r2 v1 => (vp_in r2 10 ∧ (oX6_ask G d [(.ref 200), (.int (v1.1 210 r2.toNatClampNeg)), (.int r2)] z v1 (fun r5 v4 => Q r5 v4)))))) ∧ ((v.1 200 8) = 0 → Q (-4) v))) :
    oX6_top G (d + 1) [(.ref 200)] z v Q := by
  refine Ok_of (own := RX6) (by decide) rfl (Nat.le_of_ble_eq_true rfl) ?_
  show AW G (d + 1) 0 0 yX6_top cX6_top 2 (some .int) RX6 0 0 0 [some (.ref 200), none] [] z v _
  refine AW_aload_n dX6_top_0 rfl rfl ?_
  refine AW_getI dX6_top_1 (bI_200 B) fl_X6_151 ?_
  refine AW_if_ne (tgt := 10) dX6_top_4 (by decide) (fun c => ?_) (fun c => ?_)
  · replace H := H.1 c
    refine AW_aload_n dX6_top_10 rfl rfl ?_
    refine AW_iconst (x := 0) dX6_top_11 (by decide) ?_
    refine AW_aload_n dX6_top_12 rfl rfl ?_
    refine AW_getI dX6_top_13 (bI_200 B) fl_X6_151 ?_
    refine AW_iconst (x := 1) dX6_top_16 (by decide) ?_
    refine AW_isub dX6_top_17 ?_
    refine AW_vI (as := [(.int 0), (.int ((v.1 200 8) - 1))]) (st := []) dX6_top_18 (bI_200 B) (by decide) rfl mv_X6_topOf mi_X6_topOf ml_X6_245 (Nat.le_of_ble_eq_true rfl) rfl (Nat.le_refl 0) (Nat.le_refl 0) H (fun r2 v1 H => ?_)
    refine AW_istore_n (L' := [some (.ref 200), some (.int r2)]) dX6_top_21 rfl (by decide) rfl ?_
    refine AW_aload_n dX6_top_22 rfl rfl ?_
    refine AW_aload_n dX6_top_23 rfl rfl ?_
    refine AW_getR dX6_top_24 (bI_200 B) fl_X6_28 (bR_200_10 B) ?_
    refine AW_iload_n dX6_top_27 rfl rfl ?_
    have hi3 := H.1
    replace H := H.2
    refine AW_iald dX6_top_28 (bI_210 B) hi3 ?_
    refine AW_iload_n dX6_top_29 rfl rfl ?_
    refine AW_vI (as := [(.int (v1.1 210 r2.toNatClampNeg)), (.int r2)]) (st := []) dX6_top_30 (bI_200 B) (by decide) rfl mv_X6_ask mi_X6_ask ml_X6_118 (Nat.le_of_ble_eq_true rfl) rfl (Nat.le_refl 0) (Nat.le_refl 0) H (fun r5 v4 H => ?_)
    exact AW_rI dX6_top_33 rfl rfl H
  · replace H := H.2 c
    refine AW_bipush (x := (-4)) dX6_top_7 (by decide) ?_
    exact AW_rI dX6_top_9 rfl rfl H
set_option maxRecDepth 100000 in
set_option maxHeartbeats 4000000 in
theorem vc_X6_isSpan {G : xG} {d : Nat} {z : xZ} {v : xS} {Q : Int32 → xS → Prop} (B : Base z) {xa : Int32} {xb : Int32} 
    (H : (oX6_isSpot G d [(.ref 200), (.int xa)] z v (fun r2 v1 => ((r2 = 0 → Q 0 v1) ∧ (¬ r2 = 0 → (oX6_isSpot G d [(.ref 200), (.int xb)] z v1 (fun r4 v3 => ((r4 = 0 → Q 0 v3) ∧ (¬ r4 = 0 → ((xb ≤ xa → Q 0 v3) ∧ (¬ xb ≤ xa → Q 1 v3))))))))))) :
    oX6_isSpan G (d + 1) [(.ref 200), (.int xa), (.int xb)] z v Q := by
  refine Ok_of (own := RX6) (by decide) rfl (Nat.le_of_ble_eq_true rfl) ?_
  show AW G (d + 1) 0 0 yX6_isSpan cX6_isSpan 3 (some .boolean) RX6 0 0 0 [some (.ref 200), some (.int xa), some (.int xb)] [] z v _
  refine AW_aload_n dX6_isSpan_0 rfl rfl ?_
  refine AW_iload_n dX6_isSpan_1 rfl rfl ?_
  refine AW_vI (as := [(.int xa)]) (st := []) dX6_isSpan_2 (bI_200 B) (by decide) rfl mv_X6_isSpot mi_X6_isSpot ml_X6_163 (Nat.le_of_ble_eq_true rfl) rfl (Nat.le_refl 0) (Nat.le_refl 0) H (fun r2 v1 H => ?_)
  refine AW_if_eq (tgt := 25) dX6_isSpan_5 (by decide) (fun c => ?_) (fun c => ?_)
  · replace H := H.1 c
    refine AW_iconst (x := 0) dX6_isSpan_25 (by decide) ?_
    exact AW_rI dX6_isSpan_26 rfl (by decide) H
  · replace H := H.2 c
    refine AW_aload_n dX6_isSpan_8 rfl rfl ?_
    refine AW_iload_n dX6_isSpan_9 rfl rfl ?_
    refine AW_vI (as := [(.int xb)]) (st := []) dX6_isSpan_10 (bI_200 B) (by decide) rfl mv_X6_isSpot mi_X6_isSpot ml_X6_163 (Nat.le_of_ble_eq_true rfl) rfl (Nat.le_refl 0) (Nat.le_refl 0) H (fun r4 v3 H => ?_)
    refine AW_if_eq (tgt := 25) dX6_isSpan_13 (by decide) (fun c => ?_) (fun c => ?_)
    · replace H := H.1 c
      refine AW_iconst (x := 0) dX6_isSpan_25 (by decide) ?_
      exact AW_rI dX6_isSpan_26 rfl (by decide) H
    · replace H := H.2 c
      refine AW_iload_n dX6_isSpan_16 rfl rfl ?_
      refine AW_iload_n dX6_isSpan_17 rfl rfl ?_
      refine AW_icmp_ge (tgt := 25) dX6_isSpan_18 (by decide) (fun c => ?_) (fun c => ?_)
      · replace H := H.1 c
        refine AW_iconst (x := 0) dX6_isSpan_25 (by decide) ?_
        exact AW_rI dX6_isSpan_26 rfl (by decide) H
      · replace H := H.2 c
        refine AW_iconst (x := 1) dX6_isSpan_21 (by decide) ?_
        refine AW_goto (tgt := 26) dX6_isSpan_22 (by decide) ?_
        exact AW_rI dX6_isSpan_26 rfl (by decide) H
set_option maxRecDepth 100000 in
set_option maxHeartbeats 4000000 in
theorem vc_X6_border {G : xG} {d : Nat} {z : xZ} {v : xS} {Q : Int32 → xS → Prop} (B : Base z) {xa : Int32} {xb : Int32} 
    (H : (oX6_isSpan G d [(.ref 200), (.int xa), (.int xb)] z v (fun r2 v1 => ((¬ r2 = 0 → (oX6_topOf G d [(.ref 200), (.int xa), (.int xb)] z v1 (fun r4 v3 => (vp_in r4 10 ∧ (oX6_ask G d [(.ref 200), (.int (v3.1 210 r4.toNatClampNeg)), (.int r4)] z v3 (fun r7 v6 => Q r7 v6)))))) ∧ (r2 = 0 → Q (-1) v1))))) :
    oX6_border G (d + 1) [(.ref 200), (.int xa), (.int xb)] z v Q := by
  refine Ok_of (own := RX6) (by decide) rfl (Nat.le_of_ble_eq_true rfl) ?_
  show AW G (d + 1) 0 0 yX6_border cX6_border 4 (some .int) RX6 0 0 0 [some (.ref 200), some (.int xa), some (.int xb), none] [] z v _
  refine AW_aload_n dX6_border_0 rfl rfl ?_
  refine AW_iload_n dX6_border_1 rfl rfl ?_
  refine AW_iload_n dX6_border_2 rfl rfl ?_
  refine AW_vI (as := [(.int xa), (.int xb)]) (st := []) dX6_border_3 (bI_200 B) (by decide) rfl mv_X6_isSpan mi_X6_isSpan ml_X6_310 (Nat.le_of_ble_eq_true rfl) rfl (Nat.le_refl 0) (Nat.le_refl 0) H (fun r2 v1 H => ?_)
  refine AW_if_ne (tgt := 11) dX6_border_6 (by decide) (fun c => ?_) (fun c => ?_)
  · replace H := H.1 c
    refine AW_aload_n dX6_border_11 rfl rfl ?_
    refine AW_iload_n dX6_border_12 rfl rfl ?_
    refine AW_iload_n dX6_border_13 rfl rfl ?_
    refine AW_vI (as := [(.int xa), (.int xb)]) (st := []) dX6_border_14 (bI_200 B) (by decide) rfl mv_X6_topOf mi_X6_topOf ml_X6_245 (Nat.le_of_ble_eq_true rfl) rfl (Nat.le_refl 0) (Nat.le_refl 0) H (fun r4 v3 H => ?_)
    refine AW_istore_n (L' := [some (.ref 200), some (.int xa), some (.int xb), some (.int r4)]) dX6_border_17 rfl (by decide) rfl ?_
    refine AW_aload_n dX6_border_18 rfl rfl ?_
    refine AW_aload_n dX6_border_19 rfl rfl ?_
    refine AW_getR dX6_border_20 (bI_200 B) fl_X6_28 (bR_200_10 B) ?_
    refine AW_iload_n dX6_border_23 rfl rfl ?_
    have hi5 := H.1
    replace H := H.2
    refine AW_iald dX6_border_24 (bI_210 B) hi5 ?_
    refine AW_iload_n dX6_border_25 rfl rfl ?_
    refine AW_vI (as := [(.int (v3.1 210 r4.toNatClampNeg)), (.int r4)]) (st := []) dX6_border_26 (bI_200 B) (by decide) rfl mv_X6_ask mi_X6_ask ml_X6_118 (Nat.le_of_ble_eq_true rfl) rfl (Nat.le_refl 0) (Nat.le_refl 0) H (fun r7 v6 H => ?_)
    exact AW_rI dX6_border_29 rfl rfl H
  · replace H := H.2 c
    refine AW_iconst (x := (-1)) dX6_border_9 (by decide) ?_
    exact AW_rI dX6_border_10 rfl rfl H
set_option maxRecDepth 100000 in
set_option maxHeartbeats 4000000 in
theorem vc_X6_shifts {G : xG} {d : Nat} {z : xZ} {v : xS} {Q : Int32 → xS → Prop} (B : Base z) {xa : Int32} {xb : Int32} 
    (H : (oX6_isSpan G d [(.ref 200), (.int xa), (.int xb)] z v (fun r2 v1 => ((¬ r2 = 0 → (oX6_topOf G d [(.ref 200), (.int xa), (.int xb)] z v1 (fun r4 v3 => (oX6_putAhead G d [(.ref 200)] z v3 (fun v5 => aX6_shifts G (d + 1) 32 [some (.ref 200), some (.int xa), some (.int xb), some (.int r4), some (.int 0), some (.int (-9)), some (.int 0), none] [] z v5 Q))))) ∧ (r2 = 0 → Q (-1) v1))))) :
    oX6_shifts G (d + 1) [(.ref 200), (.int xa), (.int xb)] z v Q := by
  refine Ok_of (own := RX6) (by decide) rfl (Nat.le_of_ble_eq_true rfl) ?_
  show AW G (d + 1) 0 0 yX6_shifts cX6_shifts 8 (some .int) RX6 0 0 0 [some (.ref 200), some (.int xa), some (.int xb), none, none, none, none, none] [] z v _
  refine AW_aload_n dX6_shifts_0 rfl rfl ?_
  refine AW_iload_n dX6_shifts_1 rfl rfl ?_
  refine AW_iload_n dX6_shifts_2 rfl rfl ?_
  refine AW_vI (as := [(.int xa), (.int xb)]) (st := []) dX6_shifts_3 (bI_200 B) (by decide) rfl mv_X6_isSpan mi_X6_isSpan ml_X6_310 (Nat.le_of_ble_eq_true rfl) rfl (Nat.le_refl 0) (Nat.le_refl 0) H (fun r2 v1 H => ?_)
  refine AW_if_ne (tgt := 11) dX6_shifts_6 (by decide) (fun c => ?_) (fun c => ?_)
  · replace H := H.1 c
    refine AW_aload_n dX6_shifts_11 rfl rfl ?_
    refine AW_iload_n dX6_shifts_12 rfl rfl ?_
    refine AW_iload_n dX6_shifts_13 rfl rfl ?_
    refine AW_vI (as := [(.int xa), (.int xb)]) (st := []) dX6_shifts_14 (bI_200 B) (by decide) rfl mv_X6_topOf mi_X6_topOf ml_X6_245 (Nat.le_of_ble_eq_true rfl) rfl (Nat.le_refl 0) (Nat.le_refl 0) H (fun r4 v3 H => ?_)
    refine AW_istore_n (L' := [some (.ref 200), some (.int xa), some (.int xb), some (.int r4), none, none, none, none]) dX6_shifts_17 rfl (by decide) rfl ?_
    refine AW_iconst (x := 0) dX6_shifts_18 (by decide) ?_
    refine AW_istore (L' := [some (.ref 200), some (.int xa), some (.int xb), some (.int r4), some (.int 0), none, none, none]) dX6_shifts_19 (by decide) rfl ?_
    refine AW_bipush (x := (-9)) dX6_shifts_21 (by decide) ?_
    refine AW_istore (L' := [some (.ref 200), some (.int xa), some (.int xb), some (.int r4), some (.int 0), some (.int (-9)), none, none]) dX6_shifts_23 (by decide) rfl ?_
    refine AW_aload_n dX6_shifts_25 rfl rfl ?_
    refine AW_vV (as := []) (st := []) dX6_shifts_26 (bI_200 B) (by decide) rfl mv_X6_putAhead mi_X6_putAhead ml_X6_239 (Nat.le_of_ble_eq_true rfl) rfl (Nat.le_refl 0) (Nat.le_refl 0) H (fun v5 H => ?_)
    refine AW_iconst (x := 0) dX6_shifts_29 (by decide) ?_
    refine AW_istore (L' := [some (.ref 200), some (.int xa), some (.int xb), some (.int r4), some (.int 0), some (.int (-9)), some (.int 0), none]) dX6_shifts_30 (by decide) rfl ?_
    exact H
  · replace H := H.2 c
    refine AW_iconst (x := (-1)) dX6_shifts_9 (by decide) ?_
    exact AW_rI dX6_shifts_10 rfl rfl H
set_option maxRecDepth 100000 in
set_option maxHeartbeats 4000000 in
theorem vc_X6_shifts_32 {G : xG} {d : Nat} {z : xZ} {v : xS} {Q : Int32 → xS → Prop} (B : Base z)  {l1 : Int32} {l2 : Int32} {l3 : Int32} {l4 : Int32} {l5 : Int32} {l6 : Int32} 
    (H : (oX6_programs G d [(.ref 200)] z v (fun r2 v1 => ((r2 ≤ l6 → (oX6_ask G d [(.ref 200), (.int l5), (.int l4)] z v1 (fun r4 v3 => Q r4 v3))) ∧ (¬ r2 ≤ l6 → (oX6_passEvening G d [(.ref 200), (.int l6)] z v1 (fun r6 v5 => (oX6_topOf G d [(.ref 200), (.int l1), (.int l2)] z v5 (fun r8 v7 => ((r8 = l3 → (oX6_comeBack G d [(.ref 200)] z v7 (fun v9 => aX6_shifts G (d + 1) 32 [some (.ref 200), some (.int l1), some (.int l2), some (.int l3), some (.int (l4 + 0)), some (.int l5), some (.int (l6 + 1)), none] [] z v9 Q))) ∧ (¬ r8 = l3 → (oX6_comeBack G d [(.ref 200)] z v7 (fun v10 => ((¬ l4 = 0 → aX6_shifts G (d + 1) 32 [some (.ref 200), some (.int l1), some (.int l2), some (.int l3), some (.int (l4 + 1)), some (.int l5), some (.int (l6 + 1)), none] [] z v10 Q) ∧ (l4 = 0 → aX6_shifts G (d + 1) 32 [some (.ref 200), some (.int l1), some (.int l2), some (.int l3), some (.int (l4 + 1)), some (.int l6), some (.int (l6 + 1)), none] [] z v10 Q))))))))))))))) :
    aX6_shifts G (d + 1) 32 [some (.ref 200), some (.int l1), some (.int l2), some (.int l3), some (.int l4), some (.int l5), some (.int l6), none] [] z v Q := by
  refine AW_iload dX6_shifts_32 rfl ?_
  refine AW_aload_n dX6_shifts_34 rfl rfl ?_
  refine AW_vI (as := []) (st := [(.int l6)]) dX6_shifts_35 (bI_200 B) (by decide) rfl mv_X6_programs mi_X6_programs ml_X6_217 (Nat.le_of_ble_eq_true rfl) rfl (Nat.le_refl 0) (Nat.le_refl 0) H (fun r2 v1 H => ?_)
  refine AW_icmp_ge (tgt := 109) dX6_shifts_38 (by decide) (fun c => ?_) (fun c => ?_)
  · replace H := H.1 c
    refine AW_aload_n dX6_shifts_109 rfl rfl ?_
    refine AW_iload dX6_shifts_110 rfl ?_
    refine AW_iload dX6_shifts_112 rfl ?_
    refine AW_vI (as := [(.int l5), (.int l4)]) (st := []) dX6_shifts_114 (bI_200 B) (by decide) rfl mv_X6_ask mi_X6_ask ml_X6_118 (Nat.le_of_ble_eq_true rfl) rfl (Nat.le_refl 0) (Nat.le_refl 0) H (fun r4 v3 H => ?_)
    exact AW_rI dX6_shifts_117 rfl rfl H
  · replace H := H.2 c
    refine AW_aload_n dX6_shifts_41 rfl rfl ?_
    refine AW_iload dX6_shifts_42 rfl ?_
    refine AW_vI (as := [(.int l6)]) (st := []) dX6_shifts_44 (bI_200 B) (by decide) rfl mv_X6_passEvening mi_X6_passEvening ml_X6_221 (Nat.le_of_ble_eq_true rfl) rfl (Nat.le_refl 0) (Nat.le_refl 0) H (fun r6 v5 H => ?_)
    refine AW_pop dX6_shifts_47 rfl ?_
    refine AW_aload_n dX6_shifts_48 rfl rfl ?_
    refine AW_iload_n dX6_shifts_49 rfl rfl ?_
    refine AW_iload_n dX6_shifts_50 rfl rfl ?_
    refine AW_vI (as := [(.int l1), (.int l2)]) (st := []) dX6_shifts_51 (bI_200 B) (by decide) rfl mv_X6_topOf mi_X6_topOf ml_X6_245 (Nat.le_of_ble_eq_true rfl) rfl (Nat.le_refl 0) (Nat.le_refl 0) H (fun r8 v7 H => ?_)
    refine AW_iload_n dX6_shifts_54 rfl rfl ?_
    refine AW_icmp_eq (tgt := 62) dX6_shifts_55 (by decide) (fun c => ?_) (fun c => ?_)
    · replace H := H.1 c
      refine AW_iconst (x := 0) dX6_shifts_62 (by decide) ?_
      refine AW_istore (L' := [some (.ref 200), some (.int l1), some (.int l2), some (.int l3), some (.int l4), some (.int l5), some (.int l6), some (.int 0)]) dX6_shifts_63 (by decide) rfl ?_
      refine AW_aload_n dX6_shifts_65 rfl rfl ?_
      refine AW_vV (as := []) (st := []) dX6_shifts_66 (bI_200 B) (by decide) rfl mv_X6_comeBack mi_X6_comeBack ml_X6_242 (Nat.le_of_ble_eq_true rfl) rfl (Nat.le_refl 0) (Nat.le_refl 0) H (fun v9 H => ?_)
      refine AW_iload dX6_shifts_69 rfl ?_
      refine AW_if_eq (tgt := 84) dX6_shifts_71 (by decide) (fun _ => ?_) (fun q => absurd (by decide) q)
      refine AW_iload dX6_shifts_84 rfl ?_
      refine AW_istore (L' := [some (.ref 200), some (.int l1), some (.int l2), some (.int l3), some (.int l4), some (.int l5), some (.int l6), some (.int 0)]) dX6_shifts_86 (by decide) rfl ?_
      refine AW_iload dX6_shifts_88 rfl ?_
      refine AW_iload dX6_shifts_90 rfl ?_
      refine AW_if_eq (tgt := 99) dX6_shifts_92 (by decide) (fun _ => ?_) (fun q => absurd (by decide) q)
      refine AW_iconst (x := 0) dX6_shifts_99 (by decide) ?_
      refine AW_iadd dX6_shifts_100 ?_
      refine AW_istore (L' := [some (.ref 200), some (.int l1), some (.int l2), some (.int l3), some (.int (l4 + 0)), some (.int l5), some (.int l6), some (.int 0)]) dX6_shifts_101 (by decide) rfl ?_
      refine AW_iinc (x' := l6 + 1) (L' := [some (.ref 200), some (.int l1), some (.int l2), some (.int l3), some (.int (l4 + 0)), some (.int l5), some (.int (l6 + 1)), some (.int 0)]) dX6_shifts_103 rfl rfl (by decide) rfl ?_
      refine AW_goto (tgt := 32) dX6_shifts_106 (by decide) ?_
      refine AW_sub (L' := [some (.ref 200), some (.int l1), some (.int l2), some (.int l3), some (.int (l4 + 0)), some (.int l5), some (.int (l6 + 1)), none]) (show xle _ _ from ⟨rfl, ⟨rfl, ⟨rfl, ⟨rfl, ⟨rfl, ⟨rfl, ⟨rfl, trivial⟩⟩⟩⟩⟩⟩⟩) ?_
      exact H
    · replace H := H.2 c
      refine AW_iconst (x := 1) dX6_shifts_58 (by decide) ?_
      refine AW_goto (tgt := 63) dX6_shifts_59 (by decide) ?_
      refine AW_istore (L' := [some (.ref 200), some (.int l1), some (.int l2), some (.int l3), some (.int l4), some (.int l5), some (.int l6), some (.int 1)]) dX6_shifts_63 (by decide) rfl ?_
      refine AW_aload_n dX6_shifts_65 rfl rfl ?_
      refine AW_vV (as := []) (st := []) dX6_shifts_66 (bI_200 B) (by decide) rfl mv_X6_comeBack mi_X6_comeBack ml_X6_242 (Nat.le_of_ble_eq_true rfl) rfl (Nat.le_refl 0) (Nat.le_refl 0) H (fun v10 H => ?_)
      refine AW_iload dX6_shifts_69 rfl ?_
      refine AW_if_eq (tgt := 84) dX6_shifts_71 (by decide) (fun q => absurd q (by decide)) (fun _ => ?_)
      refine AW_iload dX6_shifts_74 rfl ?_
      refine AW_if_ne (tgt := 84) dX6_shifts_76 (by decide) (fun c => ?_) (fun c => ?_)
      · replace H := H.1 c
        refine AW_iload dX6_shifts_84 rfl ?_
        refine AW_istore (L' := [some (.ref 200), some (.int l1), some (.int l2), some (.int l3), some (.int l4), some (.int l5), some (.int l6), some (.int 1)]) dX6_shifts_86 (by decide) rfl ?_
        refine AW_iload dX6_shifts_88 rfl ?_
        refine AW_iload dX6_shifts_90 rfl ?_
        refine AW_if_eq (tgt := 99) dX6_shifts_92 (by decide) (fun q => absurd q (by decide)) (fun _ => ?_)
        refine AW_iconst (x := 1) dX6_shifts_95 (by decide) ?_
        refine AW_goto (tgt := 100) dX6_shifts_96 (by decide) ?_
        refine AW_iadd dX6_shifts_100 ?_
        refine AW_istore (L' := [some (.ref 200), some (.int l1), some (.int l2), some (.int l3), some (.int (l4 + 1)), some (.int l5), some (.int l6), some (.int 1)]) dX6_shifts_101 (by decide) rfl ?_
        refine AW_iinc (x' := l6 + 1) (L' := [some (.ref 200), some (.int l1), some (.int l2), some (.int l3), some (.int (l4 + 1)), some (.int l5), some (.int (l6 + 1)), some (.int 1)]) dX6_shifts_103 rfl rfl (by decide) rfl ?_
        refine AW_goto (tgt := 32) dX6_shifts_106 (by decide) ?_
        refine AW_sub (L' := [some (.ref 200), some (.int l1), some (.int l2), some (.int l3), some (.int (l4 + 1)), some (.int l5), some (.int (l6 + 1)), none]) (show xle _ _ from ⟨rfl, ⟨rfl, ⟨rfl, ⟨rfl, ⟨rfl, ⟨rfl, ⟨rfl, trivial⟩⟩⟩⟩⟩⟩⟩) ?_
        exact H
      · replace H := H.2 c
        refine AW_iload dX6_shifts_79 rfl ?_
        refine AW_goto (tgt := 86) dX6_shifts_81 (by decide) ?_
        refine AW_istore (L' := [some (.ref 200), some (.int l1), some (.int l2), some (.int l3), some (.int l4), some (.int l6), some (.int l6), some (.int 1)]) dX6_shifts_86 (by decide) rfl ?_
        refine AW_iload dX6_shifts_88 rfl ?_
        refine AW_iload dX6_shifts_90 rfl ?_
        refine AW_if_eq (tgt := 99) dX6_shifts_92 (by decide) (fun q => absurd q (by decide)) (fun _ => ?_)
        refine AW_iconst (x := 1) dX6_shifts_95 (by decide) ?_
        refine AW_goto (tgt := 100) dX6_shifts_96 (by decide) ?_
        refine AW_iadd dX6_shifts_100 ?_
        refine AW_istore (L' := [some (.ref 200), some (.int l1), some (.int l2), some (.int l3), some (.int (l4 + 1)), some (.int l6), some (.int l6), some (.int 1)]) dX6_shifts_101 (by decide) rfl ?_
        refine AW_iinc (x' := l6 + 1) (L' := [some (.ref 200), some (.int l1), some (.int l2), some (.int l3), some (.int (l4 + 1)), some (.int l6), some (.int (l6 + 1)), some (.int 1)]) dX6_shifts_103 rfl rfl (by decide) rfl ?_
        refine AW_goto (tgt := 32) dX6_shifts_106 (by decide) ?_
        refine AW_sub (L' := [some (.ref 200), some (.int l1), some (.int l2), some (.int l3), some (.int (l4 + 1)), some (.int l6), some (.int (l6 + 1)), none]) (show xle _ _ from ⟨rfl, ⟨rfl, ⟨rfl, ⟨rfl, ⟨rfl, ⟨rfl, ⟨rfl, trivial⟩⟩⟩⟩⟩⟩⟩) ?_
        exact H
set_option maxRecDepth 100000 in
set_option maxHeartbeats 4000000 in
theorem vc_X6_far {G : xG} {d : Nat} {z : xZ} {v : xS} {Q : Int32 → xS → Prop} (B : Base z) {xa : Int32} 
    (H : (oX6_askedPlayed G d [(.ref 200), (.int xa)] z v (fun r2 v1 => ((0 ≤ r2 → aX6_far G (d + 1) 17 [some (.ref 200), some (.int xa), some (.int r2), some (.long 0), none, some (.int 0), none, none] [] z v1 Q) ∧ (¬ 0 ≤ r2 → Q r2 v1))))) :
    oX6_far G (d + 1) [(.ref 200), (.int xa)] z v Q := by
  refine Ok_of (own := RX6) (by decide) rfl (Nat.le_of_ble_eq_true rfl) ?_
  show AW G (d + 1) 0 0 yX6_far cX6_far 8 (some .int) RX6 0 0 0 [some (.ref 200), some (.int xa), none, none, none, none, none, none] [] z v _
  refine AW_aload_n dX6_far_0 rfl rfl ?_
  refine AW_iload_n dX6_far_1 rfl rfl ?_
  refine AW_vI (as := [(.int xa)]) (st := []) dX6_far_2 (bI_200 B) (by decide) rfl mv_X6_askedPlayed mi_X6_askedPlayed ml_X6_303 (Nat.le_of_ble_eq_true rfl) rfl (Nat.le_refl 0) (Nat.le_refl 0) H (fun r2 v1 H => ?_)
  refine AW_istore_n (L' := [some (.ref 200), some (.int xa), some (.int r2), none, none, none, none, none]) dX6_far_5 rfl (by decide) rfl ?_
  refine AW_iload_n dX6_far_6 rfl rfl ?_
  refine AW_if_ge (tgt := 12) dX6_far_7 (by decide) (fun c => ?_) (fun c => ?_)
  · replace H := H.1 c
    refine AW_lconst (x := 0) dX6_far_12 (by decide) ?_
    refine AW_lstore_n (L' := [some (.ref 200), some (.int xa), some (.int r2), some (.long 0), none, none, none, none]) dX6_far_13 rfl (by decide) rfl ?_
    refine AW_iconst (x := 0) dX6_far_14 (by decide) ?_
    refine AW_istore (L' := [some (.ref 200), some (.int xa), some (.int r2), some (.long 0), none, some (.int 0), none, none]) dX6_far_15 (by decide) rfl ?_
    exact H
  · replace H := H.2 c
    refine AW_iload_n dX6_far_10 rfl rfl ?_
    exact AW_rI dX6_far_11 rfl rfl H
set_option maxRecDepth 100000 in
set_option maxHeartbeats 4000000 in
theorem vc_X6_far_17 {G : xG} {d : Nat} {z : xZ} {v : xS} {Q : Int32 → xS → Prop} (B : Base z)  {l1 : Int32} {l2 : Int32} {l3 : Int64} {l5 : Int32} 
    (H : (((v.1 200 8) ≤ l5 → (oX6_allHigh G d [(.ref 200)] z v (fun r2 v1 => (((lg_cmp l3 r2.toInt64) = 0 → aX6_far G (d + 1) 84 [some (.ref 200), some (.int l1), some (.int l2), some (.long l3), none, some (.int 0), some (.int 0), some (.int 0)] [] z v1 Q) ∧ (¬ (lg_cmp l3 r2.toInt64) = 0 → (oX6_meet G d [(.ref 200), (.int 4)] z v1 (fun r4 v3 => Q r4 v3))))))) ∧ (¬ (v.1 200 8) ≤ l5 → (oX6_rowAt G d [(.ref 200), (.int l1), (.int l5)] z v (fun r6 v5 => ((0 ≤ r6 → (oX6_rowAt G d [(.ref 200), (.int l1), (.int l5)] z v5 (fun r8 v7 => aX6_far G (d + 1) 17 [some (.ref 200), some (.int l1), some (.int l2), some (.long (l3 + r8.toInt64)), none, some (.int (l5 + 1)), none, none] [] z v7 Q))) ∧ (¬ 0 ≤ r6 → (oX6_meet G d [(.ref 200), (.int 3)] z v5 (fun r10 v9 => Q r10 v9))))))))) :
    aX6_far G (d + 1) 17 [some (.ref 200), some (.int l1), some (.int l2), some (.long l3), none, some (.int l5), none, none] [] z v Q := by
  refine AW_iload dX6_far_17 rfl ?_
  refine AW_aload_n dX6_far_19 rfl rfl ?_
  refine AW_getI dX6_far_20 (bI_200 B) fl_X6_151 ?_
  refine AW_icmp_ge (tgt := 59) dX6_far_23 (by decide) (fun c => ?_) (fun c => ?_)
  · replace H := H.1 c
    refine AW_lload_n dX6_far_59 rfl rfl ?_
    refine AW_aload_n dX6_far_60 rfl rfl ?_
    refine AW_vI (as := []) (st := [(.long l3)]) dX6_far_61 (bI_200 B) (by decide) rfl mv_X6_allHigh mi_X6_allHigh ml_X6_236 (Nat.le_of_ble_eq_true rfl) rfl (Nat.le_refl 0) (Nat.le_refl 0) H (fun r2 v1 H => ?_)
    refine AW_i2l dX6_far_64 ?_
    refine AW_lcmp dX6_far_65 ?_
    refine AW_if_eq (tgt := 75) dX6_far_66 (by decide) (fun c => ?_) (fun c => ?_)
    · replace H := H.1 c
      refine AW_iconst (x := 0) dX6_far_75 (by decide) ?_
      refine AW_istore (L' := [some (.ref 200), some (.int l1), some (.int l2), some (.long l3), none, some (.int 0), none, none]) dX6_far_76 (by decide) rfl ?_
      refine AW_iconst (x := 0) dX6_far_78 (by decide) ?_
      refine AW_istore (L' := [some (.ref 200), some (.int l1), some (.int l2), some (.long l3), none, some (.int 0), some (.int 0), none]) dX6_far_79 (by decide) rfl ?_
      refine AW_iconst (x := 0) dX6_far_81 (by decide) ?_
      refine AW_istore (L' := [some (.ref 200), some (.int l1), some (.int l2), some (.long l3), none, some (.int 0), some (.int 0), some (.int 0)]) dX6_far_82 (by decide) rfl ?_
      exact H
    · replace H := H.2 c
      refine AW_aload_n dX6_far_69 rfl rfl ?_
      refine AW_iconst (x := 4) dX6_far_70 (by decide) ?_
      refine AW_vI (as := [(.int 4)]) (st := []) dX6_far_71 (bI_200 B) (by decide) rfl mv_X6_meet mi_X6_meet ml_X6_100 (Nat.le_of_ble_eq_true rfl) rfl (Nat.le_refl 0) (Nat.le_refl 0) H (fun r4 v3 H => ?_)
      exact AW_rI dX6_far_74 rfl rfl H
  · replace H := H.2 c
    refine AW_aload_n dX6_far_26 rfl rfl ?_
    refine AW_iload_n dX6_far_27 rfl rfl ?_
    refine AW_iload dX6_far_28 rfl ?_
    refine AW_vI (as := [(.int l1), (.int l5)]) (st := []) dX6_far_30 (bI_200 B) (by decide) rfl mv_X6_rowAt mi_X6_rowAt ml_X6_114 (Nat.le_of_ble_eq_true rfl) rfl (Nat.le_refl 0) (Nat.le_refl 0) H (fun r6 v5 H => ?_)
    refine AW_if_ge (tgt := 42) dX6_far_33 (by decide) (fun c => ?_) (fun c => ?_)
    · replace H := H.1 c
      refine AW_lload_n dX6_far_42 rfl rfl ?_
      refine AW_aload_n dX6_far_43 rfl rfl ?_
      refine AW_iload_n dX6_far_44 rfl rfl ?_
      refine AW_iload dX6_far_45 rfl ?_
      refine AW_vI (as := [(.int l1), (.int l5)]) (st := [(.long l3)]) dX6_far_47 (bI_200 B) (by decide) rfl mv_X6_rowAt mi_X6_rowAt ml_X6_114 (Nat.le_of_ble_eq_true rfl) rfl (Nat.le_refl 0) (Nat.le_refl 0) H (fun r8 v7 H => ?_)
      refine AW_i2l dX6_far_50 ?_
      refine AW_ladd dX6_far_51 ?_
      refine AW_lstore_n (L' := [some (.ref 200), some (.int l1), some (.int l2), some (.long (l3 + r8.toInt64)), none, some (.int l5), none, none]) dX6_far_52 rfl (by decide) rfl ?_
      refine AW_iinc (x' := l5 + 1) (L' := [some (.ref 200), some (.int l1), some (.int l2), some (.long (l3 + r8.toInt64)), none, some (.int (l5 + 1)), none, none]) dX6_far_53 rfl rfl (by decide) rfl ?_
      refine AW_goto (tgt := 17) dX6_far_56 (by decide) ?_
      exact H
    · replace H := H.2 c
      refine AW_aload_n dX6_far_36 rfl rfl ?_
      refine AW_iconst (x := 3) dX6_far_37 (by decide) ?_
      refine AW_vI (as := [(.int 3)]) (st := []) dX6_far_38 (bI_200 B) (by decide) rfl mv_X6_meet mi_X6_meet ml_X6_100 (Nat.le_of_ble_eq_true rfl) rfl (Nat.le_refl 0) (Nat.le_refl 0) H (fun r10 v9 H => ?_)
      exact AW_rI dX6_far_41 rfl rfl H
set_option maxRecDepth 100000 in
set_option maxHeartbeats 4000000 in
theorem vc_X6_far_84 {G : xG} {d : Nat} {z : xZ} {v : xS} {Q : Int32 → xS → Prop} (B : Base z)  {l1 : Int32} {l2 : Int32} {l3 : Int64} {l5 : Int32} {l6 : Int32} {l7 : Int32} 
    (H : (((v.1 200 8) ≤ l7 → Q l6 v) ∧ (¬ (v.1 200 8) ≤ l7 → (vp_in l7 10 ∧ (oX6_rowAt G d [(.ref 200), (.int l1), (.int l7)] z v (fun r3 v2 => (oX6_size G d [(.int (l5 + ((v.1 210 l7.toNatClampNeg) - r3)))] z v2 (fun r5 v4 => aX6_far G (d + 1) 84 [some (.ref 200), some (.int l1), some (.int l2), some (.long l3), none, some (.int (l5 + ((v.1 210 l7.toNatClampNeg) - r3))), some (.int (l6 + r5)), some (.int (l7 + 1))] [] z v4 Q)))))))) :
    aX6_far G (d + 1) 84 [some (.ref 200), some (.int l1), some (.int l2), some (.long l3), none, some (.int l5), some (.int l6), some (.int l7)] [] z v Q := by
  refine AW_iload dX6_far_84 rfl ?_
  refine AW_aload_n dX6_far_86 rfl rfl ?_
  refine AW_getI dX6_far_87 (bI_200 B) fl_X6_151 ?_
  refine AW_icmp_ge (tgt := 129) dX6_far_90 (by decide) (fun c => ?_) (fun c => ?_)
  · replace H := H.1 c
    refine AW_iload dX6_far_129 rfl ?_
    exact AW_rI dX6_far_131 rfl rfl H
  · replace H := H.2 c
    refine AW_iload dX6_far_93 rfl ?_
    refine AW_aload_n dX6_far_95 rfl rfl ?_
    refine AW_getR dX6_far_96 (bI_200 B) fl_X6_28 (bR_200_10 B) ?_
    refine AW_iload dX6_far_99 rfl ?_
    have hi1 := H.1
    replace H := H.2
    refine AW_iald dX6_far_101 (bI_210 B) hi1 ?_
    refine AW_aload_n dX6_far_102 rfl rfl ?_
    refine AW_iload_n dX6_far_103 rfl rfl ?_
    refine AW_iload dX6_far_104 rfl ?_
    refine AW_vI (as := [(.int l1), (.int l7)]) (st := [(.int (v.1 210 l7.toNatClampNeg)), (.int l5)]) dX6_far_106 (bI_200 B) (by decide) rfl mv_X6_rowAt mi_X6_rowAt ml_X6_114 (Nat.le_of_ble_eq_true rfl) rfl (Nat.le_refl 0) (Nat.le_refl 0) H (fun r3 v2 H => ?_)
    refine AW_isub dX6_far_109 ?_
    refine AW_iadd dX6_far_110 ?_
    refine AW_istore (L' := [some (.ref 200), some (.int l1), some (.int l2), some (.long l3), none, some (.int (l5 + ((v.1 210 l7.toNatClampNeg) - r3))), some (.int l6), some (.int l7)]) dX6_far_111 (by decide) rfl ?_
    refine AW_iload dX6_far_113 rfl ?_
    refine AW_iload dX6_far_115 rfl ?_
    refine AW_sI (as := [(.int (l5 + ((v.1 210 l7.toNatClampNeg) - r3)))]) (st := [(.int l6)]) dX6_far_117 mv_X6_size ms_X6_size ml_X6_166 (Nat.le_of_ble_eq_true rfl) rfl (Nat.le_refl 0) (Nat.le_refl 0) H (fun r5 v4 H => ?_)
    refine AW_iadd dX6_far_120 ?_
    refine AW_istore (L' := [some (.ref 200), some (.int l1), some (.int l2), some (.long l3), none, some (.int (l5 + ((v.1 210 l7.toNatClampNeg) - r3))), some (.int (l6 + r5)), some (.int l7)]) dX6_far_121 (by decide) rfl ?_
    refine AW_iinc (x' := l7 + 1) (L' := [some (.ref 200), some (.int l1), some (.int l2), some (.long l3), none, some (.int (l5 + ((v.1 210 l7.toNatClampNeg) - r3))), some (.int (l6 + r5)), some (.int (l7 + 1))]) dX6_far_123 rfl rfl (by decide) rfl ?_
    refine AW_goto (tgt := 84) dX6_far_126 (by decide) ?_
    exact H
set_option maxRecDepth 100000 in
set_option maxHeartbeats 4000000 in
theorem vc_X6_season {G : xG} {d : Nat} {z : xZ} {v : xS} {Q : Int32 → xS → Prop} (B : Base z) {xa : Int32} {xb : Int32} 
    (H : (oX6_in G d [(.int xa), (.int 1), (.int 40)] z v (fun r2 v1 => ((r2 = 0 → Q (-1) v1) ∧ (¬ r2 = 0 → (oX6_in G d [(.int xb), (.int 1), (.int 2147483646)] z v1 (fun r4 v3 => ((¬ r4 = 0 → ((¬ (v3.1 200 8) = 0 → ((((v3.1 200 24) + xa) ≤ 60 → aX6_season G (d + 1) 56 [some (.ref 200), some (.int xa), some (.int xb), some (.long xb.toInt64), none, some (.int 0), some (.int 0)] [] z v3 Q) ∧ (¬ ((v3.1 200 24) + xa) ≤ 60 → Q (-2) v3))) ∧ ((v3.1 200 8) = 0 → Q (-4) v3))) ∧ (r4 = 0 → Q (-1) v3))))))))) :
    oX6_season G (d + 1) [(.ref 200), (.int xa), (.int xb)] z v Q := by
  refine Ok_of (own := RX6) (by decide) rfl (Nat.le_of_ble_eq_true rfl) ?_
  show AW G (d + 1) 0 0 yX6_season cX6_season 7 (some .int) RX6 0 0 0 [some (.ref 200), some (.int xa), some (.int xb), none, none, none, none] [] z v _
  refine AW_iload_n dX6_season_0 rfl rfl ?_
  refine AW_iconst (x := 1) dX6_season_1 (by decide) ?_
  refine AW_bipush (x := 40) dX6_season_2 (by decide) ?_
  refine AW_sI (as := [(.int xa), (.int 1), (.int 40)]) (st := []) dX6_season_4 mv_X6_in ms_X6_in ml_X6_92 (Nat.le_of_ble_eq_true rfl) rfl (Nat.le_refl 0) (Nat.le_refl 0) H (fun r2 v1 H => ?_)
  refine AW_if_eq (tgt := 21) dX6_season_7 (by decide) (fun c => ?_) (fun c => ?_)
  · replace H := H.1 c
    refine AW_iconst (x := (-1)) dX6_season_21 (by decide) ?_
    exact AW_rI dX6_season_22 rfl rfl H
  · replace H := H.2 c
    refine AW_iload_n dX6_season_10 rfl rfl ?_
    refine AW_iconst (x := 1) dX6_season_11 (by decide) ?_
    refine AW_ldcw dX6_season_12 ki_X6_313 ?_
    refine AW_sI (as := [(.int xb), (.int 1), (.int 2147483646)]) (st := []) dX6_season_15 mv_X6_in ms_X6_in ml_X6_92 (Nat.le_of_ble_eq_true rfl) rfl (Nat.le_refl 0) (Nat.le_refl 0) H (fun r4 v3 H => ?_)
    refine AW_if_ne (tgt := 23) dX6_season_18 (by decide) (fun c => ?_) (fun c => ?_)
    · replace H := H.1 c
      refine AW_aload_n dX6_season_23 rfl rfl ?_
      refine AW_getI dX6_season_24 (bI_200 B) fl_X6_151 ?_
      refine AW_if_ne (tgt := 33) dX6_season_27 (by decide) (fun c => ?_) (fun c => ?_)
      · replace H := H.1 c
        refine AW_aload_n dX6_season_33 rfl rfl ?_
        refine AW_getI dX6_season_34 (bI_200 B) fl_X6_160 ?_
        refine AW_iload_n dX6_season_37 rfl rfl ?_
        refine AW_iadd dX6_season_38 ?_
        refine AW_bipush (x := 60) dX6_season_39 (by decide) ?_
        refine AW_icmp_le (tgt := 47) dX6_season_41 (by decide) (fun c => ?_) (fun c => ?_)
        · replace H := H.1 c
          refine AW_iload_n dX6_season_47 rfl rfl ?_
          refine AW_i2l dX6_season_48 ?_
          refine AW_lstore_n (L' := [some (.ref 200), some (.int xa), some (.int xb), some (.long xb.toInt64), none, none, none]) dX6_season_49 rfl (by decide) rfl ?_
          refine AW_iconst (x := 0) dX6_season_50 (by decide) ?_
          refine AW_istore (L' := [some (.ref 200), some (.int xa), some (.int xb), some (.long xb.toInt64), none, some (.int 0), none]) dX6_season_51 (by decide) rfl ?_
          refine AW_iconst (x := 0) dX6_season_53 (by decide) ?_
          refine AW_istore (L' := [some (.ref 200), some (.int xa), some (.int xb), some (.long xb.toInt64), none, some (.int 0), some (.int 0)]) dX6_season_54 (by decide) rfl ?_
          exact H
        · replace H := H.2 c
          refine AW_bipush (x := (-2)) dX6_season_44 (by decide) ?_
          exact AW_rI dX6_season_46 rfl rfl H
      · replace H := H.2 c
        refine AW_bipush (x := (-4)) dX6_season_30 (by decide) ?_
        exact AW_rI dX6_season_32 rfl rfl H
    · replace H := H.2 c
      refine AW_iconst (x := (-1)) dX6_season_21 (by decide) ?_
      exact AW_rI dX6_season_22 rfl rfl H
set_option maxRecDepth 100000 in
set_option maxHeartbeats 4000000 in
theorem vc_X6_season_56 {G : xG} {d : Nat} {z : xZ} {v : xS} {Q : Int32 → xS → Prop} (B : Base z)  {l1 : Int32} {l2 : Int32} {l3 : Int64} {l5 : Int32} {l6 : Int32} 
    (H : ((l1 ≤ l6 → Q l5 v) ∧ (¬ l1 ≤ l6 → ((¬ (lg_cmp ((((48271 * l3) - (48271 * l3) / 2147483647 * 2147483647) / 128) - (((48271 * l3) - (48271 * l3) / 2147483647 * 2147483647) / 128) / 2 * 2) 1) = 0 → (∀ v1 : xS, v1 = wV v 200 15 0 → (oX6_programs G d [(.ref 200)] z v1 (fun r3 v2 => (¬ r3.toInt64 = 0 ∧ (oX6_goEvening G d [(.ref 200), (.int ((((48271 * l3) - (48271 * l3) / 2147483647 * 2147483647) - ((48271 * l3) - (48271 * l3) / 2147483647 * 2147483647) / r3.toInt64 * r3.toInt64).toInt32))] z v2 (fun r5 v4 => aX6_season G (d + 1) 56 [some (.ref 200), some (.int l1), some (.int l2), some (.long ((48271 * l3) - (48271 * l3) / 2147483647 * 2147483647)), none, some (.int (l5 + r5)), some (.int (l6 + 1))] [] z v4 Q))))))) ∧ ((lg_cmp ((((48271 * l3) - (48271 * l3) / 2147483647 * 2147483647) / 128) - (((48271 * l3) - (48271 * l3) / 2147483647 * 2147483647) / 128) / 2 * 2) 1) = 0 → (¬ ((v.1 200 8).toInt64) = 0 ∧ (∀ v6 : xS, v6 = wV v 200 15 (1 <<< ((((((48271 * l3) - (48271 * l3) / 2147483647 * 2147483647) / 256) - (((48271 * l3) - (48271 * l3) / 2147483647 * 2147483647) / 256) / ((v.1 200 8).toInt64) * ((v.1 200 8).toInt64)).toInt32) &&& 31)) → (oX6_programs G d [(.ref 200)] z v6 (fun r8 v7 => (¬ r8.toInt64 = 0 ∧ (oX6_goEvening G d [(.ref 200), (.int ((((48271 * l3) - (48271 * l3) / 2147483647 * 2147483647) - ((48271 * l3) - (48271 * l3) / 2147483647 * 2147483647) / r8.toInt64 * r8.toInt64).toInt32))] z v7 (fun r10 v9 => aX6_season G (d + 1) 56 [some (.ref 200), some (.int l1), some (.int l2), some (.long ((48271 * l3) - (48271 * l3) / 2147483647 * 2147483647)), none, some (.int (l5 + r10)), some (.int (l6 + 1))] [] z v9 Q)))))))))))) :
    aX6_season G (d + 1) 56 [some (.ref 200), some (.int l1), some (.int l2), some (.long l3), none, some (.int l5), some (.int l6)] [] z v Q := by
  refine AW_iload dX6_season_56 rfl ?_
  refine AW_iload_n dX6_season_58 rfl rfl ?_
  refine AW_icmp_ge (tgt := 131) dX6_season_59 (by decide) (fun c => ?_) (fun c => ?_)
  · replace H := H.1 c
    refine AW_iload dX6_season_131 rfl ?_
    exact AW_rI dX6_season_133 rfl rfl H
  · replace H := H.2 c
    refine AW_ldc2 dX6_season_62 kl_X6_314 ?_
    refine AW_lload_n dX6_season_65 rfl rfl ?_
    refine AW_lmul dX6_season_66 ?_
    refine AW_ldc2 dX6_season_67 kl_X6_316 ?_
    refine AW_lrem dX6_season_70 (by decide) ?_
    refine AW_lstore_n (L' := [some (.ref 200), some (.int l1), some (.int l2), some (.long ((48271 * l3) - (48271 * l3) / 2147483647 * 2147483647)), none, some (.int l5), some (.int l6)]) dX6_season_71 rfl (by decide) rfl ?_
    refine AW_aload_n dX6_season_72 rfl rfl ?_
    refine AW_lload_n dX6_season_73 rfl rfl ?_
    refine AW_ldc2 dX6_season_74 kl_X6_318 ?_
    refine AW_ldiv dX6_season_77 (by decide) ?_
    refine AW_ldc2 dX6_season_78 kl_X6_320 ?_
    refine AW_lrem dX6_season_81 (by decide) ?_
    refine AW_lconst (x := 1) dX6_season_82 (by decide) ?_
    refine AW_lcmp dX6_season_83 ?_
    refine AW_if_ne (tgt := 104) dX6_season_84 (by decide) (fun c => ?_) (fun c => ?_)
    · replace H := H.1 c
      refine AW_iconst (x := 0) dX6_season_104 (by decide) ?_
      refine AW_putIN dX6_season_105 (bI_200 B) fl_X6_157 rfl rfl rfl (fun v1 hv1 => ?_)
      replace H := H v1 hv1
      refine AW_iload dX6_season_108 rfl ?_
      refine AW_aload_n dX6_season_110 rfl rfl ?_
      refine AW_lload_n dX6_season_111 rfl rfl ?_
      refine AW_aload_n dX6_season_112 rfl rfl ?_
      refine AW_vI (as := []) (st := [(.long ((48271 * l3) - (48271 * l3) / 2147483647 * 2147483647)), (.ref 200), (.int l5)]) dX6_season_113 (bI_200 B) (by decide) rfl mv_X6_programs mi_X6_programs ml_X6_217 (Nat.le_of_ble_eq_true rfl) rfl (Nat.le_refl 0) (Nat.le_refl 0) H (fun r3 v2 H => ?_)
      refine AW_i2l dX6_season_116 ?_
      refine AW_lrem dX6_season_117 H.1 ?_
      replace H := H.2
      refine AW_l2i dX6_season_118 ?_
      refine AW_vI (as := [(.int ((((48271 * l3) - (48271 * l3) / 2147483647 * 2147483647) - ((48271 * l3) - (48271 * l3) / 2147483647 * 2147483647) / r3.toInt64 * r3.toInt64).toInt32))]) (st := [(.int l5)]) dX6_season_119 (bI_200 B) (by decide) rfl mv_X6_goEvening mi_X6_goEvening ml_X6_227 (Nat.le_of_ble_eq_true rfl) rfl (Nat.le_refl 0) (Nat.le_refl 0) H (fun r5 v4 H => ?_)
      refine AW_iadd dX6_season_122 ?_
      refine AW_istore (L' := [some (.ref 200), some (.int l1), some (.int l2), some (.long ((48271 * l3) - (48271 * l3) / 2147483647 * 2147483647)), none, some (.int (l5 + r5)), some (.int l6)]) dX6_season_123 (by decide) rfl ?_
      refine AW_iinc (x' := l6 + 1) (L' := [some (.ref 200), some (.int l1), some (.int l2), some (.long ((48271 * l3) - (48271 * l3) / 2147483647 * 2147483647)), none, some (.int (l5 + r5)), some (.int (l6 + 1))]) dX6_season_125 rfl rfl (by decide) rfl ?_
      refine AW_goto (tgt := 56) dX6_season_128 (by decide) ?_
      exact H
    · replace H := H.2 c
      refine AW_iconst (x := 1) dX6_season_87 (by decide) ?_
      refine AW_lload_n dX6_season_88 rfl rfl ?_
      refine AW_ldc2 dX6_season_89 kl_X6_322 ?_
      refine AW_ldiv dX6_season_92 (by decide) ?_
      refine AW_aload_n dX6_season_93 rfl rfl ?_
      refine AW_getI dX6_season_94 (bI_200 B) fl_X6_151 ?_
      refine AW_i2l dX6_season_97 ?_
      refine AW_lrem dX6_season_98 H.1 ?_
      replace H := H.2
      refine AW_l2i dX6_season_99 ?_
      refine AW_ishl dX6_season_100 ?_
      refine AW_goto (tgt := 105) dX6_season_101 (by decide) ?_
      refine AW_putIN dX6_season_105 (bI_200 B) fl_X6_157 rfl rfl rfl (fun v6 hv6 => ?_)
      replace H := H v6 hv6
      refine AW_iload dX6_season_108 rfl ?_
      refine AW_aload_n dX6_season_110 rfl rfl ?_
      refine AW_lload_n dX6_season_111 rfl rfl ?_
      refine AW_aload_n dX6_season_112 rfl rfl ?_
      refine AW_vI (as := []) (st := [(.long ((48271 * l3) - (48271 * l3) / 2147483647 * 2147483647)), (.ref 200), (.int l5)]) dX6_season_113 (bI_200 B) (by decide) rfl mv_X6_programs mi_X6_programs ml_X6_217 (Nat.le_of_ble_eq_true rfl) rfl (Nat.le_refl 0) (Nat.le_refl 0) H (fun r8 v7 H => ?_)
      refine AW_i2l dX6_season_116 ?_
      refine AW_lrem dX6_season_117 H.1 ?_
      replace H := H.2
      refine AW_l2i dX6_season_118 ?_
      refine AW_vI (as := [(.int ((((48271 * l3) - (48271 * l3) / 2147483647 * 2147483647) - ((48271 * l3) - (48271 * l3) / 2147483647 * 2147483647) / r8.toInt64 * r8.toInt64).toInt32))]) (st := [(.int l5)]) dX6_season_119 (bI_200 B) (by decide) rfl mv_X6_goEvening mi_X6_goEvening ml_X6_227 (Nat.le_of_ble_eq_true rfl) rfl (Nat.le_refl 0) (Nat.le_refl 0) H (fun r10 v9 H => ?_)
      refine AW_iadd dX6_season_122 ?_
      refine AW_istore (L' := [some (.ref 200), some (.int l1), some (.int l2), some (.long ((48271 * l3) - (48271 * l3) / 2147483647 * 2147483647)), none, some (.int (l5 + r10)), some (.int l6)]) dX6_season_123 (by decide) rfl ?_
      refine AW_iinc (x' := l6 + 1) (L' := [some (.ref 200), some (.int l1), some (.int l2), some (.long ((48271 * l3) - (48271 * l3) / 2147483647 * 2147483647)), none, some (.int (l5 + r10)), some (.int (l6 + 1))]) dX6_season_125 rfl rfl (by decide) rfl ?_
      refine AW_goto (tgt := 56) dX6_season_128 (by decide) ?_
      exact H
set_option maxRecDepth 100000 in
set_option maxHeartbeats 4000000 in
theorem vc_X6_asked {G : xG} {d : Nat} {z : xZ} {v : xS} {Q : Int32 → xS → Prop} (B : Base z)  
    (H : Q (v.1 200 2) v) :
    oX6_asked G (d + 1) [(.ref 200)] z v Q := by
  refine Ok_of (own := RX6) (by decide) rfl (Nat.le_of_ble_eq_true rfl) ?_
  show AW G (d + 1) 0 0 yX6_asked cX6_asked 1 (some .int) RX6 0 0 0 [some (.ref 200)] [] z v _
  refine AW_aload_n dX6_asked_0 rfl rfl ?_
  refine AW_getI dX6_asked_1 (bI_200 B) fl_X6_89 ?_
  exact AW_rI dX6_asked_4 rfl rfl H
set_option maxRecDepth 100000 in
set_option maxHeartbeats 4000000 in
theorem vc_X6_divisor {G : xG} {d : Nat} {z : xZ} {v : xS} {Q : Int32 → xS → Prop} (B : Base z) {xa : Int32} {xb : Int32} 
    (H : aX6_divisor G (d + 1) 4 [some (.int xa), some (.int xb), some (.int xa), some (.int xb), none] [] z v Q) :
    oX6_divisor G (d + 1) [(.int xa), (.int xb)] z v Q := by
  refine Ok_of (own := RX6) (by decide) rfl (Nat.le_of_ble_eq_true rfl) ?_
  show AW G (d + 1) 0 0 yX6_divisor cX6_divisor 5 (some .int) RX6 0 0 0 [some (.int xa), some (.int xb), none, none, none] [] z v _
  refine AW_iload_n dX6_divisor_0 rfl rfl ?_
  refine AW_istore_n (L' := [some (.int xa), some (.int xb), some (.int xa), none, none]) dX6_divisor_1 rfl (by decide) rfl ?_
  refine AW_iload_n dX6_divisor_2 rfl rfl ?_
  refine AW_istore_n (L' := [some (.int xa), some (.int xb), some (.int xa), some (.int xb), none]) dX6_divisor_3 rfl (by decide) rfl ?_
  exact H
set_option maxRecDepth 100000 in
set_option maxHeartbeats 4000000 in
theorem vc_X6_divisor_4 {G : xG} {d : Nat} {z : xZ} {v : xS} {Q : Int32 → xS → Prop} (B : Base z)  {l0 : Int32} {l1 : Int32} {l2 : Int32} {l3 : Int32} 
    (H : ((l3 = 0 → Q l2 v) ∧ (¬ l3 = 0 → (¬ l3 = 0 ∧ aX6_divisor G (d + 1) 4 [some (.int l0), some (.int l1), some (.int l3), some (.int (l2 - l2 / l3 * l3)), none] [] z v Q)))) :
    aX6_divisor G (d + 1) 4 [some (.int l0), some (.int l1), some (.int l2), some (.int l3), none] [] z v Q := by
  refine AW_iload_n dX6_divisor_4 rfl rfl ?_
  refine AW_if_eq (tgt := 21) dX6_divisor_5 (by decide) (fun c => ?_) (fun c => ?_)
  · replace H := H.1 c
    refine AW_iload_n dX6_divisor_21 rfl rfl ?_
    exact AW_rI dX6_divisor_22 rfl rfl H
  · replace H := H.2 c
    refine AW_iload_n dX6_divisor_8 rfl rfl ?_
    refine AW_iload_n dX6_divisor_9 rfl rfl ?_
    refine AW_irem dX6_divisor_10 H.1 ?_
    replace H := H.2
    refine AW_istore (L' := [some (.int l0), some (.int l1), some (.int l2), some (.int l3), some (.int (l2 - l2 / l3 * l3))]) dX6_divisor_11 (by decide) rfl ?_
    refine AW_iload_n dX6_divisor_13 rfl rfl ?_
    refine AW_istore_n (L' := [some (.int l0), some (.int l1), some (.int l3), some (.int l3), some (.int (l2 - l2 / l3 * l3))]) dX6_divisor_14 rfl (by decide) rfl ?_
    refine AW_iload dX6_divisor_15 rfl ?_
    refine AW_istore_n (L' := [some (.int l0), some (.int l1), some (.int l3), some (.int (l2 - l2 / l3 * l3)), some (.int (l2 - l2 / l3 * l3))]) dX6_divisor_17 rfl (by decide) rfl ?_
    refine AW_goto (tgt := 4) dX6_divisor_18 (by decide) ?_
    refine AW_sub (L' := [some (.int l0), some (.int l1), some (.int l3), some (.int (l2 - l2 / l3 * l3)), none]) (show xle _ _ from ⟨rfl, ⟨rfl, ⟨rfl, ⟨rfl, trivial⟩⟩⟩⟩) ?_
    exact H
set_option maxRecDepth 100000 in
set_option maxHeartbeats 4000000 in
theorem vc_X6_upper {G : xG} {d : Nat} {z : xZ} {v : xS} {Q : Int64 → xS → Prop} (B : Base z)  
    (H : (oX6_allHigh G d [(.ref 200)] z v (fun r2 v1 => ((¬ r2 = 0 → (oX6_highestNow G d [(.ref 200)] z v1 (fun r4 v3 => (oX6_highestNow G d [(.ref 200)] z v3 (fun r6 v5 => (oX6_divisor G d [(.int r6), (.int r2)] z v5 (fun r8 v7 => (¬ r8 = 0 ∧ Q ((r4 / r8).toInt64) v7)))))))) ∧ (r2 = 0 → Q 0 v1))))) :
    oX6_upper G (d + 1) [(.ref 200)] z v Q := by
  refine Ok_of (own := RX6) (by decide) rfl (Nat.le_of_ble_eq_true rfl) ?_
  show AW G (d + 1) 0 0 yX6_upper cX6_upper 2 (some .long) RX6 0 0 0 [some (.ref 200), none] [] z v _
  refine AW_aload_n dX6_upper_0 rfl rfl ?_
  refine AW_vI (as := []) (st := []) dX6_upper_1 (bI_200 B) (by decide) rfl mv_X6_allHigh mi_X6_allHigh ml_X6_236 (Nat.le_of_ble_eq_true rfl) rfl (Nat.le_refl 0) (Nat.le_refl 0) H (fun r2 v1 H => ?_)
  refine AW_istore_n (L' := [some (.ref 200), some (.int r2)]) dX6_upper_4 rfl (by decide) rfl ?_
  refine AW_iload_n dX6_upper_5 rfl rfl ?_
  refine AW_if_ne (tgt := 13) dX6_upper_6 (by decide) (fun c => ?_) (fun c => ?_)
  · replace H := H.1 c
    refine AW_aload_n dX6_upper_13 rfl rfl ?_
    refine AW_vI (as := []) (st := []) dX6_upper_14 (bI_200 B) (by decide) rfl mv_X6_highestNow mi_X6_highestNow ml_X6_248 (Nat.le_of_ble_eq_true rfl) rfl (Nat.le_refl 0) (Nat.le_refl 0) H (fun r4 v3 H => ?_)
    refine AW_aload_n dX6_upper_17 rfl rfl ?_
    refine AW_vI (as := []) (st := [(.int r4)]) dX6_upper_18 (bI_200 B) (by decide) rfl mv_X6_highestNow mi_X6_highestNow ml_X6_248 (Nat.le_of_ble_eq_true rfl) rfl (Nat.le_refl 0) (Nat.le_refl 0) H (fun r6 v5 H => ?_)
    refine AW_iload_n dX6_upper_21 rfl rfl ?_
    refine AW_sI (as := [(.int r6), (.int r2)]) (st := [(.int r4)]) dX6_upper_22 mv_X6_divisor ms_X6_divisor ml_X6_324 (Nat.le_of_ble_eq_true rfl) rfl (Nat.le_refl 0) (Nat.le_refl 0) H (fun r8 v7 H => ?_)
    refine AW_idiv dX6_upper_25 H.1 ?_
    replace H := H.2
    refine AW_i2l dX6_upper_26 ?_
    exact AW_rL dX6_upper_27 rfl H
  · replace H := H.2 c
    refine AW_lconst (x := 0) dX6_upper_9 (by decide) ?_
    refine AW_goto (tgt := 27) dX6_upper_10 (by decide) ?_
    exact AW_rL dX6_upper_27 rfl H
set_option maxRecDepth 100000 in
set_option maxHeartbeats 4000000 in
theorem vc_X6_lower {G : xG} {d : Nat} {z : xZ} {v : xS} {Q : Int64 → xS → Prop} (B : Base z)  
    (H : (oX6_allHigh G d [(.ref 200)] z v (fun r2 v1 => ((¬ r2 = 0 → (oX6_highestNow G d [(.ref 200)] z v1 (fun r4 v3 => (oX6_divisor G d [(.int r4), (.int r2)] z v3 (fun r6 v5 => (¬ r6 = 0 ∧ Q ((r2 / r6).toInt64) v5)))))) ∧ (r2 = 0 → Q 1 v1))))) :
    oX6_lower G (d + 1) [(.ref 200)] z v Q := by
  refine Ok_of (own := RX6) (by decide) rfl (Nat.le_of_ble_eq_true rfl) ?_
  show AW G (d + 1) 0 0 yX6_lower cX6_lower 2 (some .long) RX6 0 0 0 [some (.ref 200), none] [] z v _
  refine AW_aload_n dX6_lower_0 rfl rfl ?_
  refine AW_vI (as := []) (st := []) dX6_lower_1 (bI_200 B) (by decide) rfl mv_X6_allHigh mi_X6_allHigh ml_X6_236 (Nat.le_of_ble_eq_true rfl) rfl (Nat.le_refl 0) (Nat.le_refl 0) H (fun r2 v1 H => ?_)
  refine AW_istore_n (L' := [some (.ref 200), some (.int r2)]) dX6_lower_4 rfl (by decide) rfl ?_
  refine AW_iload_n dX6_lower_5 rfl rfl ?_
  refine AW_if_ne (tgt := 13) dX6_lower_6 (by decide) (fun c => ?_) (fun c => ?_)
  · replace H := H.1 c
    refine AW_iload_n dX6_lower_13 rfl rfl ?_
    refine AW_aload_n dX6_lower_14 rfl rfl ?_
    refine AW_vI (as := []) (st := [(.int r2)]) dX6_lower_15 (bI_200 B) (by decide) rfl mv_X6_highestNow mi_X6_highestNow ml_X6_248 (Nat.le_of_ble_eq_true rfl) rfl (Nat.le_refl 0) (Nat.le_refl 0) H (fun r4 v3 H => ?_)
    refine AW_iload_n dX6_lower_18 rfl rfl ?_
    refine AW_sI (as := [(.int r4), (.int r2)]) (st := [(.int r2)]) dX6_lower_19 mv_X6_divisor ms_X6_divisor ml_X6_324 (Nat.le_of_ble_eq_true rfl) rfl (Nat.le_refl 0) (Nat.le_refl 0) H (fun r6 v5 H => ?_)
    refine AW_idiv dX6_lower_22 H.1 ?_
    replace H := H.2
    refine AW_i2l dX6_lower_23 ?_
    exact AW_rL dX6_lower_24 rfl H
  · replace H := H.2 c
    refine AW_lconst (x := 1) dX6_lower_9 (by decide) ?_
    refine AW_goto (tgt := 24) dX6_lower_10 (by decide) ?_
    exact AW_rL dX6_lower_24 rfl H
set_option maxRecDepth 100000 in
set_option maxHeartbeats 4000000 in
theorem vc_X6_tells {G : xG} {d : Nat} {z : xZ} {v : xS} {Q : Int32 → xS → Prop} (B : Base z) {xa : Int32} 
    (H : aX6_tells G (d + 1) 4 [some (.ref 200), some (.int xa), some (.int 0), some (.int 0)] [] z v Q) :
    oX6_tells G (d + 1) [(.ref 200), (.int xa)] z v Q := by
  refine Ok_of (own := RX6) (by decide) rfl (Nat.le_of_ble_eq_true rfl) ?_
  show AW G (d + 1) 0 0 yX6_tells cX6_tells 4 (some .int) RX6 0 0 0 [some (.ref 200), some (.int xa), none, none] [] z v _
  refine AW_iconst (x := 0) dX6_tells_0 (by decide) ?_
  refine AW_istore_n (L' := [some (.ref 200), some (.int xa), some (.int 0), none]) dX6_tells_1 rfl (by decide) rfl ?_
  refine AW_iconst (x := 0) dX6_tells_2 (by decide) ?_
  refine AW_istore_n (L' := [some (.ref 200), some (.int xa), some (.int 0), some (.int 0)]) dX6_tells_3 rfl (by decide) rfl ?_
  exact H
set_option maxRecDepth 100000 in
set_option maxHeartbeats 4000000 in
theorem vc_X6_tells_4 {G : xG} {d : Nat} {z : xZ} {v : xS} {Q : Int32 → xS → Prop} (B : Base z)  {l1 : Int32} {l2 : Int32} {l3 : Int32} 
    (H : ((6 ≤ l3 → (((l1.toInt < 0 ∨ 4 < l1.toInt) → Q l2 v) ∧ (l1 = 0 → Q (v.1 200 8) v) ∧ (l1 = 1 → Q (v.1 200 9) v) ∧ (l1 = 2 → Q (v.1 200 24) v) ∧ (l1 = 3 → ((¬ (v.1 200 8) = 0 → (oX6_programs G d [(.ref 200)] z v (fun r2 v1 => Q r2 v1))) ∧ ((v.1 200 8) = 0 → Q 0 v))) ∧ (l1 = 4 → (oX6_sizeOf G d [(.int (v.1 200 15))] z v (fun r4 v3 => Q r4 v3))))) ∧ (¬ 6 ≤ l3 → ((¬ l1 = 5 → ((¬ l1 = 6 → ((¬ l1 = 7 → ((¬ l1 = 8 → aX6_tells G (d + 1) 4 [some (.ref 200), some (.int l1), some (.int (l2 + 0)), some (.int (l3 + 1))] [] z v Q) ∧ (l1 = 8 → ((3 ≤ l3 → aX6_tells G (d + 1) 4 [some (.ref 200), some (.int l1), some (.int (l2 + 0)), some (.int (l3 + 1))] [] z v Q) ∧ (¬ 3 ≤ l3 → (vp_in (920 * l3) 2760 ∧ (((v.1 227 (920 * l3).toNatClampNeg) = (-9) → aX6_tells G (d + 1) 4 [some (.ref 200), some (.int l1), some (.int (l2 + 0)), some (.int (l3 + 1))] [] z v Q) ∧ (¬ (v.1 227 (920 * l3).toNatClampNeg) = (-9) → aX6_tells G (d + 1) 4 [some (.ref 200), some (.int l1), some (.int (l2 + 1)), some (.int (l3 + 1))] [] z v Q)))))))) ∧ (l1 = 7 → ((4 ≤ l3 → ((¬ l1 = 8 → aX6_tells G (d + 1) 4 [some (.ref 200), some (.int l1), some (.int (l2 + 0)), some (.int (l3 + 1))] [] z v Q) ∧ (l1 = 8 → ((3 ≤ l3 → aX6_tells G (d + 1) 4 [some (.ref 200), some (.int l1), some (.int (l2 + 0)), some (.int (l3 + 1))] [] z v Q) ∧ (¬ 3 ≤ l3 → (vp_in (920 * l3) 2760 ∧ (((v.1 227 (920 * l3).toNatClampNeg) = (-9) → aX6_tells G (d + 1) 4 [some (.ref 200), some (.int l1), some (.int (l2 + 0)), some (.int (l3 + 1))] [] z v Q) ∧ (¬ (v.1 227 (920 * l3).toNatClampNeg) = (-9) → aX6_tells G (d + 1) 4 [some (.ref 200), some (.int l1), some (.int (l2 + 1)), some (.int (l3 + 1))] [] z v Q)))))))) ∧ (¬ 4 ≤ l3 → (vp_in l3 4 ∧ ((0 ≤ (v.1 206 l3.toNatClampNeg) → aX6_tells G (d + 1) 4 [some (.ref 200), some (.int l1), some (.int (l2 + 1)), some (.int (l3 + 1))] [] z v Q) ∧ (¬ 0 ≤ (v.1 206 l3.toNatClampNeg) → ((¬ l1 = 8 → aX6_tells G (d + 1) 4 [some (.ref 200), some (.int l1), some (.int (l2 + 0)), some (.int (l3 + 1))] [] z v Q) ∧ (l1 = 8 → ((3 ≤ l3 → aX6_tells G (d + 1) 4 [some (.ref 200), some (.int l1), some (.int (l2 + 0)), some (.int (l3 + 1))] [] z v Q) ∧ (¬ 3 ≤ l3 → (vp_in (920 * l3) 2760 ∧ (((v.1 227 (920 * l3).toNatClampNeg) = (-9) → aX6_tells G (d + 1) 4 [some (.ref 200), some (.int l1), some (.int (l2 + 0)), some (.int (l3 + 1))] [] z v Q) ∧ (¬ (v.1 227 (920 * l3).toNatClampNeg) = (-9) → aX6_tells G (d + 1) 4 [some (.ref 200), some (.int l1), some (.int (l2 + 1)), some (.int (l3 + 1))] [] z v Q))))))))))))))) ∧ (l1 = 6 → (vp_in l3 6 ∧ ((0 ≤ (v.1 203 l3.toNatClampNeg) → aX6_tells G (d + 1) 4 [some (.ref 200), some (.int l1), some (.int (l2 + 1)), some (.int (l3 + 1))] [] z v Q) ∧ (¬ 0 ≤ (v.1 203 l3.toNatClampNeg) → ((¬ l1 = 7 → ((¬ l1 = 8 → aX6_tells G (d + 1) 4 [some (.ref 200), some (.int l1), some (.int (l2 + 0)), some (.int (l3 + 1))] [] z v Q) ∧ (l1 = 8 → ((3 ≤ l3 → aX6_tells G (d + 1) 4 [some (.ref 200), some (.int l1), some (.int (l2 + 0)), some (.int (l3 + 1))] [] z v Q) ∧ (¬ 3 ≤ l3 → (vp_in (920 * l3) 2760 ∧ (((v.1 227 (920 * l3).toNatClampNeg) = (-9) → aX6_tells G (d + 1) 4 [some (.ref 200), some (.int l1), some (.int (l2 + 0)), some (.int (l3 + 1))] [] z v Q) ∧ (¬ (v.1 227 (920 * l3).toNatClampNeg) = (-9) → aX6_tells G (d + 1) 4 [some (.ref 200), some (.int l1), some (.int (l2 + 1)), some (.int (l3 + 1))] [] z v Q)))))))) ∧ (l1 = 7 → ((4 ≤ l3 → ((¬ l1 = 8 → aX6_tells G (d + 1) 4 [some (.ref 200), some (.int l1), some (.int (l2 + 0)), some (.int (l3 + 1))] [] z v Q) ∧ (l1 = 8 → ((3 ≤ l3 → aX6_tells G (d + 1) 4 [some (.ref 200), some (.int l1), some (.int (l2 + 0)), some (.int (l3 + 1))] [] z v Q) ∧ (¬ 3 ≤ l3 → (vp_in (920 * l3) 2760 ∧ (((v.1 227 (920 * l3).toNatClampNeg) = (-9) → aX6_tells G (d + 1) 4 [some (.ref 200), some (.int l1), some (.int (l2 + 0)), some (.int (l3 + 1))] [] z v Q) ∧ (¬ (v.1 227 (920 * l3).toNatClampNeg) = (-9) → aX6_tells G (d + 1) 4 [some (.ref 200), some (.int l1), some (.int (l2 + 1)), some (.int (l3 + 1))] [] z v Q)))))))) ∧ (¬ 4 ≤ l3 → (vp_in l3 4 ∧ ((0 ≤ (v.1 206 l3.toNatClampNeg) → aX6_tells G (d + 1) 4 [some (.ref 200), some (.int l1), some (.int (l2 + 1)), some (.int (l3 + 1))] [] z v Q) ∧ (¬ 0 ≤ (v.1 206 l3.toNatClampNeg) → ((¬ l1 = 8 → aX6_tells G (d + 1) 4 [some (.ref 200), some (.int l1), some (.int (l2 + 0)), some (.int (l3 + 1))] [] z v Q) ∧ (l1 = 8 → ((3 ≤ l3 → aX6_tells G (d + 1) 4 [some (.ref 200), some (.int l1), some (.int (l2 + 0)), some (.int (l3 + 1))] [] z v Q) ∧ (¬ 3 ≤ l3 → (vp_in (920 * l3) 2760 ∧ (((v.1 227 (920 * l3).toNatClampNeg) = (-9) → aX6_tells G (d + 1) 4 [some (.ref 200), some (.int l1), some (.int (l2 + 0)), some (.int (l3 + 1))] [] z v Q) ∧ (¬ (v.1 227 (920 * l3).toNatClampNeg) = (-9) → aX6_tells G (d + 1) 4 [some (.ref 200), some (.int l1), some (.int (l2 + 1)), some (.int (l3 + 1))] [] z v Q)))))))))))))))))))) ∧ (l1 = 5 → (((v.1 200 9) ≤ l3 → ((¬ l1 = 6 → ((¬ l1 = 7 → ((¬ l1 = 8 → aX6_tells G (d + 1) 4 [some (.ref 200), some (.int l1), some (.int (l2 + 0)), some (.int (l3 + 1))] [] z v Q) ∧ (l1 = 8 → ((3 ≤ l3 → aX6_tells G (d + 1) 4 [some (.ref 200), some (.int l1), some (.int (l2 + 0)), some (.int (l3 + 1))] [] z v Q) ∧ (¬ 3 ≤ l3 → (vp_in (920 * l3) 2760 ∧ (((v.1 227 (920 * l3).toNatClampNeg) = (-9) → aX6_tells G (d + 1) 4 [some (.ref 200), some (.int l1), some (.int (l2 + 0)), some (.int (l3 + 1))] [] z v Q) ∧ (¬ (v.1 227 (920 * l3).toNatClampNeg) = (-9) → aX6_tells G (d + 1) 4 [some (.ref 200), some (.int l1), some (.int (l2 + 1)), some (.int (l3 + 1))] [] z v Q)))))))) ∧ (l1 = 7 → ((4 ≤ l3 → ((¬ l1 = 8 → aX6_tells G (d + 1) 4 [some (.ref 200), some (.int l1), some (.int (l2 + 0)), some (.int (l3 + 1))] [] z v Q) ∧ (l1 = 8 → ((3 ≤ l3 → aX6_tells G (d + 1) 4 [some (.ref 200), some (.int l1), some (.int (l2 + 0)), some (.int (l3 + 1))] [] z v Q) ∧ (¬ 3 ≤ l3 → (vp_in (920 * l3) 2760 ∧ (((v.1 227 (920 * l3).toNatClampNeg) = (-9) → aX6_tells G (d + 1) 4 [some (.ref 200), some (.int l1), some (.int (l2 + 0)), some (.int (l3 + 1))] [] z v Q) ∧ (¬ (v.1 227 (920 * l3).toNatClampNeg) = (-9) → aX6_tells G (d + 1) 4 [some (.ref 200), some (.int l1), some (.int (l2 + 1)), some (.int (l3 + 1))] [] z v Q)))))))) ∧ (¬ 4 ≤ l3 → (vp_in l3 4 ∧ ((0 ≤ (v.1 206 l3.toNatClampNeg) → aX6_tells G (d + 1) 4 [some (.ref 200), some (.int l1), some (.int (l2 + 1)), some (.int (l3 + 1))] [] z v Q) ∧ (¬ 0 ≤ (v.1 206 l3.toNatClampNeg) → ((¬ l1 = 8 → aX6_tells G (d + 1) 4 [some (.ref 200), some (.int l1), some (.int (l2 + 0)), some (.int (l3 + 1))] [] z v Q) ∧ (l1 = 8 → ((3 ≤ l3 → aX6_tells G (d + 1) 4 [some (.ref 200), some (.int l1), some (.int (l2 + 0)), some (.int (l3 + 1))] [] z v Q) ∧ (¬ 3 ≤ l3 → (vp_in (920 * l3) 2760 ∧ (((v.1 227 (920 * l3).toNatClampNeg) = (-9) → aX6_tells G (d + 1) 4 [some (.ref 200), some (.int l1), some (.int (l2 + 0)), some (.int (l3 + 1))] [] z v Q) ∧ (¬ (v.1 227 (920 * l3).toNatClampNeg) = (-9) → aX6_tells G (d + 1) 4 [some (.ref 200), some (.int l1), some (.int (l2 + 1)), some (.int (l3 + 1))] [] z v Q))))))))))))))) ∧ (l1 = 6 → (vp_in l3 6 ∧ ((0 ≤ (v.1 203 l3.toNatClampNeg) → aX6_tells G (d + 1) 4 [some (.ref 200), some (.int l1), some (.int (l2 + 1)), some (.int (l3 + 1))] [] z v Q) ∧ (¬ 0 ≤ (v.1 203 l3.toNatClampNeg) → ((¬ l1 = 7 → ((¬ l1 = 8 → aX6_tells G (d + 1) 4 [some (.ref 200), some (.int l1), some (.int (l2 + 0)), some (.int (l3 + 1))] [] z v Q) ∧ (l1 = 8 → ((3 ≤ l3 → aX6_tells G (d + 1) 4 [some (.ref 200), some (.int l1), some (.int (l2 + 0)), some (.int (l3 + 1))] [] z v Q) ∧ (¬ 3 ≤ l3 → (vp_in (920 * l3) 2760 ∧ (((v.1 227 (920 * l3).toNatClampNeg) = (-9) → aX6_tells G (d + 1) 4 [some (.ref 200), some (.int l1), some (.int (l2 + 0)), some (.int (l3 + 1))] [] z v Q) ∧ (¬ (v.1 227 (920 * l3).toNatClampNeg) = (-9) → aX6_tells G (d + 1) 4 [some (.ref 200), some (.int l1), some (.int (l2 + 1)), some (.int (l3 + 1))] [] z v Q)))))))) ∧ (l1 = 7 → ((4 ≤ l3 → ((¬ l1 = 8 → aX6_tells G (d + 1) 4 [some (.ref 200), some (.int l1), some (.int (l2 + 0)), some (.int (l3 + 1))] [] z v Q) ∧ (l1 = 8 → ((3 ≤ l3 → aX6_tells G (d + 1) 4 [some (.ref 200), some (.int l1), some (.int (l2 + 0)), some (.int (l3 + 1))] [] z v Q) ∧ (¬ 3 ≤ l3 → (vp_in (920 * l3) 2760 ∧ (((v.1 227 (920 * l3).toNatClampNeg) = (-9) → aX6_tells G (d + 1) 4 [some (.ref 200), some (.int l1), some (.int (l2 + 0)), some (.int (l3 + 1))] [] z v Q) ∧ (¬ (v.1 227 (920 * l3).toNatClampNeg) = (-9) → aX6_tells G (d + 1) 4 [some (.ref 200), some (.int l1), some (.int (l2 + 1)), some (.int (l3 + 1))] [] z v Q)))))))) ∧ (¬ 4 ≤ l3 → (vp_in l3 4 ∧ ((0 ≤ (v.1 206 l3.toNatClampNeg) → aX6_tells G (d + 1) 4 [some (.ref 200), some (.int l1), some (.int (l2 + 1)), some (.int (l3 + 1))] [] z v Q) ∧ (¬ 0 ≤ (v.1 206 l3.toNatClampNeg) → ((¬ l1 = 8 → aX6_tells G (d + 1) 4 [some (.ref 200), some (.int l1), some (.int (l2 + 0)), some (.int (l3 + 1))] [] z v Q) ∧ (l1 = 8 → ((3 ≤ l3 → aX6_tells G (d + 1) 4 [some (.ref 200), some (.int l1), some (.int (l2 + 0)), some (.int (l3 + 1))] [] z v Q) ∧ (¬ 3 ≤ l3 → (vp_in (920 * l3) 2760 ∧ (((v.1 227 (920 * l3).toNatClampNeg) = (-9) → aX6_tells G (d + 1) 4 [some (.ref 200), some (.int l1), some (.int (l2 + 0)), some (.int (l3 + 1))] [] z v Q) ∧ (¬ (v.1 227 (920 * l3).toNatClampNeg) = (-9) → aX6_tells G (d + 1) 4 [some (.ref 200), some (.int l1), some (.int (l2 + 1)), some (.int (l3 + 1))] [] z v Q)))))))))))))))))))) ∧ (¬ (v.1 200 9) ≤ l3 → (oX6_isA G d [(.ref 200), (.int l3), (.int 1)] z v (fun r24 v23 => ((¬ r24 = 0 → aX6_tells G (d + 1) 4 [some (.ref 200), some (.int l1), some (.int (l2 + 1)), some (.int (l3 + 1))] [] z v23 Q) ∧ (r24 = 0 → ((¬ l1 = 6 → ((¬ l1 = 7 → ((¬ l1 = 8 → aX6_tells G (d + 1) 4 [some (.ref 200), some (.int l1), some (.int (l2 + 0)), some (.int (l3 + 1))] [] z v23 Q) ∧ (l1 = 8 → ((3 ≤ l3 → aX6_tells G (d + 1) 4 [some (.ref 200), some (.int l1), some (.int (l2 + 0)), some (.int (l3 + 1))] [] z v23 Q) ∧ (¬ 3 ≤ l3 → (vp_in (920 * l3) 2760 ∧ (((v23.1 227 (920 * l3).toNatClampNeg) = (-9) → aX6_tells G (d + 1) 4 [some (.ref 200), some (.int l1), some (.int (l2 + 0)), some (.int (l3 + 1))] [] z v23 Q) ∧ (¬ (v23.1 227 (920 * l3).toNatClampNeg) = (-9) → aX6_tells G (d + 1) 4 [some (.ref 200), some (.int l1), some (.int (l2 + 1)), some (.int (l3 + 1))] [] z v23 Q)))))))) ∧ (l1 = 7 → ((4 ≤ l3 → ((¬ l1 = 8 → aX6_tells G (d + 1) 4 [some (.ref 200), some (.int l1), some (.int (l2 + 0)), some (.int (l3 + 1))] [] z v23 Q) ∧ (l1 = 8 → ((3 ≤ l3 → aX6_tells G (d + 1) 4 [some (.ref 200), some (.int l1), some (.int (l2 + 0)), some (.int (l3 + 1))] [] z v23 Q) ∧ (¬ 3 ≤ l3 → (vp_in (920 * l3) 2760 ∧ (((v23.1 227 (920 * l3).toNatClampNeg) = (-9) → aX6_tells G (d + 1) 4 [some (.ref 200), some (.int l1), some (.int (l2 + 0)), some (.int (l3 + 1))] [] z v23 Q) ∧ (¬ (v23.1 227 (920 * l3).toNatClampNeg) = (-9) → aX6_tells G (d + 1) 4 [some (.ref 200), some (.int l1), some (.int (l2 + 1)), some (.int (l3 + 1))] [] z v23 Q)))))))) ∧ (¬ 4 ≤ l3 → (vp_in l3 4 ∧ ((0 ≤ (v23.1 206 l3.toNatClampNeg) → aX6_tells G (d + 1) 4 [some (.ref 200), some (.int l1), some (.int (l2 + 1)), some (.int (l3 + 1))] [] z v23 Q) ∧ (¬ 0 ≤ (v23.1 206 l3.toNatClampNeg) → ((¬ l1 = 8 → aX6_tells G (d + 1) 4 [some (.ref 200), some (.int l1), some (.int (l2 + 0)), some (.int (l3 + 1))] [] z v23 Q) ∧ (l1 = 8 → ((3 ≤ l3 → aX6_tells G (d + 1) 4 [some (.ref 200), some (.int l1), some (.int (l2 + 0)), some (.int (l3 + 1))] [] z v23 Q) ∧ (¬ 3 ≤ l3 → (vp_in (920 * l3) 2760 ∧ (((v23.1 227 (920 * l3).toNatClampNeg) = (-9) → aX6_tells G (d + 1) 4 [some (.ref 200), some (.int l1), some (.int (l2 + 0)), some (.int (l3 + 1))] [] z v23 Q) ∧ (¬ (v23.1 227 (920 * l3).toNatClampNeg) = (-9) → aX6_tells G (d + 1) 4 [some (.ref 200), some (.int l1), some (.int (l2 + 1)), some (.int (l3 + 1))] [] z v23 Q))))))))))))))) ∧ (l1 = 6 → (vp_in l3 6 ∧ ((0 ≤ (v23.1 203 l3.toNatClampNeg) → aX6_tells G (d + 1) 4 [some (.ref 200), some (.int l1), some (.int (l2 + 1)), some (.int (l3 + 1))] [] z v23 Q) ∧ (¬ 0 ≤ (v23.1 203 l3.toNatClampNeg) → ((¬ l1 = 7 → ((¬ l1 = 8 → aX6_tells G (d + 1) 4 [some (.ref 200), some (.int l1), some (.int (l2 + 0)), some (.int (l3 + 1))] [] z v23 Q) ∧ (l1 = 8 → ((3 ≤ l3 → aX6_tells G (d + 1) 4 [some (.ref 200), some (.int l1), some (.int (l2 + 0)), some (.int (l3 + 1))] [] z v23 Q) ∧ (¬ 3 ≤ l3 → (vp_in (920 * l3) 2760 ∧ (((v23.1 227 (920 * l3).toNatClampNeg) = (-9) → aX6_tells G (d + 1) 4 [some (.ref 200), some (.int l1), some (.int (l2 + 0)), some (.int (l3 + 1))] [] z v23 Q) ∧ (¬ (v23.1 227 (920 * l3).toNatClampNeg) = (-9) → aX6_tells G (d + 1) 4 [some (.ref 200), some (.int l1), some (.int (l2 + 1)), some (.int (l3 + 1))] [] z v23 Q)))))))) ∧ (l1 = 7 → ((4 ≤ l3 → ((¬ l1 = 8 → aX6_tells G (d + 1) 4 [some (.ref 200), some (.int l1), some (.int (l2 + 0)), some (.int (l3 + 1))] [] z v23 Q) ∧ (l1 = 8 → ((3 ≤ l3 → aX6_tells G (d + 1) 4 [some (.ref 200), some (.int l1), some (.int (l2 + 0)), some (.int (l3 + 1))] [] z v23 Q) ∧ (¬ 3 ≤ l3 → (vp_in (920 * l3) 2760 ∧ (((v23.1 227 (920 * l3).toNatClampNeg) = (-9) → aX6_tells G (d + 1) 4 [some (.ref 200), some (.int l1), some (.int (l2 + 0)), some (.int (l3 + 1))] [] z v23 Q) ∧ (¬ (v23.1 227 (920 * l3).toNatClampNeg) = (-9) → aX6_tells G (d + 1) 4 [some (.ref 200), some (.int l1), some (.int (l2 + 1)), some (.int (l3 + 1))] [] z v23 Q)))))))) ∧ (¬ 4 ≤ l3 → (vp_in l3 4 ∧ ((0 ≤ (v23.1 206 l3.toNatClampNeg) → aX6_tells G (d + 1) 4 [some (.ref 200), some (.int l1), some (.int (l2 + 1)), some (.int (l3 + 1))] [] z v23 Q) ∧ (¬ 0 ≤ (v23.1 206 l3.toNatClampNeg) → ((¬ l1 = 8 → aX6_tells G (d + 1) 4 [some (.ref 200), some (.int l1), some (.int (l2 + 0)), some (.int (l3 + 1))] [] z v23 Q) ∧ (l1 = 8 → ((3 ≤ l3 → aX6_tells G (d + 1) 4 [some (.ref 200), some (.int l1), some (.int (l2 + 0)), some (.int (l3 + 1))] [] z v23 Q) ∧ (¬ 3 ≤ l3 → (vp_in (920 * l3) 2760 ∧ (((v23.1 227 (920 * l3).toNatClampNeg) = (-9) → aX6_tells G (d + 1) 4 [some (.ref 200), some (.int l1), some (.int (l2 + 0)), some (.int (l3 + 1))] [] z v23 Q) ∧ (¬ (v23.1 227 (920 * l3).toNatClampNeg) = (-9) → aX6_tells G (d + 1) 4 [some (.ref 200), some (.int l1), some (.int (l2 + 1)), some (.int (l3 + 1))] [] z v23 Q)))))))))))))))))))))))))))))) :
    aX6_tells G (d + 1) 4 [some (.ref 200), some (.int l1), some (.int l2), some (.int l3)] [] z v Q := by
  refine AW_iload_n dX6_tells_4 rfl rfl ?_
  refine AW_bipush (x := 6) dX6_tells_5 (by decide) ?_
  refine AW_icmp_ge (tgt := 107) dX6_tells_7 (by decide) (fun c => ?_) (fun c => ?_)
  · replace H := H.1 c
    refine AW_iload_n dX6_tells_107 rfl rfl ?_
    by_cases cz : l1.toInt < 0 ∨ 4 < l1.toInt
    · refine AW_tableOut (tgt := 183) dX6_tells_108 cz (by decide) ?_
      replace H := H.1 cz
      refine AW_iload_n dX6_tells_183 rfl rfl ?_
      exact AW_rI dX6_tells_184 rfl rfl H
    · have cy : l1 = 0 ∨ l1 = 1 ∨ l1 = 2 ∨ l1 = 3 ∨ l1 = 4 := xsw_0_4 cz
      replace H := H.2
      rcases cy with cy | cy
      · replace H := H.1 cy
        refine AW_tableIn (off := 36) (tgt := 144) dX6_tells_108 (by rw [cy]; decide) (by rw [cy]; decide) (by rw [cy]; decide) (by decide) ?_
        refine AW_aload_n dX6_tells_144 rfl rfl ?_
        refine AW_getI dX6_tells_145 (bI_200 B) fl_X6_151 ?_
        exact AW_rI dX6_tells_148 rfl rfl H
      rcases cy with cy | cy
      · replace H := H.2.1 cy
        refine AW_tableIn (off := 41) (tgt := 149) dX6_tells_108 (by rw [cy]; decide) (by rw [cy]; decide) (by rw [cy]; decide) (by decide) ?_
        refine AW_aload_n dX6_tells_149 rfl rfl ?_
        refine AW_getI dX6_tells_150 (bI_200 B) fl_X6_154 ?_
        exact AW_rI dX6_tells_153 rfl rfl H
      rcases cy with cy | cy
      · replace H := H.2.2.1 cy
        refine AW_tableIn (off := 46) (tgt := 154) dX6_tells_108 (by rw [cy]; decide) (by rw [cy]; decide) (by rw [cy]; decide) (by decide) ?_
        refine AW_aload_n dX6_tells_154 rfl rfl ?_
        refine AW_getI dX6_tells_155 (bI_200 B) fl_X6_160 ?_
        exact AW_rI dX6_tells_158 rfl rfl H
      rcases cy with cy | cy
      · replace H := H.2.2.2.1 cy
        refine AW_tableIn (off := 51) (tgt := 159) dX6_tells_108 (by rw [cy]; decide) (by rw [cy]; decide) (by rw [cy]; decide) (by decide) ?_
        refine AW_aload_n dX6_tells_159 rfl rfl ?_
        refine AW_getI dX6_tells_160 (bI_200 B) fl_X6_151 ?_
        refine AW_if_ne (tgt := 170) dX6_tells_163 (by decide) (fun c => ?_) (fun c => ?_)
        · replace H := H.1 c
          refine AW_aload_n dX6_tells_170 rfl rfl ?_
          refine AW_vI (as := []) (st := []) dX6_tells_171 (bI_200 B) (by decide) rfl mv_X6_programs mi_X6_programs ml_X6_217 (Nat.le_of_ble_eq_true rfl) rfl (Nat.le_refl 0) (Nat.le_refl 0) H (fun r2 v1 H => ?_)
          exact AW_rI dX6_tells_174 rfl rfl H
        · replace H := H.2 c
          refine AW_iconst (x := 0) dX6_tells_166 (by decide) ?_
          refine AW_goto (tgt := 174) dX6_tells_167 (by decide) ?_
          exact AW_rI dX6_tells_174 rfl rfl H
      · replace H := H.2.2.2.2 cy
        refine AW_tableIn (off := 67) (tgt := 175) dX6_tells_108 (by rw [cy]; decide) (by rw [cy]; decide) (by rw [cy]; decide) (by decide) ?_
        refine AW_aload_n dX6_tells_175 rfl rfl ?_
        refine AW_getI dX6_tells_176 (bI_200 B) fl_X6_157 ?_
        refine AW_sI (as := [(.int (v.1 200 15))]) (st := []) dX6_tells_179 mv_X6_sizeOf ms_X6_sizeOf ml_X6_327 (Nat.le_of_ble_eq_true rfl) rfl (Nat.le_refl 0) (Nat.le_refl 0) H (fun r4 v3 H => ?_)
        exact AW_rI dX6_tells_182 rfl rfl H
  · replace H := H.2 c
    refine AW_iload_n dX6_tells_10 rfl rfl ?_
    refine AW_iload_n dX6_tells_11 rfl rfl ?_
    refine AW_iconst (x := 5) dX6_tells_12 (by decide) ?_
    refine AW_icmp_ne (tgt := 33) dX6_tells_13 (by decide) (fun c => ?_) (fun c => ?_)
    · replace H := H.1 c
      refine AW_iload_n dX6_tells_33 rfl rfl ?_
      refine AW_bipush (x := 6) dX6_tells_34 (by decide) ?_
      refine AW_icmp_ne (tgt := 48) dX6_tells_36 (by decide) (fun c => ?_) (fun c => ?_)
      · replace H := H.1 c
        refine AW_iload_n dX6_tells_48 rfl rfl ?_
        refine AW_bipush (x := 7) dX6_tells_49 (by decide) ?_
        refine AW_icmp_ne (tgt := 68) dX6_tells_51 (by decide) (fun c => ?_) (fun c => ?_)
        · replace H := H.1 c
          refine AW_iload_n dX6_tells_68 rfl rfl ?_
          refine AW_bipush (x := 8) dX6_tells_69 (by decide) ?_
          refine AW_icmp_ne (tgt := 98) dX6_tells_71 (by decide) (fun c => ?_) (fun c => ?_)
          · replace H := H.1 c
            refine AW_iconst (x := 0) dX6_tells_98 (by decide) ?_
            refine AW_iadd dX6_tells_99 ?_
            refine AW_istore_n (L' := [some (.ref 200), some (.int l1), some (.int (l2 + 0)), some (.int l3)]) dX6_tells_100 rfl (by decide) rfl ?_
            refine AW_iinc (x' := l3 + 1) (L' := [some (.ref 200), some (.int l1), some (.int (l2 + 0)), some (.int (l3 + 1))]) dX6_tells_101 rfl rfl (by decide) rfl ?_
            refine AW_goto (tgt := 4) dX6_tells_104 (by decide) ?_
            exact H
          · replace H := H.2 c
            refine AW_iload_n dX6_tells_74 rfl rfl ?_
            refine AW_iconst (x := 3) dX6_tells_75 (by decide) ?_
            refine AW_icmp_ge (tgt := 98) dX6_tells_76 (by decide) (fun c => ?_) (fun c => ?_)
            · replace H := H.1 c
              refine AW_iconst (x := 0) dX6_tells_98 (by decide) ?_
              refine AW_iadd dX6_tells_99 ?_
              refine AW_istore_n (L' := [some (.ref 200), some (.int l1), some (.int (l2 + 0)), some (.int l3)]) dX6_tells_100 rfl (by decide) rfl ?_
              refine AW_iinc (x' := l3 + 1) (L' := [some (.ref 200), some (.int l1), some (.int (l2 + 0)), some (.int (l3 + 1))]) dX6_tells_101 rfl rfl (by decide) rfl ?_
              refine AW_goto (tgt := 4) dX6_tells_104 (by decide) ?_
              exact H
            · replace H := H.2 c
              refine AW_aload_n dX6_tells_79 rfl rfl ?_
              refine AW_getR dX6_tells_80 (bI_200 B) fl_X6_64 (bR_200_27 B) ?_
              refine AW_sipush (x := 920) dX6_tells_83 (by decide) ?_
              refine AW_iload_n dX6_tells_86 rfl rfl ?_
              refine AW_imul dX6_tells_87 ?_
              have hi5 := H.1
              replace H := H.2
              refine AW_iald dX6_tells_88 (bI_227 B) hi5 ?_
              refine AW_bipush (x := (-9)) dX6_tells_89 (by decide) ?_
              refine AW_icmp_eq (tgt := 98) dX6_tells_91 (by decide) (fun c => ?_) (fun c => ?_)
              · replace H := H.1 c
                refine AW_iconst (x := 0) dX6_tells_98 (by decide) ?_
                refine AW_iadd dX6_tells_99 ?_
                refine AW_istore_n (L' := [some (.ref 200), some (.int l1), some (.int (l2 + 0)), some (.int l3)]) dX6_tells_100 rfl (by decide) rfl ?_
                refine AW_iinc (x' := l3 + 1) (L' := [some (.ref 200), some (.int l1), some (.int (l2 + 0)), some (.int (l3 + 1))]) dX6_tells_101 rfl rfl (by decide) rfl ?_
                refine AW_goto (tgt := 4) dX6_tells_104 (by decide) ?_
                exact H
              · replace H := H.2 c
                refine AW_iconst (x := 1) dX6_tells_94 (by decide) ?_
                refine AW_goto (tgt := 99) dX6_tells_95 (by decide) ?_
                refine AW_iadd dX6_tells_99 ?_
                refine AW_istore_n (L' := [some (.ref 200), some (.int l1), some (.int (l2 + 1)), some (.int l3)]) dX6_tells_100 rfl (by decide) rfl ?_
                refine AW_iinc (x' := l3 + 1) (L' := [some (.ref 200), some (.int l1), some (.int (l2 + 1)), some (.int (l3 + 1))]) dX6_tells_101 rfl rfl (by decide) rfl ?_
                refine AW_goto (tgt := 4) dX6_tells_104 (by decide) ?_
                exact H
        · replace H := H.2 c
          refine AW_iload_n dX6_tells_54 rfl rfl ?_
          refine AW_iconst (x := 4) dX6_tells_55 (by decide) ?_
          refine AW_icmp_ge (tgt := 68) dX6_tells_56 (by decide) (fun c => ?_) (fun c => ?_)
          · replace H := H.1 c
            refine AW_iload_n dX6_tells_68 rfl rfl ?_
            refine AW_bipush (x := 8) dX6_tells_69 (by decide) ?_
            refine AW_icmp_ne (tgt := 98) dX6_tells_71 (by decide) (fun c => ?_) (fun c => ?_)
            · replace H := H.1 c
              refine AW_iconst (x := 0) dX6_tells_98 (by decide) ?_
              refine AW_iadd dX6_tells_99 ?_
              refine AW_istore_n (L' := [some (.ref 200), some (.int l1), some (.int (l2 + 0)), some (.int l3)]) dX6_tells_100 rfl (by decide) rfl ?_
              refine AW_iinc (x' := l3 + 1) (L' := [some (.ref 200), some (.int l1), some (.int (l2 + 0)), some (.int (l3 + 1))]) dX6_tells_101 rfl rfl (by decide) rfl ?_
              refine AW_goto (tgt := 4) dX6_tells_104 (by decide) ?_
              exact H
            · replace H := H.2 c
              refine AW_iload_n dX6_tells_74 rfl rfl ?_
              refine AW_iconst (x := 3) dX6_tells_75 (by decide) ?_
              refine AW_icmp_ge (tgt := 98) dX6_tells_76 (by decide) (fun c => ?_) (fun c => ?_)
              · replace H := H.1 c
                refine AW_iconst (x := 0) dX6_tells_98 (by decide) ?_
                refine AW_iadd dX6_tells_99 ?_
                refine AW_istore_n (L' := [some (.ref 200), some (.int l1), some (.int (l2 + 0)), some (.int l3)]) dX6_tells_100 rfl (by decide) rfl ?_
                refine AW_iinc (x' := l3 + 1) (L' := [some (.ref 200), some (.int l1), some (.int (l2 + 0)), some (.int (l3 + 1))]) dX6_tells_101 rfl rfl (by decide) rfl ?_
                refine AW_goto (tgt := 4) dX6_tells_104 (by decide) ?_
                exact H
              · replace H := H.2 c
                refine AW_aload_n dX6_tells_79 rfl rfl ?_
                refine AW_getR dX6_tells_80 (bI_200 B) fl_X6_64 (bR_200_27 B) ?_
                refine AW_sipush (x := 920) dX6_tells_83 (by decide) ?_
                refine AW_iload_n dX6_tells_86 rfl rfl ?_
                refine AW_imul dX6_tells_87 ?_
                have hi6 := H.1
                replace H := H.2
                refine AW_iald dX6_tells_88 (bI_227 B) hi6 ?_
                refine AW_bipush (x := (-9)) dX6_tells_89 (by decide) ?_
                refine AW_icmp_eq (tgt := 98) dX6_tells_91 (by decide) (fun c => ?_) (fun c => ?_)
                · replace H := H.1 c
                  refine AW_iconst (x := 0) dX6_tells_98 (by decide) ?_
                  refine AW_iadd dX6_tells_99 ?_
                  refine AW_istore_n (L' := [some (.ref 200), some (.int l1), some (.int (l2 + 0)), some (.int l3)]) dX6_tells_100 rfl (by decide) rfl ?_
                  refine AW_iinc (x' := l3 + 1) (L' := [some (.ref 200), some (.int l1), some (.int (l2 + 0)), some (.int (l3 + 1))]) dX6_tells_101 rfl rfl (by decide) rfl ?_
                  refine AW_goto (tgt := 4) dX6_tells_104 (by decide) ?_
                  exact H
                · replace H := H.2 c
                  refine AW_iconst (x := 1) dX6_tells_94 (by decide) ?_
                  refine AW_goto (tgt := 99) dX6_tells_95 (by decide) ?_
                  refine AW_iadd dX6_tells_99 ?_
                  refine AW_istore_n (L' := [some (.ref 200), some (.int l1), some (.int (l2 + 1)), some (.int l3)]) dX6_tells_100 rfl (by decide) rfl ?_
                  refine AW_iinc (x' := l3 + 1) (L' := [some (.ref 200), some (.int l1), some (.int (l2 + 1)), some (.int (l3 + 1))]) dX6_tells_101 rfl rfl (by decide) rfl ?_
                  refine AW_goto (tgt := 4) dX6_tells_104 (by decide) ?_
                  exact H
          · replace H := H.2 c
            refine AW_aload_n dX6_tells_59 rfl rfl ?_
            refine AW_getR dX6_tells_60 (bI_200 B) fl_X6_22 (bR_200_6 B) ?_
            refine AW_iload_n dX6_tells_63 rfl rfl ?_
            have hi7 := H.1
            replace H := H.2
            refine AW_iald dX6_tells_64 (bI_206 B) hi7 ?_
            refine AW_if_ge (tgt := 94) dX6_tells_65 (by decide) (fun c => ?_) (fun c => ?_)
            · replace H := H.1 c
              refine AW_iconst (x := 1) dX6_tells_94 (by decide) ?_
              refine AW_goto (tgt := 99) dX6_tells_95 (by decide) ?_
              refine AW_iadd dX6_tells_99 ?_
              refine AW_istore_n (L' := [some (.ref 200), some (.int l1), some (.int (l2 + 1)), some (.int l3)]) dX6_tells_100 rfl (by decide) rfl ?_
              refine AW_iinc (x' := l3 + 1) (L' := [some (.ref 200), some (.int l1), some (.int (l2 + 1)), some (.int (l3 + 1))]) dX6_tells_101 rfl rfl (by decide) rfl ?_
              refine AW_goto (tgt := 4) dX6_tells_104 (by decide) ?_
              exact H
            · replace H := H.2 c
              refine AW_iload_n dX6_tells_68 rfl rfl ?_
              refine AW_bipush (x := 8) dX6_tells_69 (by decide) ?_
              refine AW_icmp_ne (tgt := 98) dX6_tells_71 (by decide) (fun c => ?_) (fun c => ?_)
              · replace H := H.1 c
                refine AW_iconst (x := 0) dX6_tells_98 (by decide) ?_
                refine AW_iadd dX6_tells_99 ?_
                refine AW_istore_n (L' := [some (.ref 200), some (.int l1), some (.int (l2 + 0)), some (.int l3)]) dX6_tells_100 rfl (by decide) rfl ?_
                refine AW_iinc (x' := l3 + 1) (L' := [some (.ref 200), some (.int l1), some (.int (l2 + 0)), some (.int (l3 + 1))]) dX6_tells_101 rfl rfl (by decide) rfl ?_
                refine AW_goto (tgt := 4) dX6_tells_104 (by decide) ?_
                exact H
              · replace H := H.2 c
                refine AW_iload_n dX6_tells_74 rfl rfl ?_
                refine AW_iconst (x := 3) dX6_tells_75 (by decide) ?_
                refine AW_icmp_ge (tgt := 98) dX6_tells_76 (by decide) (fun c => ?_) (fun c => ?_)
                · replace H := H.1 c
                  refine AW_iconst (x := 0) dX6_tells_98 (by decide) ?_
                  refine AW_iadd dX6_tells_99 ?_
                  refine AW_istore_n (L' := [some (.ref 200), some (.int l1), some (.int (l2 + 0)), some (.int l3)]) dX6_tells_100 rfl (by decide) rfl ?_
                  refine AW_iinc (x' := l3 + 1) (L' := [some (.ref 200), some (.int l1), some (.int (l2 + 0)), some (.int (l3 + 1))]) dX6_tells_101 rfl rfl (by decide) rfl ?_
                  refine AW_goto (tgt := 4) dX6_tells_104 (by decide) ?_
                  exact H
                · replace H := H.2 c
                  refine AW_aload_n dX6_tells_79 rfl rfl ?_
                  refine AW_getR dX6_tells_80 (bI_200 B) fl_X6_64 (bR_200_27 B) ?_
                  refine AW_sipush (x := 920) dX6_tells_83 (by decide) ?_
                  refine AW_iload_n dX6_tells_86 rfl rfl ?_
                  refine AW_imul dX6_tells_87 ?_
                  have hi8 := H.1
                  replace H := H.2
                  refine AW_iald dX6_tells_88 (bI_227 B) hi8 ?_
                  refine AW_bipush (x := (-9)) dX6_tells_89 (by decide) ?_
                  refine AW_icmp_eq (tgt := 98) dX6_tells_91 (by decide) (fun c => ?_) (fun c => ?_)
                  · replace H := H.1 c
                    refine AW_iconst (x := 0) dX6_tells_98 (by decide) ?_
                    refine AW_iadd dX6_tells_99 ?_
                    refine AW_istore_n (L' := [some (.ref 200), some (.int l1), some (.int (l2 + 0)), some (.int l3)]) dX6_tells_100 rfl (by decide) rfl ?_
                    refine AW_iinc (x' := l3 + 1) (L' := [some (.ref 200), some (.int l1), some (.int (l2 + 0)), some (.int (l3 + 1))]) dX6_tells_101 rfl rfl (by decide) rfl ?_
                    refine AW_goto (tgt := 4) dX6_tells_104 (by decide) ?_
                    exact H
                  · replace H := H.2 c
                    refine AW_iconst (x := 1) dX6_tells_94 (by decide) ?_
                    refine AW_goto (tgt := 99) dX6_tells_95 (by decide) ?_
                    refine AW_iadd dX6_tells_99 ?_
                    refine AW_istore_n (L' := [some (.ref 200), some (.int l1), some (.int (l2 + 1)), some (.int l3)]) dX6_tells_100 rfl (by decide) rfl ?_
                    refine AW_iinc (x' := l3 + 1) (L' := [some (.ref 200), some (.int l1), some (.int (l2 + 1)), some (.int (l3 + 1))]) dX6_tells_101 rfl rfl (by decide) rfl ?_
                    refine AW_goto (tgt := 4) dX6_tells_104 (by decide) ?_
                    exact H
      · replace H := H.2 c
        refine AW_aload_n dX6_tells_39 rfl rfl ?_
        refine AW_getR dX6_tells_40 (bI_200 B) fl_X6_13 (bR_200_3 B) ?_
        refine AW_iload_n dX6_tells_43 rfl rfl ?_
        have hi9 := H.1
        replace H := H.2
        refine AW_iald dX6_tells_44 (bI_203 B) hi9 ?_
        refine AW_if_ge (tgt := 94) dX6_tells_45 (by decide) (fun c => ?_) (fun c => ?_)
        · replace H := H.1 c
          refine AW_iconst (x := 1) dX6_tells_94 (by decide) ?_
          refine AW_goto (tgt := 99) dX6_tells_95 (by decide) ?_
          refine AW_iadd dX6_tells_99 ?_
          refine AW_istore_n (L' := [some (.ref 200), some (.int l1), some (.int (l2 + 1)), some (.int l3)]) dX6_tells_100 rfl (by decide) rfl ?_
          refine AW_iinc (x' := l3 + 1) (L' := [some (.ref 200), some (.int l1), some (.int (l2 + 1)), some (.int (l3 + 1))]) dX6_tells_101 rfl rfl (by decide) rfl ?_
          refine AW_goto (tgt := 4) dX6_tells_104 (by decide) ?_
          exact H
        · replace H := H.2 c
          refine AW_iload_n dX6_tells_48 rfl rfl ?_
          refine AW_bipush (x := 7) dX6_tells_49 (by decide) ?_
          refine AW_icmp_ne (tgt := 68) dX6_tells_51 (by decide) (fun c => ?_) (fun c => ?_)
          · replace H := H.1 c
            refine AW_iload_n dX6_tells_68 rfl rfl ?_
            refine AW_bipush (x := 8) dX6_tells_69 (by decide) ?_
            refine AW_icmp_ne (tgt := 98) dX6_tells_71 (by decide) (fun c => ?_) (fun c => ?_)
            · replace H := H.1 c
              refine AW_iconst (x := 0) dX6_tells_98 (by decide) ?_
              refine AW_iadd dX6_tells_99 ?_
              refine AW_istore_n (L' := [some (.ref 200), some (.int l1), some (.int (l2 + 0)), some (.int l3)]) dX6_tells_100 rfl (by decide) rfl ?_
              refine AW_iinc (x' := l3 + 1) (L' := [some (.ref 200), some (.int l1), some (.int (l2 + 0)), some (.int (l3 + 1))]) dX6_tells_101 rfl rfl (by decide) rfl ?_
              refine AW_goto (tgt := 4) dX6_tells_104 (by decide) ?_
              exact H
            · replace H := H.2 c
              refine AW_iload_n dX6_tells_74 rfl rfl ?_
              refine AW_iconst (x := 3) dX6_tells_75 (by decide) ?_
              refine AW_icmp_ge (tgt := 98) dX6_tells_76 (by decide) (fun c => ?_) (fun c => ?_)
              · replace H := H.1 c
                refine AW_iconst (x := 0) dX6_tells_98 (by decide) ?_
                refine AW_iadd dX6_tells_99 ?_
                refine AW_istore_n (L' := [some (.ref 200), some (.int l1), some (.int (l2 + 0)), some (.int l3)]) dX6_tells_100 rfl (by decide) rfl ?_
                refine AW_iinc (x' := l3 + 1) (L' := [some (.ref 200), some (.int l1), some (.int (l2 + 0)), some (.int (l3 + 1))]) dX6_tells_101 rfl rfl (by decide) rfl ?_
                refine AW_goto (tgt := 4) dX6_tells_104 (by decide) ?_
                exact H
              · replace H := H.2 c
                refine AW_aload_n dX6_tells_79 rfl rfl ?_
                refine AW_getR dX6_tells_80 (bI_200 B) fl_X6_64 (bR_200_27 B) ?_
                refine AW_sipush (x := 920) dX6_tells_83 (by decide) ?_
                refine AW_iload_n dX6_tells_86 rfl rfl ?_
                refine AW_imul dX6_tells_87 ?_
                have hi10 := H.1
                replace H := H.2
                refine AW_iald dX6_tells_88 (bI_227 B) hi10 ?_
                refine AW_bipush (x := (-9)) dX6_tells_89 (by decide) ?_
                refine AW_icmp_eq (tgt := 98) dX6_tells_91 (by decide) (fun c => ?_) (fun c => ?_)
                · replace H := H.1 c
                  refine AW_iconst (x := 0) dX6_tells_98 (by decide) ?_
                  refine AW_iadd dX6_tells_99 ?_
                  refine AW_istore_n (L' := [some (.ref 200), some (.int l1), some (.int (l2 + 0)), some (.int l3)]) dX6_tells_100 rfl (by decide) rfl ?_
                  refine AW_iinc (x' := l3 + 1) (L' := [some (.ref 200), some (.int l1), some (.int (l2 + 0)), some (.int (l3 + 1))]) dX6_tells_101 rfl rfl (by decide) rfl ?_
                  refine AW_goto (tgt := 4) dX6_tells_104 (by decide) ?_
                  exact H
                · replace H := H.2 c
                  refine AW_iconst (x := 1) dX6_tells_94 (by decide) ?_
                  refine AW_goto (tgt := 99) dX6_tells_95 (by decide) ?_
                  refine AW_iadd dX6_tells_99 ?_
                  refine AW_istore_n (L' := [some (.ref 200), some (.int l1), some (.int (l2 + 1)), some (.int l3)]) dX6_tells_100 rfl (by decide) rfl ?_
                  refine AW_iinc (x' := l3 + 1) (L' := [some (.ref 200), some (.int l1), some (.int (l2 + 1)), some (.int (l3 + 1))]) dX6_tells_101 rfl rfl (by decide) rfl ?_
                  refine AW_goto (tgt := 4) dX6_tells_104 (by decide) ?_
                  exact H
          · replace H := H.2 c
            refine AW_iload_n dX6_tells_54 rfl rfl ?_
            refine AW_iconst (x := 4) dX6_tells_55 (by decide) ?_
            refine AW_icmp_ge (tgt := 68) dX6_tells_56 (by decide) (fun c => ?_) (fun c => ?_)
            · replace H := H.1 c
              refine AW_iload_n dX6_tells_68 rfl rfl ?_
              refine AW_bipush (x := 8) dX6_tells_69 (by decide) ?_
              refine AW_icmp_ne (tgt := 98) dX6_tells_71 (by decide) (fun c => ?_) (fun c => ?_)
              · replace H := H.1 c
                refine AW_iconst (x := 0) dX6_tells_98 (by decide) ?_
                refine AW_iadd dX6_tells_99 ?_
                refine AW_istore_n (L' := [some (.ref 200), some (.int l1), some (.int (l2 + 0)), some (.int l3)]) dX6_tells_100 rfl (by decide) rfl ?_
                refine AW_iinc (x' := l3 + 1) (L' := [some (.ref 200), some (.int l1), some (.int (l2 + 0)), some (.int (l3 + 1))]) dX6_tells_101 rfl rfl (by decide) rfl ?_
                refine AW_goto (tgt := 4) dX6_tells_104 (by decide) ?_
                exact H
              · replace H := H.2 c
                refine AW_iload_n dX6_tells_74 rfl rfl ?_
                refine AW_iconst (x := 3) dX6_tells_75 (by decide) ?_
                refine AW_icmp_ge (tgt := 98) dX6_tells_76 (by decide) (fun c => ?_) (fun c => ?_)
                · replace H := H.1 c
                  refine AW_iconst (x := 0) dX6_tells_98 (by decide) ?_
                  refine AW_iadd dX6_tells_99 ?_
                  refine AW_istore_n (L' := [some (.ref 200), some (.int l1), some (.int (l2 + 0)), some (.int l3)]) dX6_tells_100 rfl (by decide) rfl ?_
                  refine AW_iinc (x' := l3 + 1) (L' := [some (.ref 200), some (.int l1), some (.int (l2 + 0)), some (.int (l3 + 1))]) dX6_tells_101 rfl rfl (by decide) rfl ?_
                  refine AW_goto (tgt := 4) dX6_tells_104 (by decide) ?_
                  exact H
                · replace H := H.2 c
                  refine AW_aload_n dX6_tells_79 rfl rfl ?_
                  refine AW_getR dX6_tells_80 (bI_200 B) fl_X6_64 (bR_200_27 B) ?_
                  refine AW_sipush (x := 920) dX6_tells_83 (by decide) ?_
                  refine AW_iload_n dX6_tells_86 rfl rfl ?_
                  refine AW_imul dX6_tells_87 ?_
                  have hi11 := H.1
                  replace H := H.2
                  refine AW_iald dX6_tells_88 (bI_227 B) hi11 ?_
                  refine AW_bipush (x := (-9)) dX6_tells_89 (by decide) ?_
                  refine AW_icmp_eq (tgt := 98) dX6_tells_91 (by decide) (fun c => ?_) (fun c => ?_)
                  · replace H := H.1 c
                    refine AW_iconst (x := 0) dX6_tells_98 (by decide) ?_
                    refine AW_iadd dX6_tells_99 ?_
                    refine AW_istore_n (L' := [some (.ref 200), some (.int l1), some (.int (l2 + 0)), some (.int l3)]) dX6_tells_100 rfl (by decide) rfl ?_
                    refine AW_iinc (x' := l3 + 1) (L' := [some (.ref 200), some (.int l1), some (.int (l2 + 0)), some (.int (l3 + 1))]) dX6_tells_101 rfl rfl (by decide) rfl ?_
                    refine AW_goto (tgt := 4) dX6_tells_104 (by decide) ?_
                    exact H
                  · replace H := H.2 c
                    refine AW_iconst (x := 1) dX6_tells_94 (by decide) ?_
                    refine AW_goto (tgt := 99) dX6_tells_95 (by decide) ?_
                    refine AW_iadd dX6_tells_99 ?_
                    refine AW_istore_n (L' := [some (.ref 200), some (.int l1), some (.int (l2 + 1)), some (.int l3)]) dX6_tells_100 rfl (by decide) rfl ?_
                    refine AW_iinc (x' := l3 + 1) (L' := [some (.ref 200), some (.int l1), some (.int (l2 + 1)), some (.int (l3 + 1))]) dX6_tells_101 rfl rfl (by decide) rfl ?_
                    refine AW_goto (tgt := 4) dX6_tells_104 (by decide) ?_
                    exact H
            · replace H := H.2 c
              refine AW_aload_n dX6_tells_59 rfl rfl ?_
              refine AW_getR dX6_tells_60 (bI_200 B) fl_X6_22 (bR_200_6 B) ?_
              refine AW_iload_n dX6_tells_63 rfl rfl ?_
              have hi12 := H.1
              replace H := H.2
              refine AW_iald dX6_tells_64 (bI_206 B) hi12 ?_
              refine AW_if_ge (tgt := 94) dX6_tells_65 (by decide) (fun c => ?_) (fun c => ?_)
              · replace H := H.1 c
                refine AW_iconst (x := 1) dX6_tells_94 (by decide) ?_
                refine AW_goto (tgt := 99) dX6_tells_95 (by decide) ?_
                refine AW_iadd dX6_tells_99 ?_
                refine AW_istore_n (L' := [some (.ref 200), some (.int l1), some (.int (l2 + 1)), some (.int l3)]) dX6_tells_100 rfl (by decide) rfl ?_
                refine AW_iinc (x' := l3 + 1) (L' := [some (.ref 200), some (.int l1), some (.int (l2 + 1)), some (.int (l3 + 1))]) dX6_tells_101 rfl rfl (by decide) rfl ?_
                refine AW_goto (tgt := 4) dX6_tells_104 (by decide) ?_
                exact H
              · replace H := H.2 c
                refine AW_iload_n dX6_tells_68 rfl rfl ?_
                refine AW_bipush (x := 8) dX6_tells_69 (by decide) ?_
                refine AW_icmp_ne (tgt := 98) dX6_tells_71 (by decide) (fun c => ?_) (fun c => ?_)
                · replace H := H.1 c
                  refine AW_iconst (x := 0) dX6_tells_98 (by decide) ?_
                  refine AW_iadd dX6_tells_99 ?_
                  refine AW_istore_n (L' := [some (.ref 200), some (.int l1), some (.int (l2 + 0)), some (.int l3)]) dX6_tells_100 rfl (by decide) rfl ?_
                  refine AW_iinc (x' := l3 + 1) (L' := [some (.ref 200), some (.int l1), some (.int (l2 + 0)), some (.int (l3 + 1))]) dX6_tells_101 rfl rfl (by decide) rfl ?_
                  refine AW_goto (tgt := 4) dX6_tells_104 (by decide) ?_
                  exact H
                · replace H := H.2 c
                  refine AW_iload_n dX6_tells_74 rfl rfl ?_
                  refine AW_iconst (x := 3) dX6_tells_75 (by decide) ?_
                  refine AW_icmp_ge (tgt := 98) dX6_tells_76 (by decide) (fun c => ?_) (fun c => ?_)
                  · replace H := H.1 c
                    refine AW_iconst (x := 0) dX6_tells_98 (by decide) ?_
                    refine AW_iadd dX6_tells_99 ?_
                    refine AW_istore_n (L' := [some (.ref 200), some (.int l1), some (.int (l2 + 0)), some (.int l3)]) dX6_tells_100 rfl (by decide) rfl ?_
                    refine AW_iinc (x' := l3 + 1) (L' := [some (.ref 200), some (.int l1), some (.int (l2 + 0)), some (.int (l3 + 1))]) dX6_tells_101 rfl rfl (by decide) rfl ?_
                    refine AW_goto (tgt := 4) dX6_tells_104 (by decide) ?_
                    exact H
                  · replace H := H.2 c
                    refine AW_aload_n dX6_tells_79 rfl rfl ?_
                    refine AW_getR dX6_tells_80 (bI_200 B) fl_X6_64 (bR_200_27 B) ?_
                    refine AW_sipush (x := 920) dX6_tells_83 (by decide) ?_
                    refine AW_iload_n dX6_tells_86 rfl rfl ?_
                    refine AW_imul dX6_tells_87 ?_
                    have hi13 := H.1
                    replace H := H.2
                    refine AW_iald dX6_tells_88 (bI_227 B) hi13 ?_
                    refine AW_bipush (x := (-9)) dX6_tells_89 (by decide) ?_
                    refine AW_icmp_eq (tgt := 98) dX6_tells_91 (by decide) (fun c => ?_) (fun c => ?_)
                    · replace H := H.1 c
                      refine AW_iconst (x := 0) dX6_tells_98 (by decide) ?_
                      refine AW_iadd dX6_tells_99 ?_
                      refine AW_istore_n (L' := [some (.ref 200), some (.int l1), some (.int (l2 + 0)), some (.int l3)]) dX6_tells_100 rfl (by decide) rfl ?_
                      refine AW_iinc (x' := l3 + 1) (L' := [some (.ref 200), some (.int l1), some (.int (l2 + 0)), some (.int (l3 + 1))]) dX6_tells_101 rfl rfl (by decide) rfl ?_
                      refine AW_goto (tgt := 4) dX6_tells_104 (by decide) ?_
                      exact H
                    · replace H := H.2 c
                      refine AW_iconst (x := 1) dX6_tells_94 (by decide) ?_
                      refine AW_goto (tgt := 99) dX6_tells_95 (by decide) ?_
                      refine AW_iadd dX6_tells_99 ?_
                      refine AW_istore_n (L' := [some (.ref 200), some (.int l1), some (.int (l2 + 1)), some (.int l3)]) dX6_tells_100 rfl (by decide) rfl ?_
                      refine AW_iinc (x' := l3 + 1) (L' := [some (.ref 200), some (.int l1), some (.int (l2 + 1)), some (.int (l3 + 1))]) dX6_tells_101 rfl rfl (by decide) rfl ?_
                      refine AW_goto (tgt := 4) dX6_tells_104 (by decide) ?_
                      exact H
    · replace H := H.2 c
      refine AW_iload_n dX6_tells_16 rfl rfl ?_
      refine AW_aload_n dX6_tells_17 rfl rfl ?_
      refine AW_getI dX6_tells_18 (bI_200 B) fl_X6_154 ?_
      refine AW_icmp_ge (tgt := 33) dX6_tells_21 (by decide) (fun c => ?_) (fun c => ?_)
      · replace H := H.1 c
        refine AW_iload_n dX6_tells_33 rfl rfl ?_
        refine AW_bipush (x := 6) dX6_tells_34 (by decide) ?_
        refine AW_icmp_ne (tgt := 48) dX6_tells_36 (by decide) (fun c => ?_) (fun c => ?_)
        · replace H := H.1 c
          refine AW_iload_n dX6_tells_48 rfl rfl ?_
          refine AW_bipush (x := 7) dX6_tells_49 (by decide) ?_
          refine AW_icmp_ne (tgt := 68) dX6_tells_51 (by decide) (fun c => ?_) (fun c => ?_)
          · replace H := H.1 c
            refine AW_iload_n dX6_tells_68 rfl rfl ?_
            refine AW_bipush (x := 8) dX6_tells_69 (by decide) ?_
            refine AW_icmp_ne (tgt := 98) dX6_tells_71 (by decide) (fun c => ?_) (fun c => ?_)
            · replace H := H.1 c
              refine AW_iconst (x := 0) dX6_tells_98 (by decide) ?_
              refine AW_iadd dX6_tells_99 ?_
              refine AW_istore_n (L' := [some (.ref 200), some (.int l1), some (.int (l2 + 0)), some (.int l3)]) dX6_tells_100 rfl (by decide) rfl ?_
              refine AW_iinc (x' := l3 + 1) (L' := [some (.ref 200), some (.int l1), some (.int (l2 + 0)), some (.int (l3 + 1))]) dX6_tells_101 rfl rfl (by decide) rfl ?_
              refine AW_goto (tgt := 4) dX6_tells_104 (by decide) ?_
              exact H
            · replace H := H.2 c
              refine AW_iload_n dX6_tells_74 rfl rfl ?_
              refine AW_iconst (x := 3) dX6_tells_75 (by decide) ?_
              refine AW_icmp_ge (tgt := 98) dX6_tells_76 (by decide) (fun c => ?_) (fun c => ?_)
              · replace H := H.1 c
                refine AW_iconst (x := 0) dX6_tells_98 (by decide) ?_
                refine AW_iadd dX6_tells_99 ?_
                refine AW_istore_n (L' := [some (.ref 200), some (.int l1), some (.int (l2 + 0)), some (.int l3)]) dX6_tells_100 rfl (by decide) rfl ?_
                refine AW_iinc (x' := l3 + 1) (L' := [some (.ref 200), some (.int l1), some (.int (l2 + 0)), some (.int (l3 + 1))]) dX6_tells_101 rfl rfl (by decide) rfl ?_
                refine AW_goto (tgt := 4) dX6_tells_104 (by decide) ?_
                exact H
              · replace H := H.2 c
                refine AW_aload_n dX6_tells_79 rfl rfl ?_
                refine AW_getR dX6_tells_80 (bI_200 B) fl_X6_64 (bR_200_27 B) ?_
                refine AW_sipush (x := 920) dX6_tells_83 (by decide) ?_
                refine AW_iload_n dX6_tells_86 rfl rfl ?_
                refine AW_imul dX6_tells_87 ?_
                have hi14 := H.1
                replace H := H.2
                refine AW_iald dX6_tells_88 (bI_227 B) hi14 ?_
                refine AW_bipush (x := (-9)) dX6_tells_89 (by decide) ?_
                refine AW_icmp_eq (tgt := 98) dX6_tells_91 (by decide) (fun c => ?_) (fun c => ?_)
                · replace H := H.1 c
                  refine AW_iconst (x := 0) dX6_tells_98 (by decide) ?_
                  refine AW_iadd dX6_tells_99 ?_
                  refine AW_istore_n (L' := [some (.ref 200), some (.int l1), some (.int (l2 + 0)), some (.int l3)]) dX6_tells_100 rfl (by decide) rfl ?_
                  refine AW_iinc (x' := l3 + 1) (L' := [some (.ref 200), some (.int l1), some (.int (l2 + 0)), some (.int (l3 + 1))]) dX6_tells_101 rfl rfl (by decide) rfl ?_
                  refine AW_goto (tgt := 4) dX6_tells_104 (by decide) ?_
                  exact H
                · replace H := H.2 c
                  refine AW_iconst (x := 1) dX6_tells_94 (by decide) ?_
                  refine AW_goto (tgt := 99) dX6_tells_95 (by decide) ?_
                  refine AW_iadd dX6_tells_99 ?_
                  refine AW_istore_n (L' := [some (.ref 200), some (.int l1), some (.int (l2 + 1)), some (.int l3)]) dX6_tells_100 rfl (by decide) rfl ?_
                  refine AW_iinc (x' := l3 + 1) (L' := [some (.ref 200), some (.int l1), some (.int (l2 + 1)), some (.int (l3 + 1))]) dX6_tells_101 rfl rfl (by decide) rfl ?_
                  refine AW_goto (tgt := 4) dX6_tells_104 (by decide) ?_
                  exact H
          · replace H := H.2 c
            refine AW_iload_n dX6_tells_54 rfl rfl ?_
            refine AW_iconst (x := 4) dX6_tells_55 (by decide) ?_
            refine AW_icmp_ge (tgt := 68) dX6_tells_56 (by decide) (fun c => ?_) (fun c => ?_)
            · replace H := H.1 c
              refine AW_iload_n dX6_tells_68 rfl rfl ?_
              refine AW_bipush (x := 8) dX6_tells_69 (by decide) ?_
              refine AW_icmp_ne (tgt := 98) dX6_tells_71 (by decide) (fun c => ?_) (fun c => ?_)
              · replace H := H.1 c
                refine AW_iconst (x := 0) dX6_tells_98 (by decide) ?_
                refine AW_iadd dX6_tells_99 ?_
                refine AW_istore_n (L' := [some (.ref 200), some (.int l1), some (.int (l2 + 0)), some (.int l3)]) dX6_tells_100 rfl (by decide) rfl ?_
                refine AW_iinc (x' := l3 + 1) (L' := [some (.ref 200), some (.int l1), some (.int (l2 + 0)), some (.int (l3 + 1))]) dX6_tells_101 rfl rfl (by decide) rfl ?_
                refine AW_goto (tgt := 4) dX6_tells_104 (by decide) ?_
                exact H
              · replace H := H.2 c
                refine AW_iload_n dX6_tells_74 rfl rfl ?_
                refine AW_iconst (x := 3) dX6_tells_75 (by decide) ?_
                refine AW_icmp_ge (tgt := 98) dX6_tells_76 (by decide) (fun c => ?_) (fun c => ?_)
                · replace H := H.1 c
                  refine AW_iconst (x := 0) dX6_tells_98 (by decide) ?_
                  refine AW_iadd dX6_tells_99 ?_
                  refine AW_istore_n (L' := [some (.ref 200), some (.int l1), some (.int (l2 + 0)), some (.int l3)]) dX6_tells_100 rfl (by decide) rfl ?_
                  refine AW_iinc (x' := l3 + 1) (L' := [some (.ref 200), some (.int l1), some (.int (l2 + 0)), some (.int (l3 + 1))]) dX6_tells_101 rfl rfl (by decide) rfl ?_
                  refine AW_goto (tgt := 4) dX6_tells_104 (by decide) ?_
                  exact H
                · replace H := H.2 c
                  refine AW_aload_n dX6_tells_79 rfl rfl ?_
                  refine AW_getR dX6_tells_80 (bI_200 B) fl_X6_64 (bR_200_27 B) ?_
                  refine AW_sipush (x := 920) dX6_tells_83 (by decide) ?_
                  refine AW_iload_n dX6_tells_86 rfl rfl ?_
                  refine AW_imul dX6_tells_87 ?_
                  have hi15 := H.1
                  replace H := H.2
                  refine AW_iald dX6_tells_88 (bI_227 B) hi15 ?_
                  refine AW_bipush (x := (-9)) dX6_tells_89 (by decide) ?_
                  refine AW_icmp_eq (tgt := 98) dX6_tells_91 (by decide) (fun c => ?_) (fun c => ?_)
                  · replace H := H.1 c
                    refine AW_iconst (x := 0) dX6_tells_98 (by decide) ?_
                    refine AW_iadd dX6_tells_99 ?_
                    refine AW_istore_n (L' := [some (.ref 200), some (.int l1), some (.int (l2 + 0)), some (.int l3)]) dX6_tells_100 rfl (by decide) rfl ?_
                    refine AW_iinc (x' := l3 + 1) (L' := [some (.ref 200), some (.int l1), some (.int (l2 + 0)), some (.int (l3 + 1))]) dX6_tells_101 rfl rfl (by decide) rfl ?_
                    refine AW_goto (tgt := 4) dX6_tells_104 (by decide) ?_
                    exact H
                  · replace H := H.2 c
                    refine AW_iconst (x := 1) dX6_tells_94 (by decide) ?_
                    refine AW_goto (tgt := 99) dX6_tells_95 (by decide) ?_
                    refine AW_iadd dX6_tells_99 ?_
                    refine AW_istore_n (L' := [some (.ref 200), some (.int l1), some (.int (l2 + 1)), some (.int l3)]) dX6_tells_100 rfl (by decide) rfl ?_
                    refine AW_iinc (x' := l3 + 1) (L' := [some (.ref 200), some (.int l1), some (.int (l2 + 1)), some (.int (l3 + 1))]) dX6_tells_101 rfl rfl (by decide) rfl ?_
                    refine AW_goto (tgt := 4) dX6_tells_104 (by decide) ?_
                    exact H
            · replace H := H.2 c
              refine AW_aload_n dX6_tells_59 rfl rfl ?_
              refine AW_getR dX6_tells_60 (bI_200 B) fl_X6_22 (bR_200_6 B) ?_
              refine AW_iload_n dX6_tells_63 rfl rfl ?_
              have hi16 := H.1
              replace H := H.2
              refine AW_iald dX6_tells_64 (bI_206 B) hi16 ?_
              refine AW_if_ge (tgt := 94) dX6_tells_65 (by decide) (fun c => ?_) (fun c => ?_)
              · replace H := H.1 c
                refine AW_iconst (x := 1) dX6_tells_94 (by decide) ?_
                refine AW_goto (tgt := 99) dX6_tells_95 (by decide) ?_
                refine AW_iadd dX6_tells_99 ?_
                refine AW_istore_n (L' := [some (.ref 200), some (.int l1), some (.int (l2 + 1)), some (.int l3)]) dX6_tells_100 rfl (by decide) rfl ?_
                refine AW_iinc (x' := l3 + 1) (L' := [some (.ref 200), some (.int l1), some (.int (l2 + 1)), some (.int (l3 + 1))]) dX6_tells_101 rfl rfl (by decide) rfl ?_
                refine AW_goto (tgt := 4) dX6_tells_104 (by decide) ?_
                exact H
              · replace H := H.2 c
                refine AW_iload_n dX6_tells_68 rfl rfl ?_
                refine AW_bipush (x := 8) dX6_tells_69 (by decide) ?_
                refine AW_icmp_ne (tgt := 98) dX6_tells_71 (by decide) (fun c => ?_) (fun c => ?_)
                · replace H := H.1 c
                  refine AW_iconst (x := 0) dX6_tells_98 (by decide) ?_
                  refine AW_iadd dX6_tells_99 ?_
                  refine AW_istore_n (L' := [some (.ref 200), some (.int l1), some (.int (l2 + 0)), some (.int l3)]) dX6_tells_100 rfl (by decide) rfl ?_
                  refine AW_iinc (x' := l3 + 1) (L' := [some (.ref 200), some (.int l1), some (.int (l2 + 0)), some (.int (l3 + 1))]) dX6_tells_101 rfl rfl (by decide) rfl ?_
                  refine AW_goto (tgt := 4) dX6_tells_104 (by decide) ?_
                  exact H
                · replace H := H.2 c
                  refine AW_iload_n dX6_tells_74 rfl rfl ?_
                  refine AW_iconst (x := 3) dX6_tells_75 (by decide) ?_
                  refine AW_icmp_ge (tgt := 98) dX6_tells_76 (by decide) (fun c => ?_) (fun c => ?_)
                  · replace H := H.1 c
                    refine AW_iconst (x := 0) dX6_tells_98 (by decide) ?_
                    refine AW_iadd dX6_tells_99 ?_
                    refine AW_istore_n (L' := [some (.ref 200), some (.int l1), some (.int (l2 + 0)), some (.int l3)]) dX6_tells_100 rfl (by decide) rfl ?_
                    refine AW_iinc (x' := l3 + 1) (L' := [some (.ref 200), some (.int l1), some (.int (l2 + 0)), some (.int (l3 + 1))]) dX6_tells_101 rfl rfl (by decide) rfl ?_
                    refine AW_goto (tgt := 4) dX6_tells_104 (by decide) ?_
                    exact H
                  · replace H := H.2 c
                    refine AW_aload_n dX6_tells_79 rfl rfl ?_
                    refine AW_getR dX6_tells_80 (bI_200 B) fl_X6_64 (bR_200_27 B) ?_
                    refine AW_sipush (x := 920) dX6_tells_83 (by decide) ?_
                    refine AW_iload_n dX6_tells_86 rfl rfl ?_
                    refine AW_imul dX6_tells_87 ?_
                    have hi17 := H.1
                    replace H := H.2
                    refine AW_iald dX6_tells_88 (bI_227 B) hi17 ?_
                    refine AW_bipush (x := (-9)) dX6_tells_89 (by decide) ?_
                    refine AW_icmp_eq (tgt := 98) dX6_tells_91 (by decide) (fun c => ?_) (fun c => ?_)
                    · replace H := H.1 c
                      refine AW_iconst (x := 0) dX6_tells_98 (by decide) ?_
                      refine AW_iadd dX6_tells_99 ?_
                      refine AW_istore_n (L' := [some (.ref 200), some (.int l1), some (.int (l2 + 0)), some (.int l3)]) dX6_tells_100 rfl (by decide) rfl ?_
                      refine AW_iinc (x' := l3 + 1) (L' := [some (.ref 200), some (.int l1), some (.int (l2 + 0)), some (.int (l3 + 1))]) dX6_tells_101 rfl rfl (by decide) rfl ?_
                      refine AW_goto (tgt := 4) dX6_tells_104 (by decide) ?_
                      exact H
                    · replace H := H.2 c
                      refine AW_iconst (x := 1) dX6_tells_94 (by decide) ?_
                      refine AW_goto (tgt := 99) dX6_tells_95 (by decide) ?_
                      refine AW_iadd dX6_tells_99 ?_
                      refine AW_istore_n (L' := [some (.ref 200), some (.int l1), some (.int (l2 + 1)), some (.int l3)]) dX6_tells_100 rfl (by decide) rfl ?_
                      refine AW_iinc (x' := l3 + 1) (L' := [some (.ref 200), some (.int l1), some (.int (l2 + 1)), some (.int (l3 + 1))]) dX6_tells_101 rfl rfl (by decide) rfl ?_
                      refine AW_goto (tgt := 4) dX6_tells_104 (by decide) ?_
                      exact H
        · replace H := H.2 c
          refine AW_aload_n dX6_tells_39 rfl rfl ?_
          refine AW_getR dX6_tells_40 (bI_200 B) fl_X6_13 (bR_200_3 B) ?_
          refine AW_iload_n dX6_tells_43 rfl rfl ?_
          have hi18 := H.1
          replace H := H.2
          refine AW_iald dX6_tells_44 (bI_203 B) hi18 ?_
          refine AW_if_ge (tgt := 94) dX6_tells_45 (by decide) (fun c => ?_) (fun c => ?_)
          · replace H := H.1 c
            refine AW_iconst (x := 1) dX6_tells_94 (by decide) ?_
            refine AW_goto (tgt := 99) dX6_tells_95 (by decide) ?_
            refine AW_iadd dX6_tells_99 ?_
            refine AW_istore_n (L' := [some (.ref 200), some (.int l1), some (.int (l2 + 1)), some (.int l3)]) dX6_tells_100 rfl (by decide) rfl ?_
            refine AW_iinc (x' := l3 + 1) (L' := [some (.ref 200), some (.int l1), some (.int (l2 + 1)), some (.int (l3 + 1))]) dX6_tells_101 rfl rfl (by decide) rfl ?_
            refine AW_goto (tgt := 4) dX6_tells_104 (by decide) ?_
            exact H
          · replace H := H.2 c
            refine AW_iload_n dX6_tells_48 rfl rfl ?_
            refine AW_bipush (x := 7) dX6_tells_49 (by decide) ?_
            refine AW_icmp_ne (tgt := 68) dX6_tells_51 (by decide) (fun c => ?_) (fun c => ?_)
            · replace H := H.1 c
              refine AW_iload_n dX6_tells_68 rfl rfl ?_
              refine AW_bipush (x := 8) dX6_tells_69 (by decide) ?_
              refine AW_icmp_ne (tgt := 98) dX6_tells_71 (by decide) (fun c => ?_) (fun c => ?_)
              · replace H := H.1 c
                refine AW_iconst (x := 0) dX6_tells_98 (by decide) ?_
                refine AW_iadd dX6_tells_99 ?_
                refine AW_istore_n (L' := [some (.ref 200), some (.int l1), some (.int (l2 + 0)), some (.int l3)]) dX6_tells_100 rfl (by decide) rfl ?_
                refine AW_iinc (x' := l3 + 1) (L' := [some (.ref 200), some (.int l1), some (.int (l2 + 0)), some (.int (l3 + 1))]) dX6_tells_101 rfl rfl (by decide) rfl ?_
                refine AW_goto (tgt := 4) dX6_tells_104 (by decide) ?_
                exact H
              · replace H := H.2 c
                refine AW_iload_n dX6_tells_74 rfl rfl ?_
                refine AW_iconst (x := 3) dX6_tells_75 (by decide) ?_
                refine AW_icmp_ge (tgt := 98) dX6_tells_76 (by decide) (fun c => ?_) (fun c => ?_)
                · replace H := H.1 c
                  refine AW_iconst (x := 0) dX6_tells_98 (by decide) ?_
                  refine AW_iadd dX6_tells_99 ?_
                  refine AW_istore_n (L' := [some (.ref 200), some (.int l1), some (.int (l2 + 0)), some (.int l3)]) dX6_tells_100 rfl (by decide) rfl ?_
                  refine AW_iinc (x' := l3 + 1) (L' := [some (.ref 200), some (.int l1), some (.int (l2 + 0)), some (.int (l3 + 1))]) dX6_tells_101 rfl rfl (by decide) rfl ?_
                  refine AW_goto (tgt := 4) dX6_tells_104 (by decide) ?_
                  exact H
                · replace H := H.2 c
                  refine AW_aload_n dX6_tells_79 rfl rfl ?_
                  refine AW_getR dX6_tells_80 (bI_200 B) fl_X6_64 (bR_200_27 B) ?_
                  refine AW_sipush (x := 920) dX6_tells_83 (by decide) ?_
                  refine AW_iload_n dX6_tells_86 rfl rfl ?_
                  refine AW_imul dX6_tells_87 ?_
                  have hi19 := H.1
                  replace H := H.2
                  refine AW_iald dX6_tells_88 (bI_227 B) hi19 ?_
                  refine AW_bipush (x := (-9)) dX6_tells_89 (by decide) ?_
                  refine AW_icmp_eq (tgt := 98) dX6_tells_91 (by decide) (fun c => ?_) (fun c => ?_)
                  · replace H := H.1 c
                    refine AW_iconst (x := 0) dX6_tells_98 (by decide) ?_
                    refine AW_iadd dX6_tells_99 ?_
                    refine AW_istore_n (L' := [some (.ref 200), some (.int l1), some (.int (l2 + 0)), some (.int l3)]) dX6_tells_100 rfl (by decide) rfl ?_
                    refine AW_iinc (x' := l3 + 1) (L' := [some (.ref 200), some (.int l1), some (.int (l2 + 0)), some (.int (l3 + 1))]) dX6_tells_101 rfl rfl (by decide) rfl ?_
                    refine AW_goto (tgt := 4) dX6_tells_104 (by decide) ?_
                    exact H
                  · replace H := H.2 c
                    refine AW_iconst (x := 1) dX6_tells_94 (by decide) ?_
                    refine AW_goto (tgt := 99) dX6_tells_95 (by decide) ?_
                    refine AW_iadd dX6_tells_99 ?_
                    refine AW_istore_n (L' := [some (.ref 200), some (.int l1), some (.int (l2 + 1)), some (.int l3)]) dX6_tells_100 rfl (by decide) rfl ?_
                    refine AW_iinc (x' := l3 + 1) (L' := [some (.ref 200), some (.int l1), some (.int (l2 + 1)), some (.int (l3 + 1))]) dX6_tells_101 rfl rfl (by decide) rfl ?_
                    refine AW_goto (tgt := 4) dX6_tells_104 (by decide) ?_
                    exact H
            · replace H := H.2 c
              refine AW_iload_n dX6_tells_54 rfl rfl ?_
              refine AW_iconst (x := 4) dX6_tells_55 (by decide) ?_
              refine AW_icmp_ge (tgt := 68) dX6_tells_56 (by decide) (fun c => ?_) (fun c => ?_)
              · replace H := H.1 c
                refine AW_iload_n dX6_tells_68 rfl rfl ?_
                refine AW_bipush (x := 8) dX6_tells_69 (by decide) ?_
                refine AW_icmp_ne (tgt := 98) dX6_tells_71 (by decide) (fun c => ?_) (fun c => ?_)
                · replace H := H.1 c
                  refine AW_iconst (x := 0) dX6_tells_98 (by decide) ?_
                  refine AW_iadd dX6_tells_99 ?_
                  refine AW_istore_n (L' := [some (.ref 200), some (.int l1), some (.int (l2 + 0)), some (.int l3)]) dX6_tells_100 rfl (by decide) rfl ?_
                  refine AW_iinc (x' := l3 + 1) (L' := [some (.ref 200), some (.int l1), some (.int (l2 + 0)), some (.int (l3 + 1))]) dX6_tells_101 rfl rfl (by decide) rfl ?_
                  refine AW_goto (tgt := 4) dX6_tells_104 (by decide) ?_
                  exact H
                · replace H := H.2 c
                  refine AW_iload_n dX6_tells_74 rfl rfl ?_
                  refine AW_iconst (x := 3) dX6_tells_75 (by decide) ?_
                  refine AW_icmp_ge (tgt := 98) dX6_tells_76 (by decide) (fun c => ?_) (fun c => ?_)
                  · replace H := H.1 c
                    refine AW_iconst (x := 0) dX6_tells_98 (by decide) ?_
                    refine AW_iadd dX6_tells_99 ?_
                    refine AW_istore_n (L' := [some (.ref 200), some (.int l1), some (.int (l2 + 0)), some (.int l3)]) dX6_tells_100 rfl (by decide) rfl ?_
                    refine AW_iinc (x' := l3 + 1) (L' := [some (.ref 200), some (.int l1), some (.int (l2 + 0)), some (.int (l3 + 1))]) dX6_tells_101 rfl rfl (by decide) rfl ?_
                    refine AW_goto (tgt := 4) dX6_tells_104 (by decide) ?_
                    exact H
                  · replace H := H.2 c
                    refine AW_aload_n dX6_tells_79 rfl rfl ?_
                    refine AW_getR dX6_tells_80 (bI_200 B) fl_X6_64 (bR_200_27 B) ?_
                    refine AW_sipush (x := 920) dX6_tells_83 (by decide) ?_
                    refine AW_iload_n dX6_tells_86 rfl rfl ?_
                    refine AW_imul dX6_tells_87 ?_
                    have hi20 := H.1
                    replace H := H.2
                    refine AW_iald dX6_tells_88 (bI_227 B) hi20 ?_
                    refine AW_bipush (x := (-9)) dX6_tells_89 (by decide) ?_
                    refine AW_icmp_eq (tgt := 98) dX6_tells_91 (by decide) (fun c => ?_) (fun c => ?_)
                    · replace H := H.1 c
                      refine AW_iconst (x := 0) dX6_tells_98 (by decide) ?_
                      refine AW_iadd dX6_tells_99 ?_
                      refine AW_istore_n (L' := [some (.ref 200), some (.int l1), some (.int (l2 + 0)), some (.int l3)]) dX6_tells_100 rfl (by decide) rfl ?_
                      refine AW_iinc (x' := l3 + 1) (L' := [some (.ref 200), some (.int l1), some (.int (l2 + 0)), some (.int (l3 + 1))]) dX6_tells_101 rfl rfl (by decide) rfl ?_
                      refine AW_goto (tgt := 4) dX6_tells_104 (by decide) ?_
                      exact H
                    · replace H := H.2 c
                      refine AW_iconst (x := 1) dX6_tells_94 (by decide) ?_
                      refine AW_goto (tgt := 99) dX6_tells_95 (by decide) ?_
                      refine AW_iadd dX6_tells_99 ?_
                      refine AW_istore_n (L' := [some (.ref 200), some (.int l1), some (.int (l2 + 1)), some (.int l3)]) dX6_tells_100 rfl (by decide) rfl ?_
                      refine AW_iinc (x' := l3 + 1) (L' := [some (.ref 200), some (.int l1), some (.int (l2 + 1)), some (.int (l3 + 1))]) dX6_tells_101 rfl rfl (by decide) rfl ?_
                      refine AW_goto (tgt := 4) dX6_tells_104 (by decide) ?_
                      exact H
              · replace H := H.2 c
                refine AW_aload_n dX6_tells_59 rfl rfl ?_
                refine AW_getR dX6_tells_60 (bI_200 B) fl_X6_22 (bR_200_6 B) ?_
                refine AW_iload_n dX6_tells_63 rfl rfl ?_
                have hi21 := H.1
                replace H := H.2
                refine AW_iald dX6_tells_64 (bI_206 B) hi21 ?_
                refine AW_if_ge (tgt := 94) dX6_tells_65 (by decide) (fun c => ?_) (fun c => ?_)
                · replace H := H.1 c
                  refine AW_iconst (x := 1) dX6_tells_94 (by decide) ?_
                  refine AW_goto (tgt := 99) dX6_tells_95 (by decide) ?_
                  refine AW_iadd dX6_tells_99 ?_
                  refine AW_istore_n (L' := [some (.ref 200), some (.int l1), some (.int (l2 + 1)), some (.int l3)]) dX6_tells_100 rfl (by decide) rfl ?_
                  refine AW_iinc (x' := l3 + 1) (L' := [some (.ref 200), some (.int l1), some (.int (l2 + 1)), some (.int (l3 + 1))]) dX6_tells_101 rfl rfl (by decide) rfl ?_
                  refine AW_goto (tgt := 4) dX6_tells_104 (by decide) ?_
                  exact H
                · replace H := H.2 c
                  refine AW_iload_n dX6_tells_68 rfl rfl ?_
                  refine AW_bipush (x := 8) dX6_tells_69 (by decide) ?_
                  refine AW_icmp_ne (tgt := 98) dX6_tells_71 (by decide) (fun c => ?_) (fun c => ?_)
                  · replace H := H.1 c
                    refine AW_iconst (x := 0) dX6_tells_98 (by decide) ?_
                    refine AW_iadd dX6_tells_99 ?_
                    refine AW_istore_n (L' := [some (.ref 200), some (.int l1), some (.int (l2 + 0)), some (.int l3)]) dX6_tells_100 rfl (by decide) rfl ?_
                    refine AW_iinc (x' := l3 + 1) (L' := [some (.ref 200), some (.int l1), some (.int (l2 + 0)), some (.int (l3 + 1))]) dX6_tells_101 rfl rfl (by decide) rfl ?_
                    refine AW_goto (tgt := 4) dX6_tells_104 (by decide) ?_
                    exact H
                  · replace H := H.2 c
                    refine AW_iload_n dX6_tells_74 rfl rfl ?_
                    refine AW_iconst (x := 3) dX6_tells_75 (by decide) ?_
                    refine AW_icmp_ge (tgt := 98) dX6_tells_76 (by decide) (fun c => ?_) (fun c => ?_)
                    · replace H := H.1 c
                      refine AW_iconst (x := 0) dX6_tells_98 (by decide) ?_
                      refine AW_iadd dX6_tells_99 ?_
                      refine AW_istore_n (L' := [some (.ref 200), some (.int l1), some (.int (l2 + 0)), some (.int l3)]) dX6_tells_100 rfl (by decide) rfl ?_
                      refine AW_iinc (x' := l3 + 1) (L' := [some (.ref 200), some (.int l1), some (.int (l2 + 0)), some (.int (l3 + 1))]) dX6_tells_101 rfl rfl (by decide) rfl ?_
                      refine AW_goto (tgt := 4) dX6_tells_104 (by decide) ?_
                      exact H
                    · replace H := H.2 c
                      refine AW_aload_n dX6_tells_79 rfl rfl ?_
                      refine AW_getR dX6_tells_80 (bI_200 B) fl_X6_64 (bR_200_27 B) ?_
                      refine AW_sipush (x := 920) dX6_tells_83 (by decide) ?_
                      refine AW_iload_n dX6_tells_86 rfl rfl ?_
                      refine AW_imul dX6_tells_87 ?_
                      have hi22 := H.1
                      replace H := H.2
                      refine AW_iald dX6_tells_88 (bI_227 B) hi22 ?_
                      refine AW_bipush (x := (-9)) dX6_tells_89 (by decide) ?_
                      refine AW_icmp_eq (tgt := 98) dX6_tells_91 (by decide) (fun c => ?_) (fun c => ?_)
                      · replace H := H.1 c
                        refine AW_iconst (x := 0) dX6_tells_98 (by decide) ?_
                        refine AW_iadd dX6_tells_99 ?_
                        refine AW_istore_n (L' := [some (.ref 200), some (.int l1), some (.int (l2 + 0)), some (.int l3)]) dX6_tells_100 rfl (by decide) rfl ?_
                        refine AW_iinc (x' := l3 + 1) (L' := [some (.ref 200), some (.int l1), some (.int (l2 + 0)), some (.int (l3 + 1))]) dX6_tells_101 rfl rfl (by decide) rfl ?_
                        refine AW_goto (tgt := 4) dX6_tells_104 (by decide) ?_
                        exact H
                      · replace H := H.2 c
                        refine AW_iconst (x := 1) dX6_tells_94 (by decide) ?_
                        refine AW_goto (tgt := 99) dX6_tells_95 (by decide) ?_
                        refine AW_iadd dX6_tells_99 ?_
                        refine AW_istore_n (L' := [some (.ref 200), some (.int l1), some (.int (l2 + 1)), some (.int l3)]) dX6_tells_100 rfl (by decide) rfl ?_
                        refine AW_iinc (x' := l3 + 1) (L' := [some (.ref 200), some (.int l1), some (.int (l2 + 1)), some (.int (l3 + 1))]) dX6_tells_101 rfl rfl (by decide) rfl ?_
                        refine AW_goto (tgt := 4) dX6_tells_104 (by decide) ?_
                        exact H
      · replace H := H.2 c
        refine AW_aload_n dX6_tells_24 rfl rfl ?_
        refine AW_iload_n dX6_tells_25 rfl rfl ?_
        refine AW_iconst (x := 1) dX6_tells_26 (by decide) ?_
        refine AW_vI (as := [(.int l3), (.int 1)]) (st := [(.int l2)]) dX6_tells_27 (bI_200 B) (by decide) rfl mv_X6_isA mi_X6_isA ml_X6_188 (Nat.le_of_ble_eq_true rfl) rfl (Nat.le_refl 0) (Nat.le_refl 0) H (fun r24 v23 H => ?_)
        refine AW_if_ne (tgt := 94) dX6_tells_30 (by decide) (fun c => ?_) (fun c => ?_)
        · replace H := H.1 c
          refine AW_iconst (x := 1) dX6_tells_94 (by decide) ?_
          refine AW_goto (tgt := 99) dX6_tells_95 (by decide) ?_
          refine AW_iadd dX6_tells_99 ?_
          refine AW_istore_n (L' := [some (.ref 200), some (.int l1), some (.int (l2 + 1)), some (.int l3)]) dX6_tells_100 rfl (by decide) rfl ?_
          refine AW_iinc (x' := l3 + 1) (L' := [some (.ref 200), some (.int l1), some (.int (l2 + 1)), some (.int (l3 + 1))]) dX6_tells_101 rfl rfl (by decide) rfl ?_
          refine AW_goto (tgt := 4) dX6_tells_104 (by decide) ?_
          exact H
        · replace H := H.2 c
          refine AW_iload_n dX6_tells_33 rfl rfl ?_
          refine AW_bipush (x := 6) dX6_tells_34 (by decide) ?_
          refine AW_icmp_ne (tgt := 48) dX6_tells_36 (by decide) (fun c => ?_) (fun c => ?_)
          · replace H := H.1 c
            refine AW_iload_n dX6_tells_48 rfl rfl ?_
            refine AW_bipush (x := 7) dX6_tells_49 (by decide) ?_
            refine AW_icmp_ne (tgt := 68) dX6_tells_51 (by decide) (fun c => ?_) (fun c => ?_)
            · replace H := H.1 c
              refine AW_iload_n dX6_tells_68 rfl rfl ?_
              refine AW_bipush (x := 8) dX6_tells_69 (by decide) ?_
              refine AW_icmp_ne (tgt := 98) dX6_tells_71 (by decide) (fun c => ?_) (fun c => ?_)
              · replace H := H.1 c
                refine AW_iconst (x := 0) dX6_tells_98 (by decide) ?_
                refine AW_iadd dX6_tells_99 ?_
                refine AW_istore_n (L' := [some (.ref 200), some (.int l1), some (.int (l2 + 0)), some (.int l3)]) dX6_tells_100 rfl (by decide) rfl ?_
                refine AW_iinc (x' := l3 + 1) (L' := [some (.ref 200), some (.int l1), some (.int (l2 + 0)), some (.int (l3 + 1))]) dX6_tells_101 rfl rfl (by decide) rfl ?_
                refine AW_goto (tgt := 4) dX6_tells_104 (by decide) ?_
                exact H
              · replace H := H.2 c
                refine AW_iload_n dX6_tells_74 rfl rfl ?_
                refine AW_iconst (x := 3) dX6_tells_75 (by decide) ?_
                refine AW_icmp_ge (tgt := 98) dX6_tells_76 (by decide) (fun c => ?_) (fun c => ?_)
                · replace H := H.1 c
                  refine AW_iconst (x := 0) dX6_tells_98 (by decide) ?_
                  refine AW_iadd dX6_tells_99 ?_
                  refine AW_istore_n (L' := [some (.ref 200), some (.int l1), some (.int (l2 + 0)), some (.int l3)]) dX6_tells_100 rfl (by decide) rfl ?_
                  refine AW_iinc (x' := l3 + 1) (L' := [some (.ref 200), some (.int l1), some (.int (l2 + 0)), some (.int (l3 + 1))]) dX6_tells_101 rfl rfl (by decide) rfl ?_
                  refine AW_goto (tgt := 4) dX6_tells_104 (by decide) ?_
                  exact H
                · replace H := H.2 c
                  refine AW_aload_n dX6_tells_79 rfl rfl ?_
                  refine AW_getR dX6_tells_80 (bI_200 B) fl_X6_64 (bR_200_27 B) ?_
                  refine AW_sipush (x := 920) dX6_tells_83 (by decide) ?_
                  refine AW_iload_n dX6_tells_86 rfl rfl ?_
                  refine AW_imul dX6_tells_87 ?_
                  have hi25 := H.1
                  replace H := H.2
                  refine AW_iald dX6_tells_88 (bI_227 B) hi25 ?_
                  refine AW_bipush (x := (-9)) dX6_tells_89 (by decide) ?_
                  refine AW_icmp_eq (tgt := 98) dX6_tells_91 (by decide) (fun c => ?_) (fun c => ?_)
                  · replace H := H.1 c
                    refine AW_iconst (x := 0) dX6_tells_98 (by decide) ?_
                    refine AW_iadd dX6_tells_99 ?_
                    refine AW_istore_n (L' := [some (.ref 200), some (.int l1), some (.int (l2 + 0)), some (.int l3)]) dX6_tells_100 rfl (by decide) rfl ?_
                    refine AW_iinc (x' := l3 + 1) (L' := [some (.ref 200), some (.int l1), some (.int (l2 + 0)), some (.int (l3 + 1))]) dX6_tells_101 rfl rfl (by decide) rfl ?_
                    refine AW_goto (tgt := 4) dX6_tells_104 (by decide) ?_
                    exact H
                  · replace H := H.2 c
                    refine AW_iconst (x := 1) dX6_tells_94 (by decide) ?_
                    refine AW_goto (tgt := 99) dX6_tells_95 (by decide) ?_
                    refine AW_iadd dX6_tells_99 ?_
                    refine AW_istore_n (L' := [some (.ref 200), some (.int l1), some (.int (l2 + 1)), some (.int l3)]) dX6_tells_100 rfl (by decide) rfl ?_
                    refine AW_iinc (x' := l3 + 1) (L' := [some (.ref 200), some (.int l1), some (.int (l2 + 1)), some (.int (l3 + 1))]) dX6_tells_101 rfl rfl (by decide) rfl ?_
                    refine AW_goto (tgt := 4) dX6_tells_104 (by decide) ?_
                    exact H
            · replace H := H.2 c
              refine AW_iload_n dX6_tells_54 rfl rfl ?_
              refine AW_iconst (x := 4) dX6_tells_55 (by decide) ?_
              refine AW_icmp_ge (tgt := 68) dX6_tells_56 (by decide) (fun c => ?_) (fun c => ?_)
              · replace H := H.1 c
                refine AW_iload_n dX6_tells_68 rfl rfl ?_
                refine AW_bipush (x := 8) dX6_tells_69 (by decide) ?_
                refine AW_icmp_ne (tgt := 98) dX6_tells_71 (by decide) (fun c => ?_) (fun c => ?_)
                · replace H := H.1 c
                  refine AW_iconst (x := 0) dX6_tells_98 (by decide) ?_
                  refine AW_iadd dX6_tells_99 ?_
                  refine AW_istore_n (L' := [some (.ref 200), some (.int l1), some (.int (l2 + 0)), some (.int l3)]) dX6_tells_100 rfl (by decide) rfl ?_
                  refine AW_iinc (x' := l3 + 1) (L' := [some (.ref 200), some (.int l1), some (.int (l2 + 0)), some (.int (l3 + 1))]) dX6_tells_101 rfl rfl (by decide) rfl ?_
                  refine AW_goto (tgt := 4) dX6_tells_104 (by decide) ?_
                  exact H
                · replace H := H.2 c
                  refine AW_iload_n dX6_tells_74 rfl rfl ?_
                  refine AW_iconst (x := 3) dX6_tells_75 (by decide) ?_
                  refine AW_icmp_ge (tgt := 98) dX6_tells_76 (by decide) (fun c => ?_) (fun c => ?_)
                  · replace H := H.1 c
                    refine AW_iconst (x := 0) dX6_tells_98 (by decide) ?_
                    refine AW_iadd dX6_tells_99 ?_
                    refine AW_istore_n (L' := [some (.ref 200), some (.int l1), some (.int (l2 + 0)), some (.int l3)]) dX6_tells_100 rfl (by decide) rfl ?_
                    refine AW_iinc (x' := l3 + 1) (L' := [some (.ref 200), some (.int l1), some (.int (l2 + 0)), some (.int (l3 + 1))]) dX6_tells_101 rfl rfl (by decide) rfl ?_
                    refine AW_goto (tgt := 4) dX6_tells_104 (by decide) ?_
                    exact H
                  · replace H := H.2 c
                    refine AW_aload_n dX6_tells_79 rfl rfl ?_
                    refine AW_getR dX6_tells_80 (bI_200 B) fl_X6_64 (bR_200_27 B) ?_
                    refine AW_sipush (x := 920) dX6_tells_83 (by decide) ?_
                    refine AW_iload_n dX6_tells_86 rfl rfl ?_
                    refine AW_imul dX6_tells_87 ?_
                    have hi26 := H.1
                    replace H := H.2
                    refine AW_iald dX6_tells_88 (bI_227 B) hi26 ?_
                    refine AW_bipush (x := (-9)) dX6_tells_89 (by decide) ?_
                    refine AW_icmp_eq (tgt := 98) dX6_tells_91 (by decide) (fun c => ?_) (fun c => ?_)
                    · replace H := H.1 c
                      refine AW_iconst (x := 0) dX6_tells_98 (by decide) ?_
                      refine AW_iadd dX6_tells_99 ?_
                      refine AW_istore_n (L' := [some (.ref 200), some (.int l1), some (.int (l2 + 0)), some (.int l3)]) dX6_tells_100 rfl (by decide) rfl ?_
                      refine AW_iinc (x' := l3 + 1) (L' := [some (.ref 200), some (.int l1), some (.int (l2 + 0)), some (.int (l3 + 1))]) dX6_tells_101 rfl rfl (by decide) rfl ?_
                      refine AW_goto (tgt := 4) dX6_tells_104 (by decide) ?_
                      exact H
                    · replace H := H.2 c
                      refine AW_iconst (x := 1) dX6_tells_94 (by decide) ?_
                      refine AW_goto (tgt := 99) dX6_tells_95 (by decide) ?_
                      refine AW_iadd dX6_tells_99 ?_
                      refine AW_istore_n (L' := [some (.ref 200), some (.int l1), some (.int (l2 + 1)), some (.int l3)]) dX6_tells_100 rfl (by decide) rfl ?_
                      refine AW_iinc (x' := l3 + 1) (L' := [some (.ref 200), some (.int l1), some (.int (l2 + 1)), some (.int (l3 + 1))]) dX6_tells_101 rfl rfl (by decide) rfl ?_
                      refine AW_goto (tgt := 4) dX6_tells_104 (by decide) ?_
                      exact H
              · replace H := H.2 c
                refine AW_aload_n dX6_tells_59 rfl rfl ?_
                refine AW_getR dX6_tells_60 (bI_200 B) fl_X6_22 (bR_200_6 B) ?_
                refine AW_iload_n dX6_tells_63 rfl rfl ?_
                have hi27 := H.1
                replace H := H.2
                refine AW_iald dX6_tells_64 (bI_206 B) hi27 ?_
                refine AW_if_ge (tgt := 94) dX6_tells_65 (by decide) (fun c => ?_) (fun c => ?_)
                · replace H := H.1 c
                  refine AW_iconst (x := 1) dX6_tells_94 (by decide) ?_
                  refine AW_goto (tgt := 99) dX6_tells_95 (by decide) ?_
                  refine AW_iadd dX6_tells_99 ?_
                  refine AW_istore_n (L' := [some (.ref 200), some (.int l1), some (.int (l2 + 1)), some (.int l3)]) dX6_tells_100 rfl (by decide) rfl ?_
                  refine AW_iinc (x' := l3 + 1) (L' := [some (.ref 200), some (.int l1), some (.int (l2 + 1)), some (.int (l3 + 1))]) dX6_tells_101 rfl rfl (by decide) rfl ?_
                  refine AW_goto (tgt := 4) dX6_tells_104 (by decide) ?_
                  exact H
                · replace H := H.2 c
                  refine AW_iload_n dX6_tells_68 rfl rfl ?_
                  refine AW_bipush (x := 8) dX6_tells_69 (by decide) ?_
                  refine AW_icmp_ne (tgt := 98) dX6_tells_71 (by decide) (fun c => ?_) (fun c => ?_)
                  · replace H := H.1 c
                    refine AW_iconst (x := 0) dX6_tells_98 (by decide) ?_
                    refine AW_iadd dX6_tells_99 ?_
                    refine AW_istore_n (L' := [some (.ref 200), some (.int l1), some (.int (l2 + 0)), some (.int l3)]) dX6_tells_100 rfl (by decide) rfl ?_
                    refine AW_iinc (x' := l3 + 1) (L' := [some (.ref 200), some (.int l1), some (.int (l2 + 0)), some (.int (l3 + 1))]) dX6_tells_101 rfl rfl (by decide) rfl ?_
                    refine AW_goto (tgt := 4) dX6_tells_104 (by decide) ?_
                    exact H
                  · replace H := H.2 c
                    refine AW_iload_n dX6_tells_74 rfl rfl ?_
                    refine AW_iconst (x := 3) dX6_tells_75 (by decide) ?_
                    refine AW_icmp_ge (tgt := 98) dX6_tells_76 (by decide) (fun c => ?_) (fun c => ?_)
                    · replace H := H.1 c
                      refine AW_iconst (x := 0) dX6_tells_98 (by decide) ?_
                      refine AW_iadd dX6_tells_99 ?_
                      refine AW_istore_n (L' := [some (.ref 200), some (.int l1), some (.int (l2 + 0)), some (.int l3)]) dX6_tells_100 rfl (by decide) rfl ?_
                      refine AW_iinc (x' := l3 + 1) (L' := [some (.ref 200), some (.int l1), some (.int (l2 + 0)), some (.int (l3 + 1))]) dX6_tells_101 rfl rfl (by decide) rfl ?_
                      refine AW_goto (tgt := 4) dX6_tells_104 (by decide) ?_
                      exact H
                    · replace H := H.2 c
                      refine AW_aload_n dX6_tells_79 rfl rfl ?_
                      refine AW_getR dX6_tells_80 (bI_200 B) fl_X6_64 (bR_200_27 B) ?_
                      refine AW_sipush (x := 920) dX6_tells_83 (by decide) ?_
                      refine AW_iload_n dX6_tells_86 rfl rfl ?_
                      refine AW_imul dX6_tells_87 ?_
                      have hi28 := H.1
                      replace H := H.2
                      refine AW_iald dX6_tells_88 (bI_227 B) hi28 ?_
                      refine AW_bipush (x := (-9)) dX6_tells_89 (by decide) ?_
                      refine AW_icmp_eq (tgt := 98) dX6_tells_91 (by decide) (fun c => ?_) (fun c => ?_)
                      · replace H := H.1 c
                        refine AW_iconst (x := 0) dX6_tells_98 (by decide) ?_
                        refine AW_iadd dX6_tells_99 ?_
                        refine AW_istore_n (L' := [some (.ref 200), some (.int l1), some (.int (l2 + 0)), some (.int l3)]) dX6_tells_100 rfl (by decide) rfl ?_
                        refine AW_iinc (x' := l3 + 1) (L' := [some (.ref 200), some (.int l1), some (.int (l2 + 0)), some (.int (l3 + 1))]) dX6_tells_101 rfl rfl (by decide) rfl ?_
                        refine AW_goto (tgt := 4) dX6_tells_104 (by decide) ?_
                        exact H
                      · replace H := H.2 c
                        refine AW_iconst (x := 1) dX6_tells_94 (by decide) ?_
                        refine AW_goto (tgt := 99) dX6_tells_95 (by decide) ?_
                        refine AW_iadd dX6_tells_99 ?_
                        refine AW_istore_n (L' := [some (.ref 200), some (.int l1), some (.int (l2 + 1)), some (.int l3)]) dX6_tells_100 rfl (by decide) rfl ?_
                        refine AW_iinc (x' := l3 + 1) (L' := [some (.ref 200), some (.int l1), some (.int (l2 + 1)), some (.int (l3 + 1))]) dX6_tells_101 rfl rfl (by decide) rfl ?_
                        refine AW_goto (tgt := 4) dX6_tells_104 (by decide) ?_
                        exact H
          · replace H := H.2 c
            refine AW_aload_n dX6_tells_39 rfl rfl ?_
            refine AW_getR dX6_tells_40 (bI_200 B) fl_X6_13 (bR_200_3 B) ?_
            refine AW_iload_n dX6_tells_43 rfl rfl ?_
            have hi29 := H.1
            replace H := H.2
            refine AW_iald dX6_tells_44 (bI_203 B) hi29 ?_
            refine AW_if_ge (tgt := 94) dX6_tells_45 (by decide) (fun c => ?_) (fun c => ?_)
            · replace H := H.1 c
              refine AW_iconst (x := 1) dX6_tells_94 (by decide) ?_
              refine AW_goto (tgt := 99) dX6_tells_95 (by decide) ?_
              refine AW_iadd dX6_tells_99 ?_
              refine AW_istore_n (L' := [some (.ref 200), some (.int l1), some (.int (l2 + 1)), some (.int l3)]) dX6_tells_100 rfl (by decide) rfl ?_
              refine AW_iinc (x' := l3 + 1) (L' := [some (.ref 200), some (.int l1), some (.int (l2 + 1)), some (.int (l3 + 1))]) dX6_tells_101 rfl rfl (by decide) rfl ?_
              refine AW_goto (tgt := 4) dX6_tells_104 (by decide) ?_
              exact H
            · replace H := H.2 c
              refine AW_iload_n dX6_tells_48 rfl rfl ?_
              refine AW_bipush (x := 7) dX6_tells_49 (by decide) ?_
              refine AW_icmp_ne (tgt := 68) dX6_tells_51 (by decide) (fun c => ?_) (fun c => ?_)
              · replace H := H.1 c
                refine AW_iload_n dX6_tells_68 rfl rfl ?_
                refine AW_bipush (x := 8) dX6_tells_69 (by decide) ?_
                refine AW_icmp_ne (tgt := 98) dX6_tells_71 (by decide) (fun c => ?_) (fun c => ?_)
                · replace H := H.1 c
                  refine AW_iconst (x := 0) dX6_tells_98 (by decide) ?_
                  refine AW_iadd dX6_tells_99 ?_
                  refine AW_istore_n (L' := [some (.ref 200), some (.int l1), some (.int (l2 + 0)), some (.int l3)]) dX6_tells_100 rfl (by decide) rfl ?_
                  refine AW_iinc (x' := l3 + 1) (L' := [some (.ref 200), some (.int l1), some (.int (l2 + 0)), some (.int (l3 + 1))]) dX6_tells_101 rfl rfl (by decide) rfl ?_
                  refine AW_goto (tgt := 4) dX6_tells_104 (by decide) ?_
                  exact H
                · replace H := H.2 c
                  refine AW_iload_n dX6_tells_74 rfl rfl ?_
                  refine AW_iconst (x := 3) dX6_tells_75 (by decide) ?_
                  refine AW_icmp_ge (tgt := 98) dX6_tells_76 (by decide) (fun c => ?_) (fun c => ?_)
                  · replace H := H.1 c
                    refine AW_iconst (x := 0) dX6_tells_98 (by decide) ?_
                    refine AW_iadd dX6_tells_99 ?_
                    refine AW_istore_n (L' := [some (.ref 200), some (.int l1), some (.int (l2 + 0)), some (.int l3)]) dX6_tells_100 rfl (by decide) rfl ?_
                    refine AW_iinc (x' := l3 + 1) (L' := [some (.ref 200), some (.int l1), some (.int (l2 + 0)), some (.int (l3 + 1))]) dX6_tells_101 rfl rfl (by decide) rfl ?_
                    refine AW_goto (tgt := 4) dX6_tells_104 (by decide) ?_
                    exact H
                  · replace H := H.2 c
                    refine AW_aload_n dX6_tells_79 rfl rfl ?_
                    refine AW_getR dX6_tells_80 (bI_200 B) fl_X6_64 (bR_200_27 B) ?_
                    refine AW_sipush (x := 920) dX6_tells_83 (by decide) ?_
                    refine AW_iload_n dX6_tells_86 rfl rfl ?_
                    refine AW_imul dX6_tells_87 ?_
                    have hi30 := H.1
                    replace H := H.2
                    refine AW_iald dX6_tells_88 (bI_227 B) hi30 ?_
                    refine AW_bipush (x := (-9)) dX6_tells_89 (by decide) ?_
                    refine AW_icmp_eq (tgt := 98) dX6_tells_91 (by decide) (fun c => ?_) (fun c => ?_)
                    · replace H := H.1 c
                      refine AW_iconst (x := 0) dX6_tells_98 (by decide) ?_
                      refine AW_iadd dX6_tells_99 ?_
                      refine AW_istore_n (L' := [some (.ref 200), some (.int l1), some (.int (l2 + 0)), some (.int l3)]) dX6_tells_100 rfl (by decide) rfl ?_
                      refine AW_iinc (x' := l3 + 1) (L' := [some (.ref 200), some (.int l1), some (.int (l2 + 0)), some (.int (l3 + 1))]) dX6_tells_101 rfl rfl (by decide) rfl ?_
                      refine AW_goto (tgt := 4) dX6_tells_104 (by decide) ?_
                      exact H
                    · replace H := H.2 c
                      refine AW_iconst (x := 1) dX6_tells_94 (by decide) ?_
                      refine AW_goto (tgt := 99) dX6_tells_95 (by decide) ?_
                      refine AW_iadd dX6_tells_99 ?_
                      refine AW_istore_n (L' := [some (.ref 200), some (.int l1), some (.int (l2 + 1)), some (.int l3)]) dX6_tells_100 rfl (by decide) rfl ?_
                      refine AW_iinc (x' := l3 + 1) (L' := [some (.ref 200), some (.int l1), some (.int (l2 + 1)), some (.int (l3 + 1))]) dX6_tells_101 rfl rfl (by decide) rfl ?_
                      refine AW_goto (tgt := 4) dX6_tells_104 (by decide) ?_
                      exact H
              · replace H := H.2 c
                refine AW_iload_n dX6_tells_54 rfl rfl ?_
                refine AW_iconst (x := 4) dX6_tells_55 (by decide) ?_
                refine AW_icmp_ge (tgt := 68) dX6_tells_56 (by decide) (fun c => ?_) (fun c => ?_)
                · replace H := H.1 c
                  refine AW_iload_n dX6_tells_68 rfl rfl ?_
                  refine AW_bipush (x := 8) dX6_tells_69 (by decide) ?_
                  refine AW_icmp_ne (tgt := 98) dX6_tells_71 (by decide) (fun c => ?_) (fun c => ?_)
                  · replace H := H.1 c
                    refine AW_iconst (x := 0) dX6_tells_98 (by decide) ?_
                    refine AW_iadd dX6_tells_99 ?_
                    refine AW_istore_n (L' := [some (.ref 200), some (.int l1), some (.int (l2 + 0)), some (.int l3)]) dX6_tells_100 rfl (by decide) rfl ?_
                    refine AW_iinc (x' := l3 + 1) (L' := [some (.ref 200), some (.int l1), some (.int (l2 + 0)), some (.int (l3 + 1))]) dX6_tells_101 rfl rfl (by decide) rfl ?_
                    refine AW_goto (tgt := 4) dX6_tells_104 (by decide) ?_
                    exact H
                  · replace H := H.2 c
                    refine AW_iload_n dX6_tells_74 rfl rfl ?_
                    refine AW_iconst (x := 3) dX6_tells_75 (by decide) ?_
                    refine AW_icmp_ge (tgt := 98) dX6_tells_76 (by decide) (fun c => ?_) (fun c => ?_)
                    · replace H := H.1 c
                      refine AW_iconst (x := 0) dX6_tells_98 (by decide) ?_
                      refine AW_iadd dX6_tells_99 ?_
                      refine AW_istore_n (L' := [some (.ref 200), some (.int l1), some (.int (l2 + 0)), some (.int l3)]) dX6_tells_100 rfl (by decide) rfl ?_
                      refine AW_iinc (x' := l3 + 1) (L' := [some (.ref 200), some (.int l1), some (.int (l2 + 0)), some (.int (l3 + 1))]) dX6_tells_101 rfl rfl (by decide) rfl ?_
                      refine AW_goto (tgt := 4) dX6_tells_104 (by decide) ?_
                      exact H
                    · replace H := H.2 c
                      refine AW_aload_n dX6_tells_79 rfl rfl ?_
                      refine AW_getR dX6_tells_80 (bI_200 B) fl_X6_64 (bR_200_27 B) ?_
                      refine AW_sipush (x := 920) dX6_tells_83 (by decide) ?_
                      refine AW_iload_n dX6_tells_86 rfl rfl ?_
                      refine AW_imul dX6_tells_87 ?_
                      have hi31 := H.1
                      replace H := H.2
                      refine AW_iald dX6_tells_88 (bI_227 B) hi31 ?_
                      refine AW_bipush (x := (-9)) dX6_tells_89 (by decide) ?_
                      refine AW_icmp_eq (tgt := 98) dX6_tells_91 (by decide) (fun c => ?_) (fun c => ?_)
                      · replace H := H.1 c
                        refine AW_iconst (x := 0) dX6_tells_98 (by decide) ?_
                        refine AW_iadd dX6_tells_99 ?_
                        refine AW_istore_n (L' := [some (.ref 200), some (.int l1), some (.int (l2 + 0)), some (.int l3)]) dX6_tells_100 rfl (by decide) rfl ?_
                        refine AW_iinc (x' := l3 + 1) (L' := [some (.ref 200), some (.int l1), some (.int (l2 + 0)), some (.int (l3 + 1))]) dX6_tells_101 rfl rfl (by decide) rfl ?_
                        refine AW_goto (tgt := 4) dX6_tells_104 (by decide) ?_
                        exact H
                      · replace H := H.2 c
                        refine AW_iconst (x := 1) dX6_tells_94 (by decide) ?_
                        refine AW_goto (tgt := 99) dX6_tells_95 (by decide) ?_
                        refine AW_iadd dX6_tells_99 ?_
                        refine AW_istore_n (L' := [some (.ref 200), some (.int l1), some (.int (l2 + 1)), some (.int l3)]) dX6_tells_100 rfl (by decide) rfl ?_
                        refine AW_iinc (x' := l3 + 1) (L' := [some (.ref 200), some (.int l1), some (.int (l2 + 1)), some (.int (l3 + 1))]) dX6_tells_101 rfl rfl (by decide) rfl ?_
                        refine AW_goto (tgt := 4) dX6_tells_104 (by decide) ?_
                        exact H
                · replace H := H.2 c
                  refine AW_aload_n dX6_tells_59 rfl rfl ?_
                  refine AW_getR dX6_tells_60 (bI_200 B) fl_X6_22 (bR_200_6 B) ?_
                  refine AW_iload_n dX6_tells_63 rfl rfl ?_
                  have hi32 := H.1
                  replace H := H.2
                  refine AW_iald dX6_tells_64 (bI_206 B) hi32 ?_
                  refine AW_if_ge (tgt := 94) dX6_tells_65 (by decide) (fun c => ?_) (fun c => ?_)
                  · replace H := H.1 c
                    refine AW_iconst (x := 1) dX6_tells_94 (by decide) ?_
                    refine AW_goto (tgt := 99) dX6_tells_95 (by decide) ?_
                    refine AW_iadd dX6_tells_99 ?_
                    refine AW_istore_n (L' := [some (.ref 200), some (.int l1), some (.int (l2 + 1)), some (.int l3)]) dX6_tells_100 rfl (by decide) rfl ?_
                    refine AW_iinc (x' := l3 + 1) (L' := [some (.ref 200), some (.int l1), some (.int (l2 + 1)), some (.int (l3 + 1))]) dX6_tells_101 rfl rfl (by decide) rfl ?_
                    refine AW_goto (tgt := 4) dX6_tells_104 (by decide) ?_
                    exact H
                  · replace H := H.2 c
                    refine AW_iload_n dX6_tells_68 rfl rfl ?_
                    refine AW_bipush (x := 8) dX6_tells_69 (by decide) ?_
                    refine AW_icmp_ne (tgt := 98) dX6_tells_71 (by decide) (fun c => ?_) (fun c => ?_)
                    · replace H := H.1 c
                      refine AW_iconst (x := 0) dX6_tells_98 (by decide) ?_
                      refine AW_iadd dX6_tells_99 ?_
                      refine AW_istore_n (L' := [some (.ref 200), some (.int l1), some (.int (l2 + 0)), some (.int l3)]) dX6_tells_100 rfl (by decide) rfl ?_
                      refine AW_iinc (x' := l3 + 1) (L' := [some (.ref 200), some (.int l1), some (.int (l2 + 0)), some (.int (l3 + 1))]) dX6_tells_101 rfl rfl (by decide) rfl ?_
                      refine AW_goto (tgt := 4) dX6_tells_104 (by decide) ?_
                      exact H
                    · replace H := H.2 c
                      refine AW_iload_n dX6_tells_74 rfl rfl ?_
                      refine AW_iconst (x := 3) dX6_tells_75 (by decide) ?_
                      refine AW_icmp_ge (tgt := 98) dX6_tells_76 (by decide) (fun c => ?_) (fun c => ?_)
                      · replace H := H.1 c
                        refine AW_iconst (x := 0) dX6_tells_98 (by decide) ?_
                        refine AW_iadd dX6_tells_99 ?_
                        refine AW_istore_n (L' := [some (.ref 200), some (.int l1), some (.int (l2 + 0)), some (.int l3)]) dX6_tells_100 rfl (by decide) rfl ?_
                        refine AW_iinc (x' := l3 + 1) (L' := [some (.ref 200), some (.int l1), some (.int (l2 + 0)), some (.int (l3 + 1))]) dX6_tells_101 rfl rfl (by decide) rfl ?_
                        refine AW_goto (tgt := 4) dX6_tells_104 (by decide) ?_
                        exact H
                      · replace H := H.2 c
                        refine AW_aload_n dX6_tells_79 rfl rfl ?_
                        refine AW_getR dX6_tells_80 (bI_200 B) fl_X6_64 (bR_200_27 B) ?_
                        refine AW_sipush (x := 920) dX6_tells_83 (by decide) ?_
                        refine AW_iload_n dX6_tells_86 rfl rfl ?_
                        refine AW_imul dX6_tells_87 ?_
                        have hi33 := H.1
                        replace H := H.2
                        refine AW_iald dX6_tells_88 (bI_227 B) hi33 ?_
                        refine AW_bipush (x := (-9)) dX6_tells_89 (by decide) ?_
                        refine AW_icmp_eq (tgt := 98) dX6_tells_91 (by decide) (fun c => ?_) (fun c => ?_)
                        · replace H := H.1 c
                          refine AW_iconst (x := 0) dX6_tells_98 (by decide) ?_
                          refine AW_iadd dX6_tells_99 ?_
                          refine AW_istore_n (L' := [some (.ref 200), some (.int l1), some (.int (l2 + 0)), some (.int l3)]) dX6_tells_100 rfl (by decide) rfl ?_
                          refine AW_iinc (x' := l3 + 1) (L' := [some (.ref 200), some (.int l1), some (.int (l2 + 0)), some (.int (l3 + 1))]) dX6_tells_101 rfl rfl (by decide) rfl ?_
                          refine AW_goto (tgt := 4) dX6_tells_104 (by decide) ?_
                          exact H
                        · replace H := H.2 c
                          refine AW_iconst (x := 1) dX6_tells_94 (by decide) ?_
                          refine AW_goto (tgt := 99) dX6_tells_95 (by decide) ?_
                          refine AW_iadd dX6_tells_99 ?_
                          refine AW_istore_n (L' := [some (.ref 200), some (.int l1), some (.int (l2 + 1)), some (.int l3)]) dX6_tells_100 rfl (by decide) rfl ?_
                          refine AW_iinc (x' := l3 + 1) (L' := [some (.ref 200), some (.int l1), some (.int (l2 + 1)), some (.int (l3 + 1))]) dX6_tells_101 rfl rfl (by decide) rfl ?_
                          refine AW_goto (tgt := 4) dX6_tells_104 (by decide) ?_
                          exact H
set_option maxRecDepth 100000 in
set_option maxHeartbeats 4000000 in
theorem vc_X6_count {G : xG} {d : Nat} {z : xZ} {v : xS} {Q : Int32 → xS → Prop} (B : Base z) {xa : Int32} 
    (H : (oX6_in G d [(.int xa), (.int 0), (.int 8)] z v (fun r2 v1 => ((r2 = 0 → Q (-1) v1) ∧ (¬ r2 = 0 → (oX6_tells G d [(.ref 200), (.int xa)] z v1 (fun r4 v3 => Q r4 v3))))))) :
    oX6_count G (d + 1) [(.ref 200), (.int xa)] z v Q := by
  refine Ok_of (own := RX6) (by decide) rfl (Nat.le_of_ble_eq_true rfl) ?_
  show AW G (d + 1) 0 0 yX6_count cX6_count 2 (some .int) RX6 0 0 0 [some (.ref 200), some (.int xa)] [] z v _
  refine AW_iload_n dX6_count_0 rfl rfl ?_
  refine AW_iconst (x := 0) dX6_count_1 (by decide) ?_
  refine AW_bipush (x := 8) dX6_count_2 (by decide) ?_
  refine AW_sI (as := [(.int xa), (.int 0), (.int 8)]) (st := []) dX6_count_4 mv_X6_in ms_X6_in ml_X6_92 (Nat.le_of_ble_eq_true rfl) rfl (Nat.le_refl 0) (Nat.le_refl 0) H (fun r2 v1 H => ?_)
  refine AW_if_eq (tgt := 18) dX6_count_7 (by decide) (fun c => ?_) (fun c => ?_)
  · replace H := H.1 c
    refine AW_iconst (x := (-1)) dX6_count_18 (by decide) ?_
    exact AW_rI dX6_count_19 rfl rfl H
  · replace H := H.2 c
    refine AW_aload_n dX6_count_10 rfl rfl ?_
    refine AW_iload_n dX6_count_11 rfl rfl ?_
    refine AW_vI (as := [(.int xa)]) (st := []) dX6_count_12 (bI_200 B) (by decide) rfl mv_X6_tells mi_X6_tells ml_X6_330 (Nat.le_of_ble_eq_true rfl) rfl (Nat.le_refl 0) (Nat.le_refl 0) H (fun r4 v3 H => ?_)
    refine AW_goto (tgt := 19) dX6_count_15 (by decide) ?_
    exact AW_rI dX6_count_19 rfl rfl H
set_option maxRecDepth 100000 in
set_option maxHeartbeats 4000000 in
theorem vc_X6_finding {G : xG} {d : Nat} {z : xZ} {v : xS} {Q : Int32 → xS → Prop} (B : Base z)  
    (H : Q (v.1 200 0) v) :
    oX6_finding G (d + 1) [(.ref 200)] z v Q := by
  refine Ok_of (own := RX6) (by decide) rfl (Nat.le_of_ble_eq_true rfl) ?_
  show AW G (d + 1) 0 0 yX6_finding cX6_finding 1 (some .int) RX6 0 0 0 [some (.ref 200)] [] z v _
  refine AW_aload_n dX6_finding_0 rfl rfl ?_
  refine AW_getI dX6_finding_1 (bI_200 B) fl_X6_85 ?_
  exact AW_rI dX6_finding_4 rfl rfl H
set_option maxRecDepth 100000 in
set_option maxHeartbeats 4000000 in
theorem vc_X6_findings {G : xG} {d : Nat} {z : xZ} {v : xS} {Q : Int32 → xS → Prop} (B : Base z) {xa : Int32} 
    (H : (oX6_in G d [(.int xa), (.int 1), (.int 5)] z v (fun r2 v1 => ((r2 = 0 → Q (-1) v1) ∧ (¬ r2 = 0 → (vp_in xa 6 ∧ Q (v1.1 201 xa.toNatClampNeg) v1)))))) :
    oX6_findings G (d + 1) [(.ref 200), (.int xa)] z v Q := by
  refine Ok_of (own := RX6) (by decide) rfl (Nat.le_of_ble_eq_true rfl) ?_
  show AW G (d + 1) 0 0 yX6_findings cX6_findings 2 (some .int) RX6 0 0 0 [some (.ref 200), some (.int xa)] [] z v _
  refine AW_iload_n dX6_findings_0 rfl rfl ?_
  refine AW_iconst (x := 1) dX6_findings_1 (by decide) ?_
  refine AW_iconst (x := 5) dX6_findings_2 (by decide) ?_
  refine AW_sI (as := [(.int xa), (.int 1), (.int 5)]) (st := []) dX6_findings_3 mv_X6_in ms_X6_in ml_X6_92 (Nat.le_of_ble_eq_true rfl) rfl (Nat.le_refl 0) (Nat.le_refl 0) H (fun r2 v1 H => ?_)
  refine AW_if_eq (tgt := 18) dX6_findings_6 (by decide) (fun c => ?_) (fun c => ?_)
  · replace H := H.1 c
    refine AW_iconst (x := (-1)) dX6_findings_18 (by decide) ?_
    exact AW_rI dX6_findings_19 rfl rfl H
  · replace H := H.2 c
    refine AW_aload_n dX6_findings_9 rfl rfl ?_
    refine AW_getR dX6_findings_10 (bI_200 B) fl_X6_7 (bR_200_1 B) ?_
    refine AW_iload_n dX6_findings_13 rfl rfl ?_
    have hi3 := H.1
    replace H := H.2
    refine AW_iald dX6_findings_14 (bI_201 B) hi3 ?_
    refine AW_goto (tgt := 19) dX6_findings_15 (by decide) ?_
    exact AW_rI dX6_findings_19 rfl rfl H
set_option maxRecDepth 100000 in
set_option maxHeartbeats 4000000 in
theorem vc_X6_mix {G : xG} {d : Nat} {z : xZ} {v : xS} {Q : xS → Prop} (B : Base z) {xa : Int32} 
    (H : (∀ v1 : xS, v1 = wL v 200 41 ((31 * (v.2 200 41)) + xa.toInt64) → Q v1)) :
    oX6_mix G (d + 1) [(.ref 200), (.int xa)] z v Q := by
  refine Ok_of (own := RX6) (by decide) rfl (Nat.le_of_ble_eq_true rfl) ?_
  show AW G (d + 1) 0 0 yX6_mix cX6_mix 2 none RX6 0 0 0 [some (.ref 200), some (.int xa)] [] z v _
  refine AW_aload_n dX6_mix_0 rfl rfl ?_
  refine AW_ldc2 dX6_mix_1 kl_X6_333 ?_
  refine AW_aload_n dX6_mix_4 rfl rfl ?_
  refine AW_getL dX6_mix_5 (bI_200 B) fl_X6_335 ?_
  refine AW_lmul dX6_mix_8 ?_
  refine AW_iload_n dX6_mix_9 rfl rfl ?_
  refine AW_i2l dX6_mix_10 ?_
  refine AW_ladd dX6_mix_11 ?_
  refine AW_putLN dX6_mix_12 (bI_200 B) fl_X6_335 rfl rfl rfl (fun v1 hv1 => ?_)
  replace H := H v1 hv1
  exact AW_rV dX6_mix_15 rfl H
set_option maxRecDepth 100000 in
set_option maxHeartbeats 4000000 in
theorem vc_X6_mixLand {G : xG} {d : Nat} {z : xZ} {v : xS} {Q : xS → Prop} (B : Base z)  
    (H : aX6_mixLand G (d + 1) 2 [some (.ref 200), some (.int 0), none] [] z v Q) :
    oX6_mixLand G (d + 1) [(.ref 200)] z v Q := by
  refine Ok_of (own := RX6) (by decide) rfl (Nat.le_of_ble_eq_true rfl) ?_
  show AW G (d + 1) 0 0 yX6_mixLand cX6_mixLand 3 none RX6 0 0 0 [some (.ref 200), none, none] [] z v _
  refine AW_iconst (x := 0) dX6_mixLand_0 (by decide) ?_
  refine AW_istore_n (L' := [some (.ref 200), some (.int 0), none]) dX6_mixLand_1 rfl (by decide) rfl ?_
  exact H
set_option maxRecDepth 100000 in
set_option maxHeartbeats 4000000 in
theorem vc_X6_mixLand_2 {G : xG} {d : Nat} {z : xZ} {v : xS} {Q : xS → Prop} (B : Base z)  {l1 : Int32} 
    (H : (((v.1 200 8) ≤ l1 → aX6_mixLand G (d + 1) 40 [some (.ref 200), some (.int 0), none] [] z v Q) ∧ (¬ (v.1 200 8) ≤ l1 → (vp_in l1 10 ∧ (oX6_mix G d [(.ref 200), (.int (v.1 210 l1.toNatClampNeg))] z v (fun v2 => (oX6_mix G d [(.ref 200), (.int (((v2.1 200 15) >>> (l1 &&& 31)) &&& 1))] z v2 (fun v3 => aX6_mixLand G (d + 1) 2 [some (.ref 200), some (.int (l1 + 1)), none] [] z v3 Q)))))))) :
    aX6_mixLand G (d + 1) 2 [some (.ref 200), some (.int l1), none] [] z v Q := by
  refine AW_iload_n dX6_mixLand_2 rfl rfl ?_
  refine AW_aload_n dX6_mixLand_3 rfl rfl ?_
  refine AW_getI dX6_mixLand_4 (bI_200 B) fl_X6_151 ?_
  refine AW_icmp_ge (tgt := 38) dX6_mixLand_7 (by decide) (fun c => ?_) (fun c => ?_)
  · replace H := H.1 c
    refine AW_iconst (x := 0) dX6_mixLand_38 (by decide) ?_
    refine AW_istore_n (L' := [some (.ref 200), some (.int 0), none]) dX6_mixLand_39 rfl (by decide) rfl ?_
    exact H
  · replace H := H.2 c
    refine AW_aload_n dX6_mixLand_10 rfl rfl ?_
    refine AW_aload_n dX6_mixLand_11 rfl rfl ?_
    refine AW_getR dX6_mixLand_12 (bI_200 B) fl_X6_28 (bR_200_10 B) ?_
    refine AW_iload_n dX6_mixLand_15 rfl rfl ?_
    have hi1 := H.1
    replace H := H.2
    refine AW_iald dX6_mixLand_16 (bI_210 B) hi1 ?_
    refine AW_vV (as := [(.int (v.1 210 l1.toNatClampNeg))]) (st := []) dX6_mixLand_17 (bI_200 B) (by decide) rfl mv_X6_mix mi_X6_mix ml_X6_339 (Nat.le_of_ble_eq_true rfl) rfl (Nat.le_refl 0) (Nat.le_refl 0) H (fun v2 H => ?_)
    refine AW_aload_n dX6_mixLand_20 rfl rfl ?_
    refine AW_aload_n dX6_mixLand_21 rfl rfl ?_
    refine AW_getI dX6_mixLand_22 (bI_200 B) fl_X6_157 ?_
    refine AW_iload_n dX6_mixLand_25 rfl rfl ?_
    refine AW_ishr dX6_mixLand_26 ?_
    refine AW_iconst (x := 1) dX6_mixLand_27 (by decide) ?_
    refine AW_iand dX6_mixLand_28 ?_
    refine AW_vV (as := [(.int (((v2.1 200 15) >>> (l1 &&& 31)) &&& 1))]) (st := []) dX6_mixLand_29 (bI_200 B) (by decide) rfl mv_X6_mix mi_X6_mix ml_X6_339 (Nat.le_of_ble_eq_true rfl) rfl (Nat.le_refl 0) (Nat.le_refl 0) H (fun v3 H => ?_)
    refine AW_iinc (x' := l1 + 1) (L' := [some (.ref 200), some (.int (l1 + 1)), none]) dX6_mixLand_32 rfl rfl (by decide) rfl ?_
    refine AW_goto (tgt := 2) dX6_mixLand_35 (by decide) ?_
    exact H
set_option maxRecDepth 100000 in
set_option maxHeartbeats 4000000 in
theorem vc_X6_mixLand_40 {G : xG} {d : Nat} {z : xZ} {v : xS} {Q : xS → Prop} (B : Base z)  {l1 : Int32} 
    (H : (((v.1 200 9) ≤ l1 → aX6_mixLand G (d + 1) 79 [some (.ref 200), some (.int 0), none] [] z v Q) ∧ (¬ (v.1 200 9) ≤ l1 → aX6_mixLand G (d + 1) 50 [some (.ref 200), some (.int l1), some (.int 0)] [] z v Q))) :
    aX6_mixLand G (d + 1) 40 [some (.ref 200), some (.int l1), none] [] z v Q := by
  refine AW_iload_n dX6_mixLand_40 rfl rfl ?_
  refine AW_aload_n dX6_mixLand_41 rfl rfl ?_
  refine AW_getI dX6_mixLand_42 (bI_200 B) fl_X6_154 ?_
  refine AW_icmp_ge (tgt := 77) dX6_mixLand_45 (by decide) (fun c => ?_) (fun c => ?_)
  · replace H := H.1 c
    refine AW_iconst (x := 0) dX6_mixLand_77 (by decide) ?_
    refine AW_istore_n (L' := [some (.ref 200), some (.int 0), none]) dX6_mixLand_78 rfl (by decide) rfl ?_
    exact H
  · replace H := H.2 c
    refine AW_iconst (x := 0) dX6_mixLand_48 (by decide) ?_
    refine AW_istore_n (L' := [some (.ref 200), some (.int l1), some (.int 0)]) dX6_mixLand_49 rfl (by decide) rfl ?_
    exact H
set_option maxRecDepth 100000 in
set_option maxHeartbeats 4000000 in
theorem vc_X6_mixLand_50 {G : xG} {d : Nat} {z : xZ} {v : xS} {Q : xS → Prop} (B : Base z)  {l1 : Int32} {l2 : Int32} 
    (H : ((4 < l2 → aX6_mixLand G (d + 1) 40 [some (.ref 200), some (.int (l1 + 1)), none] [] z v Q) ∧ (¬ 4 < l2 → (oX6_bandOf G d [(.ref 200), (.int l1), (.int l2)] z v (fun r2 v1 => (oX6_mix G d [(.ref 200), (.int r2)] z v1 (fun v3 => aX6_mixLand G (d + 1) 50 [some (.ref 200), some (.int l1), some (.int (l2 + 1))] [] z v3 Q))))))) :
    aX6_mixLand G (d + 1) 50 [some (.ref 200), some (.int l1), some (.int l2)] [] z v Q := by
  refine AW_iload_n dX6_mixLand_50 rfl rfl ?_
  refine AW_iconst (x := 4) dX6_mixLand_51 (by decide) ?_
  refine AW_icmp_gt (tgt := 71) dX6_mixLand_52 (by decide) (fun c => ?_) (fun c => ?_)
  · replace H := H.1 c
    refine AW_iinc (x' := l1 + 1) (L' := [some (.ref 200), some (.int (l1 + 1)), some (.int l2)]) dX6_mixLand_71 rfl rfl (by decide) rfl ?_
    refine AW_goto (tgt := 40) dX6_mixLand_74 (by decide) ?_
    refine AW_sub (L' := [some (.ref 200), some (.int (l1 + 1)), none]) (show xle _ _ from ⟨rfl, ⟨rfl, trivial⟩⟩) ?_
    exact H
  · replace H := H.2 c
    refine AW_aload_n dX6_mixLand_55 rfl rfl ?_
    refine AW_aload_n dX6_mixLand_56 rfl rfl ?_
    refine AW_iload_n dX6_mixLand_57 rfl rfl ?_
    refine AW_iload_n dX6_mixLand_58 rfl rfl ?_
    refine AW_vI (as := [(.int l1), (.int l2)]) (st := [(.ref 200)]) dX6_mixLand_59 (bI_200 B) (by decide) rfl mv_X6_bandOf mi_X6_bandOf ml_X6_182 (Nat.le_of_ble_eq_true rfl) rfl (Nat.le_refl 0) (Nat.le_refl 0) H (fun r2 v1 H => ?_)
    refine AW_vV (as := [(.int r2)]) (st := []) dX6_mixLand_62 (bI_200 B) (by decide) rfl mv_X6_mix mi_X6_mix ml_X6_339 (Nat.le_of_ble_eq_true rfl) rfl (Nat.le_refl 0) (Nat.le_refl 0) H (fun v3 H => ?_)
    refine AW_iinc (x' := l2 + 1) (L' := [some (.ref 200), some (.int l1), some (.int (l2 + 1))]) dX6_mixLand_65 rfl rfl (by decide) rfl ?_
    refine AW_goto (tgt := 50) dX6_mixLand_68 (by decide) ?_
    exact H
set_option maxRecDepth 100000 in
set_option maxHeartbeats 4000000 in
theorem vc_X6_mixLand_79 {G : xG} {d : Nat} {z : xZ} {v : xS} {Q : xS → Prop} (B : Base z)  {l1 : Int32} 
    (H : (((v.1 200 24) ≤ l1 → aX6_mixLand G (d + 1) 105 [some (.ref 200), some (.int 0), none] [] z v Q) ∧ (¬ (v.1 200 24) ≤ l1 → (vp_in l1 60 ∧ (oX6_mix G d [(.ref 200), (.int (v.1 225 l1.toNatClampNeg))] z v (fun v2 => aX6_mixLand G (d + 1) 79 [some (.ref 200), some (.int (l1 + 1)), none] [] z v2 Q)))))) :
    aX6_mixLand G (d + 1) 79 [some (.ref 200), some (.int l1), none] [] z v Q := by
  refine AW_iload_n dX6_mixLand_79 rfl rfl ?_
  refine AW_aload_n dX6_mixLand_80 rfl rfl ?_
  refine AW_getI dX6_mixLand_81 (bI_200 B) fl_X6_160 ?_
  refine AW_icmp_ge (tgt := 103) dX6_mixLand_84 (by decide) (fun c => ?_) (fun c => ?_)
  · replace H := H.1 c
    refine AW_iconst (x := 0) dX6_mixLand_103 (by decide) ?_
    refine AW_istore_n (L' := [some (.ref 200), some (.int 0), none]) dX6_mixLand_104 rfl (by decide) rfl ?_
    exact H
  · replace H := H.2 c
    refine AW_aload_n dX6_mixLand_87 rfl rfl ?_
    refine AW_aload_n dX6_mixLand_88 rfl rfl ?_
    refine AW_getR dX6_mixLand_89 (bI_200 B) fl_X6_58 (bR_200_25 B) ?_
    refine AW_iload_n dX6_mixLand_92 rfl rfl ?_
    have hi1 := H.1
    replace H := H.2
    refine AW_iald dX6_mixLand_93 (bI_225 B) hi1 ?_
    refine AW_vV (as := [(.int (v.1 225 l1.toNatClampNeg))]) (st := []) dX6_mixLand_94 (bI_200 B) (by decide) rfl mv_X6_mix mi_X6_mix ml_X6_339 (Nat.le_of_ble_eq_true rfl) rfl (Nat.le_refl 0) (Nat.le_refl 0) H (fun v2 H => ?_)
    refine AW_iinc (x' := l1 + 1) (L' := [some (.ref 200), some (.int (l1 + 1)), none]) dX6_mixLand_97 rfl rfl (by decide) rfl ?_
    refine AW_goto (tgt := 79) dX6_mixLand_100 (by decide) ?_
    exact H
set_option maxRecDepth 100000 in
set_option maxHeartbeats 4000000 in
theorem vc_X6_mixLand_105 {G : xG} {d : Nat} {z : xZ} {v : xS} {Q : xS → Prop} (B : Base z)  {l1 : Int32} 
    (H : ((3 ≤ l1 → Q v) ∧ (¬ 3 ≤ l1 → (vp_in (920 * l1) 2760 ∧ ((¬ (v.1 227 (920 * l1).toNatClampNeg) = (-9) → (vp_in (920 * l1) 2760 ∧ (oX6_mix G d [(.ref 200), (.int (v.1 227 (920 * l1).toNatClampNeg))] z v (fun v3 => aX6_mixLand G (d + 1) 105 [some (.ref 200), some (.int (l1 + 1)), none] [] z v3 Q)))) ∧ ((v.1 227 (920 * l1).toNatClampNeg) = (-9) → (oX6_mix G d [(.ref 200), (.int (-1))] z v (fun v4 => aX6_mixLand G (d + 1) 105 [some (.ref 200), some (.int (l1 + 1)), none] [] z v4 Q)))))))) :
    aX6_mixLand G (d + 1) 105 [some (.ref 200), some (.int l1), none] [] z v Q := by
  refine AW_iload_n dX6_mixLand_105 rfl rfl ?_
  refine AW_iconst (x := 3) dX6_mixLand_106 (by decide) ?_
  refine AW_icmp_ge (tgt := 149) dX6_mixLand_107 (by decide) (fun c => ?_) (fun c => ?_)
  · replace H := H.1 c
    exact AW_rV dX6_mixLand_149 rfl H
  · replace H := H.2 c
    refine AW_aload_n dX6_mixLand_110 rfl rfl ?_
    refine AW_aload_n dX6_mixLand_111 rfl rfl ?_
    refine AW_getR dX6_mixLand_112 (bI_200 B) fl_X6_64 (bR_200_27 B) ?_
    refine AW_sipush (x := 920) dX6_mixLand_115 (by decide) ?_
    refine AW_iload_n dX6_mixLand_118 rfl rfl ?_
    refine AW_imul dX6_mixLand_119 ?_
    have hi1 := H.1
    replace H := H.2
    refine AW_iald dX6_mixLand_120 (bI_227 B) hi1 ?_
    refine AW_bipush (x := (-9)) dX6_mixLand_121 (by decide) ?_
    refine AW_icmp_ne (tgt := 130) dX6_mixLand_123 (by decide) (fun c => ?_) (fun c => ?_)
    · replace H := H.1 c
      refine AW_aload_n dX6_mixLand_130 rfl rfl ?_
      refine AW_getR dX6_mixLand_131 (bI_200 B) fl_X6_64 (bR_200_27 B) ?_
      refine AW_sipush (x := 920) dX6_mixLand_134 (by decide) ?_
      refine AW_iload_n dX6_mixLand_137 rfl rfl ?_
      refine AW_imul dX6_mixLand_138 ?_
      have hi2 := H.1
      replace H := H.2
      refine AW_iald dX6_mixLand_139 (bI_227 B) hi2 ?_
      refine AW_vV (as := [(.int (v.1 227 (920 * l1).toNatClampNeg))]) (st := []) dX6_mixLand_140 (bI_200 B) (by decide) rfl mv_X6_mix mi_X6_mix ml_X6_339 (Nat.le_of_ble_eq_true rfl) rfl (Nat.le_refl 0) (Nat.le_refl 0) H (fun v3 H => ?_)
      refine AW_iinc (x' := l1 + 1) (L' := [some (.ref 200), some (.int (l1 + 1)), none]) dX6_mixLand_143 rfl rfl (by decide) rfl ?_
      refine AW_goto (tgt := 105) dX6_mixLand_146 (by decide) ?_
      exact H
    · replace H := H.2 c
      refine AW_iconst (x := (-1)) dX6_mixLand_126 (by decide) ?_
      refine AW_goto (tgt := 140) dX6_mixLand_127 (by decide) ?_
      refine AW_vV (as := [(.int (-1))]) (st := []) dX6_mixLand_140 (bI_200 B) (by decide) rfl mv_X6_mix mi_X6_mix ml_X6_339 (Nat.le_of_ble_eq_true rfl) rfl (Nat.le_refl 0) (Nat.le_refl 0) H (fun v4 H => ?_)
      refine AW_iinc (x' := l1 + 1) (L' := [some (.ref 200), some (.int (l1 + 1)), none]) dX6_mixLand_143 rfl rfl (by decide) rfl ?_
      refine AW_goto (tgt := 105) dX6_mixLand_146 (by decide) ?_
      exact H
set_option maxRecDepth 100000 in
set_option maxHeartbeats 4000000 in
theorem vc_X6_digest {G : xG} {d : Nat} {z : xZ} {v : xS} {Q : Int64 → xS → Prop} (B : Base z)  
    (H : (∀ v1 : xS, v1 = wL v 200 41 17 → aX6_digest G (d + 1) 9 [some (.ref 200), some (.int 0), none] [] z v1 Q)) :
    oX6_digest G (d + 1) [(.ref 200)] z v Q := by
  refine Ok_of (own := RX6) (by decide) rfl (Nat.le_of_ble_eq_true rfl) ?_
  show AW G (d + 1) 0 0 yX6_digest cX6_digest 3 (some .long) RX6 0 0 0 [some (.ref 200), none, none] [] z v _
  refine AW_aload_n dX6_digest_0 rfl rfl ?_
  refine AW_ldc2 dX6_digest_1 kl_X6_342 ?_
  refine AW_putLN dX6_digest_4 (bI_200 B) fl_X6_335 rfl rfl rfl (fun v1 hv1 => ?_)
  replace H := H v1 hv1
  refine AW_iconst (x := 0) dX6_digest_7 (by decide) ?_
  refine AW_istore_n (L' := [some (.ref 200), some (.int 0), none]) dX6_digest_8 rfl (by decide) rfl ?_
  exact H
set_option maxRecDepth 100000 in
set_option maxHeartbeats 4000000 in
theorem vc_X6_digest_9 {G : xG} {d : Nat} {z : xZ} {v : xS} {Q : Int64 → xS → Prop} (B : Base z)  {l1 : Int32} 
    (H : ((8 < l1 → (oX6_mixLand G d [(.ref 200)] z v (fun v1 => aX6_digest G (d + 1) 36 [some (.ref 200), some (.int 0), none] [] z v1 Q))) ∧ (¬ 8 < l1 → (oX6_tells G d [(.ref 200), (.int l1)] z v (fun r3 v2 => (oX6_mix G d [(.ref 200), (.int r3)] z v2 (fun v4 => aX6_digest G (d + 1) 9 [some (.ref 200), some (.int (l1 + 1)), none] [] z v4 Q))))))) :
    aX6_digest G (d + 1) 9 [some (.ref 200), some (.int l1), none] [] z v Q := by
  refine AW_iload_n dX6_digest_9 rfl rfl ?_
  refine AW_bipush (x := 8) dX6_digest_10 (by decide) ?_
  refine AW_icmp_gt (tgt := 30) dX6_digest_12 (by decide) (fun c => ?_) (fun c => ?_)
  · replace H := H.1 c
    refine AW_aload_n dX6_digest_30 rfl rfl ?_
    refine AW_vV (as := []) (st := []) dX6_digest_31 (bI_200 B) (by decide) rfl mv_X6_mixLand mi_X6_mixLand ml_X6_344 (Nat.le_of_ble_eq_true rfl) rfl (Nat.le_refl 0) (Nat.le_refl 0) H (fun v1 H => ?_)
    refine AW_iconst (x := 0) dX6_digest_34 (by decide) ?_
    refine AW_istore_n (L' := [some (.ref 200), some (.int 0), none]) dX6_digest_35 rfl (by decide) rfl ?_
    exact H
  · replace H := H.2 c
    refine AW_aload_n dX6_digest_15 rfl rfl ?_
    refine AW_aload_n dX6_digest_16 rfl rfl ?_
    refine AW_iload_n dX6_digest_17 rfl rfl ?_
    refine AW_vI (as := [(.int l1)]) (st := [(.ref 200)]) dX6_digest_18 (bI_200 B) (by decide) rfl mv_X6_tells mi_X6_tells ml_X6_330 (Nat.le_of_ble_eq_true rfl) rfl (Nat.le_refl 0) (Nat.le_refl 0) H (fun r3 v2 H => ?_)
    refine AW_vV (as := [(.int r3)]) (st := []) dX6_digest_21 (bI_200 B) (by decide) rfl mv_X6_mix mi_X6_mix ml_X6_339 (Nat.le_of_ble_eq_true rfl) rfl (Nat.le_refl 0) (Nat.le_refl 0) H (fun v4 H => ?_)
    refine AW_iinc (x' := l1 + 1) (L' := [some (.ref 200), some (.int (l1 + 1)), none]) dX6_digest_24 rfl rfl (by decide) rfl ?_
    refine AW_goto (tgt := 9) dX6_digest_27 (by decide) ?_
    exact H
set_option maxRecDepth 100000 in
set_option maxHeartbeats 4000000 in
theorem vc_X6_digest_36 {G : xG} {d : Nat} {z : xZ} {v : xS} {Q : Int64 → xS → Prop} (B : Base z)  {l1 : Int32} 
    (H : ((6 ≤ l1 → aX6_digest G (d + 1) 101 [some (.ref 200), some (.int 0), none] [] z v Q) ∧ (¬ 6 ≤ l1 → (vp_in l1 6 ∧ ((0 ≤ (v.1 203 l1.toNatClampNeg) → (vp_in l1 6 ∧ (oX6_mix G d [(.ref 200), (.int (v.1 203 l1.toNatClampNeg))] z v (fun v3 => aX6_digest G (d + 1) 67 [some (.ref 200), some (.int l1), some (.int 0)] [] z v3 Q)))) ∧ (¬ 0 ≤ (v.1 203 l1.toNatClampNeg) → (oX6_mix G d [(.ref 200), (.int (-1))] z v (fun v4 => aX6_digest G (d + 1) 67 [some (.ref 200), some (.int l1), some (.int 0)] [] z v4 Q)))))))) :
    aX6_digest G (d + 1) 36 [some (.ref 200), some (.int l1), none] [] z v Q := by
  refine AW_iload_n dX6_digest_36 rfl rfl ?_
  refine AW_bipush (x := 6) dX6_digest_37 (by decide) ?_
  refine AW_icmp_ge (tgt := 99) dX6_digest_39 (by decide) (fun c => ?_) (fun c => ?_)
  · replace H := H.1 c
    refine AW_iconst (x := 0) dX6_digest_99 (by decide) ?_
    refine AW_istore_n (L' := [some (.ref 200), some (.int 0), none]) dX6_digest_100 rfl (by decide) rfl ?_
    exact H
  · replace H := H.2 c
    refine AW_aload_n dX6_digest_42 rfl rfl ?_
    refine AW_aload_n dX6_digest_43 rfl rfl ?_
    refine AW_getR dX6_digest_44 (bI_200 B) fl_X6_13 (bR_200_3 B) ?_
    refine AW_iload_n dX6_digest_47 rfl rfl ?_
    have hi1 := H.1
    replace H := H.2
    refine AW_iald dX6_digest_48 (bI_203 B) hi1 ?_
    refine AW_if_ge (tgt := 56) dX6_digest_49 (by decide) (fun c => ?_) (fun c => ?_)
    · replace H := H.1 c
      refine AW_aload_n dX6_digest_56 rfl rfl ?_
      refine AW_getR dX6_digest_57 (bI_200 B) fl_X6_13 (bR_200_3 B) ?_
      refine AW_iload_n dX6_digest_60 rfl rfl ?_
      have hi2 := H.1
      replace H := H.2
      refine AW_iald dX6_digest_61 (bI_203 B) hi2 ?_
      refine AW_vV (as := [(.int (v.1 203 l1.toNatClampNeg))]) (st := []) dX6_digest_62 (bI_200 B) (by decide) rfl mv_X6_mix mi_X6_mix ml_X6_339 (Nat.le_of_ble_eq_true rfl) rfl (Nat.le_refl 0) (Nat.le_refl 0) H (fun v3 H => ?_)
      refine AW_iconst (x := 0) dX6_digest_65 (by decide) ?_
      refine AW_istore_n (L' := [some (.ref 200), some (.int l1), some (.int 0)]) dX6_digest_66 rfl (by decide) rfl ?_
      exact H
    · replace H := H.2 c
      refine AW_iconst (x := (-1)) dX6_digest_52 (by decide) ?_
      refine AW_goto (tgt := 62) dX6_digest_53 (by decide) ?_
      refine AW_vV (as := [(.int (-1))]) (st := []) dX6_digest_62 (bI_200 B) (by decide) rfl mv_X6_mix mi_X6_mix ml_X6_339 (Nat.le_of_ble_eq_true rfl) rfl (Nat.le_refl 0) (Nat.le_refl 0) H (fun v4 H => ?_)
      refine AW_iconst (x := 0) dX6_digest_65 (by decide) ?_
      refine AW_istore_n (L' := [some (.ref 200), some (.int l1), some (.int 0)]) dX6_digest_66 rfl (by decide) rfl ?_
      exact H
set_option maxRecDepth 100000 in
set_option maxHeartbeats 4000000 in
theorem vc_X6_digest_67 {G : xG} {d : Nat} {z : xZ} {v : xS} {Q : Int64 → xS → Prop} (B : Base z)  {l1 : Int32} {l2 : Int32} 
    (H : (vp_in l1 6 ∧ (((v.1 203 l1.toNatClampNeg) ≤ l2 → aX6_digest G (d + 1) 36 [some (.ref 200), some (.int (l1 + 1)), none] [] z v Q) ∧ (¬ (v.1 203 l1.toNatClampNeg) ≤ l2 → (oX6_rowAt G d [(.ref 200), (.int l1), (.int l2)] z v (fun r3 v2 => (oX6_mix G d [(.ref 200), (.int r3)] z v2 (fun v4 => aX6_digest G (d + 1) 67 [some (.ref 200), some (.int l1), some (.int (l2 + 1))] [] z v4 Q)))))))) :
    aX6_digest G (d + 1) 67 [some (.ref 200), some (.int l1), some (.int l2)] [] z v Q := by
  refine AW_iload_n dX6_digest_67 rfl rfl ?_
  refine AW_aload_n dX6_digest_68 rfl rfl ?_
  refine AW_getR dX6_digest_69 (bI_200 B) fl_X6_13 (bR_200_3 B) ?_
  refine AW_iload_n dX6_digest_72 rfl rfl ?_
  have hi1 := H.1
  replace H := H.2
  refine AW_iald dX6_digest_73 (bI_203 B) hi1 ?_
  refine AW_icmp_ge (tgt := 93) dX6_digest_74 (by decide) (fun c => ?_) (fun c => ?_)
  · replace H := H.1 c
    refine AW_iinc (x' := l1 + 1) (L' := [some (.ref 200), some (.int (l1 + 1)), some (.int l2)]) dX6_digest_93 rfl rfl (by decide) rfl ?_
    refine AW_goto (tgt := 36) dX6_digest_96 (by decide) ?_
    refine AW_sub (L' := [some (.ref 200), some (.int (l1 + 1)), none]) (show xle _ _ from ⟨rfl, ⟨rfl, trivial⟩⟩) ?_
    exact H
  · replace H := H.2 c
    refine AW_aload_n dX6_digest_77 rfl rfl ?_
    refine AW_aload_n dX6_digest_78 rfl rfl ?_
    refine AW_iload_n dX6_digest_79 rfl rfl ?_
    refine AW_iload_n dX6_digest_80 rfl rfl ?_
    refine AW_vI (as := [(.int l1), (.int l2)]) (st := [(.ref 200)]) dX6_digest_81 (bI_200 B) (by decide) rfl mv_X6_rowAt mi_X6_rowAt ml_X6_114 (Nat.le_of_ble_eq_true rfl) rfl (Nat.le_refl 0) (Nat.le_refl 0) H (fun r3 v2 H => ?_)
    refine AW_vV (as := [(.int r3)]) (st := []) dX6_digest_84 (bI_200 B) (by decide) rfl mv_X6_mix mi_X6_mix ml_X6_339 (Nat.le_of_ble_eq_true rfl) rfl (Nat.le_refl 0) (Nat.le_refl 0) H (fun v4 H => ?_)
    refine AW_iinc (x' := l2 + 1) (L' := [some (.ref 200), some (.int l1), some (.int (l2 + 1))]) dX6_digest_87 rfl rfl (by decide) rfl ?_
    refine AW_goto (tgt := 67) dX6_digest_90 (by decide) ?_
    exact H
set_option maxRecDepth 100000 in
set_option maxHeartbeats 4000000 in
theorem vc_X6_digest_101 {G : xG} {d : Nat} {z : xZ} {v : xS} {Q : Int64 → xS → Prop} (B : Base z)  {l1 : Int32} 
    (H : ((4 ≤ l1 → Q (v.2 200 41) v) ∧ (¬ 4 ≤ l1 → (vp_in l1 4 ∧ ((0 ≤ (v.1 206 l1.toNatClampNeg) → (vp_in l1 4 ∧ (oX6_mix G d [(.ref 200), (.int (v.1 206 l1.toNatClampNeg))] z v (fun v3 => aX6_digest G (d + 1) 131 [some (.ref 200), some (.int l1), some (.int 0)] [] z v3 Q)))) ∧ (¬ 0 ≤ (v.1 206 l1.toNatClampNeg) → (oX6_mix G d [(.ref 200), (.int (-1))] z v (fun v4 => aX6_digest G (d + 1) 131 [some (.ref 200), some (.int l1), some (.int 0)] [] z v4 Q)))))))) :
    aX6_digest G (d + 1) 101 [some (.ref 200), some (.int l1), none] [] z v Q := by
  refine AW_iload_n dX6_digest_101 rfl rfl ?_
  refine AW_iconst (x := 4) dX6_digest_102 (by decide) ?_
  refine AW_icmp_ge (tgt := 168) dX6_digest_103 (by decide) (fun c => ?_) (fun c => ?_)
  · replace H := H.1 c
    refine AW_aload_n dX6_digest_168 rfl rfl ?_
    refine AW_getL dX6_digest_169 (bI_200 B) fl_X6_335 ?_
    exact AW_rL dX6_digest_172 rfl H
  · replace H := H.2 c
    refine AW_aload_n dX6_digest_106 rfl rfl ?_
    refine AW_aload_n dX6_digest_107 rfl rfl ?_
    refine AW_getR dX6_digest_108 (bI_200 B) fl_X6_22 (bR_200_6 B) ?_
    refine AW_iload_n dX6_digest_111 rfl rfl ?_
    have hi1 := H.1
    replace H := H.2
    refine AW_iald dX6_digest_112 (bI_206 B) hi1 ?_
    refine AW_if_ge (tgt := 120) dX6_digest_113 (by decide) (fun c => ?_) (fun c => ?_)
    · replace H := H.1 c
      refine AW_aload_n dX6_digest_120 rfl rfl ?_
      refine AW_getR dX6_digest_121 (bI_200 B) fl_X6_22 (bR_200_6 B) ?_
      refine AW_iload_n dX6_digest_124 rfl rfl ?_
      have hi2 := H.1
      replace H := H.2
      refine AW_iald dX6_digest_125 (bI_206 B) hi2 ?_
      refine AW_vV (as := [(.int (v.1 206 l1.toNatClampNeg))]) (st := []) dX6_digest_126 (bI_200 B) (by decide) rfl mv_X6_mix mi_X6_mix ml_X6_339 (Nat.le_of_ble_eq_true rfl) rfl (Nat.le_refl 0) (Nat.le_refl 0) H (fun v3 H => ?_)
      refine AW_iconst (x := 0) dX6_digest_129 (by decide) ?_
      refine AW_istore_n (L' := [some (.ref 200), some (.int l1), some (.int 0)]) dX6_digest_130 rfl (by decide) rfl ?_
      exact H
    · replace H := H.2 c
      refine AW_iconst (x := (-1)) dX6_digest_116 (by decide) ?_
      refine AW_goto (tgt := 126) dX6_digest_117 (by decide) ?_
      refine AW_vV (as := [(.int (-1))]) (st := []) dX6_digest_126 (bI_200 B) (by decide) rfl mv_X6_mix mi_X6_mix ml_X6_339 (Nat.le_of_ble_eq_true rfl) rfl (Nat.le_refl 0) (Nat.le_refl 0) H (fun v4 H => ?_)
      refine AW_iconst (x := 0) dX6_digest_129 (by decide) ?_
      refine AW_istore_n (L' := [some (.ref 200), some (.int l1), some (.int 0)]) dX6_digest_130 rfl (by decide) rfl ?_
      exact H
set_option maxRecDepth 100000 in
set_option maxHeartbeats 4000000 in
theorem vc_X6_digest_131 {G : xG} {d : Nat} {z : xZ} {v : xS} {Q : Int64 → xS → Prop} (B : Base z)  {l1 : Int32} {l2 : Int32} 
    (H : (vp_in l1 4 ∧ (((v.1 206 l1.toNatClampNeg) ≤ l2 → aX6_digest G (d + 1) 101 [some (.ref 200), some (.int (l1 + 1)), none] [] z v Q) ∧ (¬ (v.1 206 l1.toNatClampNeg) ≤ l2 → (vp_in ((80 * l1) + l2) 320 ∧ (oX6_mix G d [(.ref 200), (.int (v.1 207 ((80 * l1) + l2).toNatClampNeg))] z v (fun v3 => aX6_digest G (d + 1) 131 [some (.ref 200), some (.int l1), some (.int (l2 + 1))] [] z v3 Q))))))) :
    aX6_digest G (d + 1) 131 [some (.ref 200), some (.int l1), some (.int l2)] [] z v Q := by
  refine AW_iload_n dX6_digest_131 rfl rfl ?_
  refine AW_aload_n dX6_digest_132 rfl rfl ?_
  refine AW_getR dX6_digest_133 (bI_200 B) fl_X6_22 (bR_200_6 B) ?_
  refine AW_iload_n dX6_digest_136 rfl rfl ?_
  have hi1 := H.1
  replace H := H.2
  refine AW_iald dX6_digest_137 (bI_206 B) hi1 ?_
  refine AW_icmp_ge (tgt := 162) dX6_digest_138 (by decide) (fun c => ?_) (fun c => ?_)
  · replace H := H.1 c
    refine AW_iinc (x' := l1 + 1) (L' := [some (.ref 200), some (.int (l1 + 1)), some (.int l2)]) dX6_digest_162 rfl rfl (by decide) rfl ?_
    refine AW_goto (tgt := 101) dX6_digest_165 (by decide) ?_
    refine AW_sub (L' := [some (.ref 200), some (.int (l1 + 1)), none]) (show xle _ _ from ⟨rfl, ⟨rfl, trivial⟩⟩) ?_
    exact H
  · replace H := H.2 c
    refine AW_aload_n dX6_digest_141 rfl rfl ?_
    refine AW_aload_n dX6_digest_142 rfl rfl ?_
    refine AW_getR dX6_digest_143 (bI_200 B) fl_X6_25 (bR_200_7 B) ?_
    refine AW_bipush (x := 80) dX6_digest_146 (by decide) ?_
    refine AW_iload_n dX6_digest_148 rfl rfl ?_
    refine AW_imul dX6_digest_149 ?_
    refine AW_iload_n dX6_digest_150 rfl rfl ?_
    refine AW_iadd dX6_digest_151 ?_
    have hi2 := H.1
    replace H := H.2
    refine AW_iald dX6_digest_152 (bI_207 B) hi2 ?_
    refine AW_vV (as := [(.int (v.1 207 ((80 * l1) + l2).toNatClampNeg))]) (st := []) dX6_digest_153 (bI_200 B) (by decide) rfl mv_X6_mix mi_X6_mix ml_X6_339 (Nat.le_of_ble_eq_true rfl) rfl (Nat.le_refl 0) (Nat.le_refl 0) H (fun v3 H => ?_)
    refine AW_iinc (x' := l2 + 1) (L' := [some (.ref 200), some (.int l1), some (.int (l2 + 1))]) dX6_digest_156 rfl rfl (by decide) rfl ?_
    refine AW_goto (tgt := 131) dX6_digest_159 (by decide) ?_
    exact H
