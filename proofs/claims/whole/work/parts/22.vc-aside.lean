set_option maxRecDepth 100000 in
set_option maxHeartbeats 4000000 in
theorem vc_X0_startFromNow {G : xG} {d : Nat} {z : xZ} {v : xS} {Q : xS → Prop} (B : Base z)  
    (H : (∀ v1 : xS, v1 = wA v 71 (va_cpy (v.1 31) (v.1 71) ((0 : Int32).toNatClampNeg) ((0 : Int32).toNatClampNeg) ((10 : Int32).toNatClampNeg)) → Q v1)) :
    oX0_startFromNow G (d + 1) [(.ref 70)] z v Q := by
  refine Ok_of (own := RX0) (by decide) rfl (Nat.le_of_ble_eq_true rfl) ?_
  show AW G (d + 1) 0 0 yX0_startFromNow cX0_startFromNow 1 none RX0 0 0 0 [some (.ref 70)] [] z v _
  refine AW_aload_n dX0_startFromNow_0 rfl rfl ?_
  refine AW_getR dX0_startFromNow_1 (bI_70 B) fl_X0_36 (bR_70_0 B) ?_
  refine AW_getR dX0_startFromNow_4 (bI_30 B) fl_X0_40 (bR_30_4 B) ?_
  refine AW_iconst (x := 0) dX0_startFromNow_7 (by decide) ?_
  refine AW_aload_n dX0_startFromNow_8 rfl rfl ?_
  refine AW_getR dX0_startFromNow_9 (bI_70 B) fl_X0_9 (bR_70_1 B) ?_
  refine AW_iconst (x := 0) dX0_startFromNow_12 (by decide) ?_
  refine AW_bipush (x := 10) dX0_startFromNow_13 (by decide) ?_
  refine AW_copyN dX0_startFromNow_15 ml_X0_45 (bI_31 B) (bI_71 B) (by decide) (by decide) (by decide) (by decide) (by decide) (Nat.succ_pos _) (Nat.le_of_ble_eq_true rfl) (fun v1 hv1 => ?_)
  replace H := H v1 hv1
  exact AW_rV dX0_startFromNow_18 rfl H
set_option maxRecDepth 100000 in
set_option maxHeartbeats 4000000 in
theorem vc_X0_inchesByTune {G : xG} {d : Nat} {z : xZ} {v : xS} {Q : Int32 → xS → Prop} (B : Base z) {xa : Int32} {xb : Int32} 
    (H : (oX0_startFromNow G d [(.ref 70)] z v (fun v1 => (oX1_playTune G d [(.ref 30), (.ref 71), (.int xa), (.int xb)] z v1 (fun r3 v2 => Q r3 v2))))) :
    oX0_inchesByTune G (d + 1) [(.ref 70), (.int xa), (.int xb)] z v Q := by
  refine Ok_of (own := RX0) (by decide) rfl (Nat.le_of_ble_eq_true rfl) ?_
  show AW G (d + 1) 0 0 yX0_inchesByTune cX0_inchesByTune 3 (some .int) RX0 0 0 0 [some (.ref 70), some (.int xa), some (.int xb)] [] z v _
  refine AW_aload_n dX0_inchesByTune_0 rfl rfl ?_
  refine AW_vV (as := []) (st := []) dX0_inchesByTune_1 (bI_70 B) (by decide) rfl mv_X0_startFromNow mi_X0_startFromNow ml_X0_51 (Nat.le_of_ble_eq_true rfl) rfl (Nat.le_refl 0) (Nat.le_refl 0) H (fun v1 H => ?_)
  refine AW_aload_n dX0_inchesByTune_4 rfl rfl ?_
  refine AW_getR dX0_inchesByTune_5 (bI_70 B) fl_X0_36 (bR_70_0 B) ?_
  refine AW_aload_n dX0_inchesByTune_8 rfl rfl ?_
  refine AW_getR dX0_inchesByTune_9 (bI_70 B) fl_X0_9 (bR_70_1 B) ?_
  refine AW_iload_n dX0_inchesByTune_12 rfl rfl ?_
  refine AW_iload_n dX0_inchesByTune_13 rfl rfl ?_
  refine AW_vI (as := [(.ref 71), (.int xa), (.int xb)]) (st := []) dX0_inchesByTune_14 (bI_30 B) (by decide) rfl mv_X1_playTune mi_X1_playTune ml_X0_54 (Nat.le_of_ble_eq_true rfl) rfl (Nat.le_refl 0) (Nat.le_refl 0) H (fun r3 v2 H => ?_)
  exact AW_rI dX0_inchesByTune_17 rfl rfl H
set_option maxRecDepth 100000 in
set_option maxHeartbeats 4000000 in
theorem vc_X0_repeat {G : xG} {d : Nat} {z : xZ} {v : xS} {Q : Int32 → xS → Prop} (B : Base z) {xa : Int32} {xb : Int32} 
    (H : (oX0_startFromNow G d [(.ref 70)] z v (fun v1 => aX0_repeat G (d + 1) 9 [some (.ref 70), some (.int xa), some (.int xb), some (.int 0), some (.int 0)] [] z v1 Q))) :
    oX0_repeat G (d + 1) [(.ref 70), (.int xa), (.int xb)] z v Q := by
  refine Ok_of (own := RX0) (by decide) rfl (Nat.le_of_ble_eq_true rfl) ?_
  show AW G (d + 1) 0 0 yX0_repeat cX0_repeat 5 (some .int) RX0 0 0 0 [some (.ref 70), some (.int xa), some (.int xb), none, none] [] z v _
  refine AW_aload_n dX0_repeat_0 rfl rfl ?_
  refine AW_vV (as := []) (st := []) dX0_repeat_1 (bI_70 B) (by decide) rfl mv_X0_startFromNow mi_X0_startFromNow ml_X0_51 (Nat.le_of_ble_eq_true rfl) rfl (Nat.le_refl 0) (Nat.le_refl 0) H (fun v1 H => ?_)
  refine AW_iconst (x := 0) dX0_repeat_4 (by decide) ?_
  refine AW_istore_n (L' := [some (.ref 70), some (.int xa), some (.int xb), some (.int 0), none]) dX0_repeat_5 rfl (by decide) rfl ?_
  refine AW_iconst (x := 0) dX0_repeat_6 (by decide) ?_
  refine AW_istore (L' := [some (.ref 70), some (.int xa), some (.int xb), some (.int 0), some (.int 0)]) dX0_repeat_7 (by decide) rfl ?_
  exact H
set_option maxRecDepth 100000 in
set_option maxHeartbeats 4000000 in
theorem vc_X0_repeat_9 {G : xG} {d : Nat} {z : xZ} {v : xS} {Q : Int32 → xS → Prop} (B : Base z)  {l1 : Int32} {l2 : Int32} {l3 : Int32} {l4 : Int32} 
    (H : ((l2 ≤ l4 → Q l3 v) ∧ (¬ l2 ≤ l4 → (oX1_playAside G d [(.ref 30), (.ref 71), (.int l1)] z v (fun r2 v1 => aX0_repeat G (d + 1) 9 [some (.ref 70), some (.int l1), some (.int l2), some (.int (l3 + r2)), some (.int (l4 + 1))] [] z v1 Q))))) :
    aX0_repeat G (d + 1) 9 [some (.ref 70), some (.int l1), some (.int l2), some (.int l3), some (.int l4)] [] z v Q := by
  refine AW_iload dX0_repeat_9 rfl ?_
  refine AW_iload_n dX0_repeat_11 rfl rfl ?_
  refine AW_icmp_ge (tgt := 36) dX0_repeat_12 (by decide) (fun c => ?_) (fun c => ?_)
  · replace H := H.1 c
    refine AW_iload_n dX0_repeat_36 rfl rfl ?_
    exact AW_rI dX0_repeat_37 rfl rfl H
  · replace H := H.2 c
    refine AW_iload_n dX0_repeat_15 rfl rfl ?_
    refine AW_aload_n dX0_repeat_16 rfl rfl ?_
    refine AW_getR dX0_repeat_17 (bI_70 B) fl_X0_36 (bR_70_0 B) ?_
    refine AW_aload_n dX0_repeat_20 rfl rfl ?_
    refine AW_getR dX0_repeat_21 (bI_70 B) fl_X0_9 (bR_70_1 B) ?_
    refine AW_iload_n dX0_repeat_24 rfl rfl ?_
    refine AW_vI (as := [(.ref 71), (.int l1)]) (st := [(.int l3)]) dX0_repeat_25 (bI_30 B) (by decide) rfl mv_X1_playAside mi_X1_playAside ml_X0_58 (Nat.le_of_ble_eq_true rfl) rfl (Nat.le_refl 0) (Nat.le_refl 0) H (fun r2 v1 H => ?_)
    refine AW_iadd dX0_repeat_28 ?_
    refine AW_istore_n (L' := [some (.ref 70), some (.int l1), some (.int l2), some (.int (l3 + r2)), some (.int l4)]) dX0_repeat_29 rfl (by decide) rfl ?_
    refine AW_iinc (x' := l4 + 1) (L' := [some (.ref 70), some (.int l1), some (.int l2), some (.int (l3 + r2)), some (.int (l4 + 1))]) dX0_repeat_30 rfl rfl (by decide) rfl ?_
    refine AW_goto (tgt := 9) dX0_repeat_33 (by decide) ?_
    exact H
set_option maxRecDepth 100000 in
set_option maxHeartbeats 4000000 in
theorem vc_X0_playBehind {G : xG} {d : Nat} {z : xZ} {v : xS} {Q : xS → Prop} (B : Base z) {xa : Int32} 
    (H : (∀ v1 : xS, v1 = wA v 72 (va_cpy (v.1 71) (v.1 72) ((0 : Int32).toNatClampNeg) ((0 : Int32).toNatClampNeg) ((10 : Int32).toNatClampNeg)) → (oX1_playAside G d [(.ref 30), (.ref 72), (.int xa)] z v1 (fun r3 v2 => Q v2)))) :
    oX0_playBehind G (d + 1) [(.ref 70), (.int xa)] z v Q := by
  refine Ok_of (own := RX0) (by decide) rfl (Nat.le_of_ble_eq_true rfl) ?_
  show AW G (d + 1) 0 0 yX0_playBehind cX0_playBehind 2 none RX0 0 0 0 [some (.ref 70), some (.int xa)] [] z v _
  refine AW_aload_n dX0_playBehind_0 rfl rfl ?_
  refine AW_getR dX0_playBehind_1 (bI_70 B) fl_X0_9 (bR_70_1 B) ?_
  refine AW_iconst (x := 0) dX0_playBehind_4 (by decide) ?_
  refine AW_aload_n dX0_playBehind_5 rfl rfl ?_
  refine AW_getR dX0_playBehind_6 (bI_70 B) fl_X0_15 (bR_70_2 B) ?_
  refine AW_iconst (x := 0) dX0_playBehind_9 (by decide) ?_
  refine AW_bipush (x := 10) dX0_playBehind_10 (by decide) ?_
  refine AW_copyN dX0_playBehind_12 ml_X0_45 (bI_71 B) (bI_72 B) (by decide) (by decide) (by decide) (by decide) (by decide) (Nat.succ_pos _) (Nat.le_of_ble_eq_true rfl) (fun v1 hv1 => ?_)
  replace H := H v1 hv1
  refine AW_aload_n dX0_playBehind_15 rfl rfl ?_
  refine AW_getR dX0_playBehind_16 (bI_70 B) fl_X0_36 (bR_70_0 B) ?_
  refine AW_aload_n dX0_playBehind_19 rfl rfl ?_
  refine AW_getR dX0_playBehind_20 (bI_70 B) fl_X0_15 (bR_70_2 B) ?_
  refine AW_iload_n dX0_playBehind_23 rfl rfl ?_
  refine AW_vI (as := [(.ref 72), (.int xa)]) (st := []) dX0_playBehind_24 (bI_30 B) (by decide) rfl mv_X1_playAside mi_X1_playAside ml_X0_58 (Nat.le_of_ble_eq_true rfl) rfl (Nat.le_refl 0) (Nat.le_refl 0) H (fun r3 v2 H => ?_)
  refine AW_pop dX0_playBehind_27 rfl ?_
  exact AW_rV dX0_playBehind_28 rfl H
set_option maxRecDepth 100000 in
set_option maxHeartbeats 4000000 in
theorem vc_X0_restsBehind {G : xG} {d : Nat} {z : xZ} {v : xS} {Q : Int32 → xS → Prop} (B : Base z) {xa : Int32} 
    (H : (oX0_startFromNow G d [(.ref 70)] z v (fun v1 => aX0_restsBehind G (d + 1) 6 [some (.ref 70), some (.int xa), some (.int 0)] [] z v1 Q))) :
    oX0_restsBehind G (d + 1) [(.ref 70), (.int xa)] z v Q := by
  refine Ok_of (own := RX0) (by decide) rfl (Nat.le_of_ble_eq_true rfl) ?_
  show AW G (d + 1) 0 0 yX0_restsBehind cX0_restsBehind 3 (some .int) RX0 0 0 0 [some (.ref 70), some (.int xa), none] [] z v _
  refine AW_aload_n dX0_restsBehind_0 rfl rfl ?_
  refine AW_vV (as := []) (st := []) dX0_restsBehind_1 (bI_70 B) (by decide) rfl mv_X0_startFromNow mi_X0_startFromNow ml_X0_51 (Nat.le_of_ble_eq_true rfl) rfl (Nat.le_refl 0) (Nat.le_refl 0) H (fun v1 H => ?_)
  refine AW_iconst (x := 0) dX0_restsBehind_4 (by decide) ?_
  refine AW_istore_n (L' := [some (.ref 70), some (.int xa), some (.int 0)]) dX0_restsBehind_5 rfl (by decide) rfl ?_
  exact H
set_option maxRecDepth 100000 in
set_option maxHeartbeats 4000000 in
theorem vc_X0_restsBehind_6 {G : xG} {d : Nat} {z : xZ} {v : xS} {Q : Int32 → xS → Prop} (B : Base z)  {l1 : Int32} {l2 : Int32} 
    (H : ((100 < l2 → Q (-9) v) ∧ (¬ 100 < l2 → (oX0_playBehind G d [(.ref 70), (.int l1)] z v (fun v1 => (oX0_isSame G d [(.ref 70), (.ref 71), (.ref 72)] z v1 (fun r3 v2 => ((r3 = 0 → (∀ v4 : xS, v4 = wA v2 71 (va_cpy (v2.1 72) (v2.1 71) ((0 : Int32).toNatClampNeg) ((0 : Int32).toNatClampNeg) ((10 : Int32).toNatClampNeg)) → aX0_restsBehind G (d + 1) 6 [some (.ref 70), some (.int l1), some (.int (l2 + 1))] [] z v4 Q)) ∧ (¬ r3 = 0 → Q l2 v2))))))))) :
    aX0_restsBehind G (d + 1) 6 [some (.ref 70), some (.int l1), some (.int l2)] [] z v Q := by
  refine AW_iload_n dX0_restsBehind_6 rfl rfl ?_
  refine AW_bipush (x := 100) dX0_restsBehind_7 (by decide) ?_
  refine AW_icmp_gt (tgt := 55) dX0_restsBehind_9 (by decide) (fun c => ?_) (fun c => ?_)
  · replace H := H.1 c
    refine AW_bipush (x := (-9)) dX0_restsBehind_55 (by decide) ?_
    exact AW_rI dX0_restsBehind_57 rfl rfl H
  · replace H := H.2 c
    refine AW_aload_n dX0_restsBehind_12 rfl rfl ?_
    refine AW_iload_n dX0_restsBehind_13 rfl rfl ?_
    refine AW_vV (as := [(.int l1)]) (st := []) dX0_restsBehind_14 (bI_70 B) (by decide) rfl mv_X0_playBehind mi_X0_playBehind ml_X0_62 (Nat.le_of_ble_eq_true rfl) rfl (Nat.le_refl 0) (Nat.le_refl 0) H (fun v1 H => ?_)
    refine AW_aload_n dX0_restsBehind_17 rfl rfl ?_
    refine AW_aload_n dX0_restsBehind_18 rfl rfl ?_
    refine AW_getR dX0_restsBehind_19 (bI_70 B) fl_X0_9 (bR_70_1 B) ?_
    refine AW_aload_n dX0_restsBehind_22 rfl rfl ?_
    refine AW_getR dX0_restsBehind_23 (bI_70 B) fl_X0_15 (bR_70_2 B) ?_
    refine AW_vI (as := [(.ref 71), (.ref 72)]) (st := []) dX0_restsBehind_26 (bI_70 B) (by decide) rfl mv_X0_isSame mi_X0_isSame ml_X0_66 (Nat.le_of_ble_eq_true rfl) rfl (Nat.le_refl 0) (Nat.le_refl 0) H (fun r3 v2 H => ?_)
    refine AW_if_eq (tgt := 34) dX0_restsBehind_29 (by decide) (fun c => ?_) (fun c => ?_)
    · replace H := H.1 c
      refine AW_aload_n dX0_restsBehind_34 rfl rfl ?_
      refine AW_getR dX0_restsBehind_35 (bI_70 B) fl_X0_15 (bR_70_2 B) ?_
      refine AW_iconst (x := 0) dX0_restsBehind_38 (by decide) ?_
      refine AW_aload_n dX0_restsBehind_39 rfl rfl ?_
      refine AW_getR dX0_restsBehind_40 (bI_70 B) fl_X0_9 (bR_70_1 B) ?_
      refine AW_iconst (x := 0) dX0_restsBehind_43 (by decide) ?_
      refine AW_bipush (x := 10) dX0_restsBehind_44 (by decide) ?_
      refine AW_copyN dX0_restsBehind_46 ml_X0_45 (bI_72 B) (bI_71 B) (by decide) (by decide) (by decide) (by decide) (by decide) (Nat.succ_pos _) (Nat.le_of_ble_eq_true rfl) (fun v4 hv4 => ?_)
      replace H := H v4 hv4
      refine AW_iinc (x' := l2 + 1) (L' := [some (.ref 70), some (.int l1), some (.int (l2 + 1))]) dX0_restsBehind_49 rfl rfl (by decide) rfl ?_
      refine AW_goto (tgt := 6) dX0_restsBehind_52 (by decide) ?_
      exact H
    · replace H := H.2 c
      refine AW_iload_n dX0_restsBehind_32 rfl rfl ?_
      exact AW_rI dX0_restsBehind_33 rfl rfl H
set_option maxRecDepth 100000 in
set_option maxHeartbeats 4000000 in
theorem vc_X0_comesRound {G : xG} {d : Nat} {z : xZ} {v : xS} {Q : Int32 → xS → Prop} (B : Base z) {xa : Int32} 
    (H : (oX0_startFromNow G d [(.ref 70)] z v (fun v1 => aX0_comesRound G (d + 1) 6 [some (.ref 70), some (.int xa), some (.int 1)] [] z v1 Q))) :
    oX0_comesRound G (d + 1) [(.ref 70), (.int xa)] z v Q := by
  refine Ok_of (own := RX0) (by decide) rfl (Nat.le_of_ble_eq_true rfl) ?_
  show AW G (d + 1) 0 0 yX0_comesRound cX0_comesRound 3 (some .int) RX0 0 0 0 [some (.ref 70), some (.int xa), none] [] z v _
  refine AW_aload_n dX0_comesRound_0 rfl rfl ?_
  refine AW_vV (as := []) (st := []) dX0_comesRound_1 (bI_70 B) (by decide) rfl mv_X0_startFromNow mi_X0_startFromNow ml_X0_51 (Nat.le_of_ble_eq_true rfl) rfl (Nat.le_refl 0) (Nat.le_refl 0) H (fun v1 H => ?_)
  refine AW_iconst (x := 1) dX0_comesRound_4 (by decide) ?_
  refine AW_istore_n (L' := [some (.ref 70), some (.int xa), some (.int 1)]) dX0_comesRound_5 rfl (by decide) rfl ?_
  exact H
set_option maxRecDepth 100000 in
set_option maxHeartbeats 4000000 in
theorem vc_X0_comesRound_6 {G : xG} {d : Nat} {z : xZ} {v : xS} {Q : Int32 → xS → Prop} (B : Base z)  {l1 : Int32} {l2 : Int32} 
    (H : ((100 < l2 → Q (-9) v) ∧ (¬ 100 < l2 → (oX1_playAside G d [(.ref 30), (.ref 71), (.int l1)] z v (fun r2 v1 => (oX0_isSame G d [(.ref 70), (.ref 71), (.ref 31)] z v1 (fun r4 v3 => ((r4 = 0 → aX0_comesRound G (d + 1) 6 [some (.ref 70), some (.int l1), some (.int (l2 + 1))] [] z v3 Q) ∧ (¬ r4 = 0 → Q l2 v3))))))))) :
    aX0_comesRound G (d + 1) 6 [some (.ref 70), some (.int l1), some (.int l2)] [] z v Q := by
  refine AW_iload_n dX0_comesRound_6 rfl rfl ?_
  refine AW_bipush (x := 100) dX0_comesRound_7 (by decide) ?_
  refine AW_icmp_gt (tgt := 51) dX0_comesRound_9 (by decide) (fun c => ?_) (fun c => ?_)
  · replace H := H.1 c
    refine AW_bipush (x := (-9)) dX0_comesRound_51 (by decide) ?_
    exact AW_rI dX0_comesRound_53 rfl rfl H
  · replace H := H.2 c
    refine AW_aload_n dX0_comesRound_12 rfl rfl ?_
    refine AW_getR dX0_comesRound_13 (bI_70 B) fl_X0_36 (bR_70_0 B) ?_
    refine AW_aload_n dX0_comesRound_16 rfl rfl ?_
    refine AW_getR dX0_comesRound_17 (bI_70 B) fl_X0_9 (bR_70_1 B) ?_
    refine AW_iload_n dX0_comesRound_20 rfl rfl ?_
    refine AW_vI (as := [(.ref 71), (.int l1)]) (st := []) dX0_comesRound_21 (bI_30 B) (by decide) rfl mv_X1_playAside mi_X1_playAside ml_X0_58 (Nat.le_of_ble_eq_true rfl) rfl (Nat.le_refl 0) (Nat.le_refl 0) H (fun r2 v1 H => ?_)
    refine AW_pop dX0_comesRound_24 rfl ?_
    refine AW_aload_n dX0_comesRound_25 rfl rfl ?_
    refine AW_aload_n dX0_comesRound_26 rfl rfl ?_
    refine AW_getR dX0_comesRound_27 (bI_70 B) fl_X0_9 (bR_70_1 B) ?_
    refine AW_aload_n dX0_comesRound_30 rfl rfl ?_
    refine AW_getR dX0_comesRound_31 (bI_70 B) fl_X0_36 (bR_70_0 B) ?_
    refine AW_getR dX0_comesRound_34 (bI_30 B) fl_X0_40 (bR_30_4 B) ?_
    refine AW_vI (as := [(.ref 71), (.ref 31)]) (st := []) dX0_comesRound_37 (bI_70 B) (by decide) rfl mv_X0_isSame mi_X0_isSame ml_X0_66 (Nat.le_of_ble_eq_true rfl) rfl (Nat.le_refl 0) (Nat.le_refl 0) H (fun r4 v3 H => ?_)
    refine AW_if_eq (tgt := 45) dX0_comesRound_40 (by decide) (fun c => ?_) (fun c => ?_)
    · replace H := H.1 c
      refine AW_iinc (x' := l2 + 1) (L' := [some (.ref 70), some (.int l1), some (.int (l2 + 1))]) dX0_comesRound_45 rfl rfl (by decide) rfl ?_
      refine AW_goto (tgt := 6) dX0_comesRound_48 (by decide) ?_
      exact H
    · replace H := H.2 c
      refine AW_iload_n dX0_comesRound_43 rfl rfl ?_
      exact AW_rI dX0_comesRound_44 rfl rfl H
set_option maxRecDepth 100000 in
set_option maxHeartbeats 4000000 in
theorem vc_X0_isSame {G : xG} {d : Nat} {z : xZ} {v : xS} {Q : Int32 → xS → Prop} (B : Base z) {g : Nat} {k : Nat} (hg : xin z g 10 10) (hk : xin z k 10 10)
    (H : aX0_isSame G (d + 1) 2 [some (.ref 70), some (.ref g), some (.ref k), some (.int 0)] [] z v Q) :
    oX0_isSame G (d + 1) [(.ref 70), (.ref g), (.ref k)] z v Q := by
  refine Ok_of (own := RX0) (by decide) rfl (Nat.le_of_ble_eq_true rfl) ?_
  show AW G (d + 1) 0 0 yX0_isSame cX0_isSame 4 (some .boolean) RX0 0 0 0 [some (.ref 70), some (.ref g), some (.ref k), none] [] z v _
  refine AW_iconst (x := 0) dX0_isSame_0 (by decide) ?_
  refine AW_istore_n (L' := [some (.ref 70), some (.ref g), some (.ref k), some (.int 0)]) dX0_isSame_1 rfl (by decide) rfl ?_
  exact H
set_option maxRecDepth 100000 in
set_option maxHeartbeats 4000000 in
theorem vc_X0_isSame_2 {G : xG} {d : Nat} {z : xZ} {v : xS} {Q : Int32 → xS → Prop} (B : Base z) {g : Nat} {k : Nat} {l3 : Int32} (hg : xin z g 10 10) (hk : xin z k 10 10)
    (H : (((v.1 30 0) ≤ l3 → Q 1 v) ∧ (¬ (v.1 30 0) ≤ l3 → (vp_in l3 10 ∧ (vp_in l3 10 ∧ (((v.1 g l3.toNatClampNeg) = (v.1 k l3.toNatClampNeg) → aX0_isSame G (d + 1) 2 [some (.ref 70), some (.ref g), some (.ref k), some (.int (l3 + 1))] [] z v Q) ∧ (¬ (v.1 g l3.toNatClampNeg) = (v.1 k l3.toNatClampNeg) → Q 0 v))))))) :
    aX0_isSame G (d + 1) 2 [some (.ref 70), some (.ref g), some (.ref k), some (.int l3)] [] z v Q := by
  refine AW_iload_n dX0_isSame_2 rfl rfl ?_
  refine AW_aload_n dX0_isSame_3 rfl rfl ?_
  refine AW_getR dX0_isSame_4 (bI_70 B) fl_X0_36 (bR_70_0 B) ?_
  refine AW_getI dX0_isSame_7 (bI_30 B) fl_X0_70 ?_
  refine AW_icmp_ge (tgt := 30) dX0_isSame_10 (by decide) (fun c => ?_) (fun c => ?_)
  · replace H := H.1 c
    refine AW_iconst (x := 1) dX0_isSame_30 (by decide) ?_
    exact AW_rI dX0_isSame_31 rfl (by decide) H
  · replace H := H.2 c
    refine AW_aload_n dX0_isSame_13 rfl rfl ?_
    refine AW_iload_n dX0_isSame_14 rfl rfl ?_
    have hi1 := H.1
    replace H := H.2
    refine AW_iald dX0_isSame_15 hg hi1 ?_
    refine AW_aload_n dX0_isSame_16 rfl rfl ?_
    refine AW_iload_n dX0_isSame_17 rfl rfl ?_
    have hi2 := H.1
    replace H := H.2
    refine AW_iald dX0_isSame_18 hk hi2 ?_
    refine AW_icmp_eq (tgt := 24) dX0_isSame_19 (by decide) (fun c => ?_) (fun c => ?_)
    · replace H := H.1 c
      refine AW_iinc (x' := l3 + 1) (L' := [some (.ref 70), some (.ref g), some (.ref k), some (.int (l3 + 1))]) dX0_isSame_24 rfl rfl (by decide) rfl ?_
      refine AW_goto (tgt := 2) dX0_isSame_27 (by decide) ?_
      exact H
    · replace H := H.2 c
      refine AW_iconst (x := 0) dX0_isSame_22 (by decide) ?_
      exact AW_rI dX0_isSame_23 rfl (by decide) H
set_option maxRecDepth 100000 in
set_option maxHeartbeats 4000000 in
theorem vc_X0_loudestKeeping {G : xG} {d : Nat} {z : xZ} {v : xS} {Q : Int32 → xS → Prop} (B : Base z) {xa : Int32} 
    (H : (oX1_programs G d [(.ref 30)] z v (fun r2 v1 => aX0_loudestKeeping G (d + 1) 13 [some (.ref 70), some (.int xa), some (.int 0), some (.int r2), some (.int 1)] [] z v1 Q))) :
    oX0_loudestKeeping G (d + 1) [(.ref 70), (.int xa)] z v Q := by
  refine Ok_of (own := RX0) (by decide) rfl (Nat.le_of_ble_eq_true rfl) ?_
  show AW G (d + 1) 0 0 yX0_loudestKeeping cX0_loudestKeeping 5 (some .int) RX0 0 0 0 [some (.ref 70), some (.int xa), none, none, none] [] z v _
  refine AW_iconst (x := 0) dX0_loudestKeeping_0 (by decide) ?_
  refine AW_istore_n (L' := [some (.ref 70), some (.int xa), some (.int 0), none, none]) dX0_loudestKeeping_1 rfl (by decide) rfl ?_
  refine AW_aload_n dX0_loudestKeeping_2 rfl rfl ?_
  refine AW_getR dX0_loudestKeeping_3 (bI_70 B) fl_X0_36 (bR_70_0 B) ?_
  refine AW_vI (as := []) (st := []) dX0_loudestKeeping_6 (bI_30 B) (by decide) rfl mv_X1_programs mi_X1_programs ml_X0_73 (Nat.le_of_ble_eq_true rfl) rfl (Nat.le_refl 0) (Nat.le_refl 0) H (fun r2 v1 H => ?_)
  refine AW_istore_n (L' := [some (.ref 70), some (.int xa), some (.int 0), some (.int r2), none]) dX0_loudestKeeping_9 rfl (by decide) rfl ?_
  refine AW_iconst (x := 1) dX0_loudestKeeping_10 (by decide) ?_
  refine AW_istore (L' := [some (.ref 70), some (.int xa), some (.int 0), some (.int r2), some (.int 1)]) dX0_loudestKeeping_11 (by decide) rfl ?_
  exact H
set_option maxRecDepth 100000 in
set_option maxHeartbeats 4000000 in
theorem vc_X0_loudestKeeping_13 {G : xG} {d : Nat} {z : xZ} {v : xS} {Q : Int32 → xS → Prop} (B : Base z)  {l1 : Int32} {l2 : Int32} {l3 : Int32} {l4 : Int32} 
    (H : ((l3 ≤ l4 → Q l2 v) ∧ (¬ l3 ≤ l4 → (oX1_breathOf G d [(.ref 30), (.int l4)] z v (fun r2 v1 => (oX1_breathOf G d [(.ref 30), (.int l2)] z v1 (fun r4 v3 => ((r4 < r2 → (oX0_repeat G d [(.ref 70), (.int l4), (.int 1)] z v3 (fun r6 v5 => (vp_in l1 10 ∧ (vp_in l1 10 ∧ ((¬ (v5.1 71 l1.toNatClampNeg) = (v5.1 31 l1.toNatClampNeg) → aX0_loudestKeeping G (d + 1) 13 [some (.ref 70), some (.int l1), some (.int l2), some (.int l3), some (.int (l4 + 1))] [] z v5 Q) ∧ ((v5.1 71 l1.toNatClampNeg) = (v5.1 31 l1.toNatClampNeg) → aX0_loudestKeeping G (d + 1) 13 [some (.ref 70), some (.int l1), some (.int l4), some (.int l3), some (.int (l4 + 1))] [] z v5 Q))))))) ∧ (¬ r4 < r2 → aX0_loudestKeeping G (d + 1) 13 [some (.ref 70), some (.int l1), some (.int l2), some (.int l3), some (.int (l4 + 1))] [] z v3 Q))))))))) :
    aX0_loudestKeeping G (d + 1) 13 [some (.ref 70), some (.int l1), some (.int l2), some (.int l3), some (.int l4)] [] z v Q := by
  refine AW_iload dX0_loudestKeeping_13 rfl ?_
  refine AW_iload_n dX0_loudestKeeping_15 rfl rfl ?_
  refine AW_icmp_ge (tgt := 77) dX0_loudestKeeping_16 (by decide) (fun c => ?_) (fun c => ?_)
  · replace H := H.1 c
    refine AW_iload_n dX0_loudestKeeping_77 rfl rfl ?_
    exact AW_rI dX0_loudestKeeping_78 rfl rfl H
  · replace H := H.2 c
    refine AW_aload_n dX0_loudestKeeping_19 rfl rfl ?_
    refine AW_getR dX0_loudestKeeping_20 (bI_70 B) fl_X0_36 (bR_70_0 B) ?_
    refine AW_iload dX0_loudestKeeping_23 rfl ?_
    refine AW_vI (as := [(.int l4)]) (st := []) dX0_loudestKeeping_25 (bI_30 B) (by decide) rfl mv_X1_breathOf mi_X1_breathOf ml_X0_77 (Nat.le_of_ble_eq_true rfl) rfl (Nat.le_refl 0) (Nat.le_refl 0) H (fun r2 v1 H => ?_)
    refine AW_aload_n dX0_loudestKeeping_28 rfl rfl ?_
    refine AW_getR dX0_loudestKeeping_29 (bI_70 B) fl_X0_36 (bR_70_0 B) ?_
    refine AW_iload_n dX0_loudestKeeping_32 rfl rfl ?_
    refine AW_vI (as := [(.int l2)]) (st := [(.int r2)]) dX0_loudestKeeping_33 (bI_30 B) (by decide) rfl mv_X1_breathOf mi_X1_breathOf ml_X0_77 (Nat.le_of_ble_eq_true rfl) rfl (Nat.le_refl 0) (Nat.le_refl 0) H (fun r4 v3 H => ?_)
    refine AW_icmp_gt (tgt := 42) dX0_loudestKeeping_36 (by decide) (fun c => ?_) (fun c => ?_)
    · replace H := H.1 c
      refine AW_aload_n dX0_loudestKeeping_42 rfl rfl ?_
      refine AW_iload dX0_loudestKeeping_43 rfl ?_
      refine AW_iconst (x := 1) dX0_loudestKeeping_45 (by decide) ?_
      refine AW_vI (as := [(.int l4), (.int 1)]) (st := []) dX0_loudestKeeping_46 (bI_70 B) (by decide) rfl mv_X0_repeat mi_X0_repeat ml_X0_81 (Nat.le_of_ble_eq_true rfl) rfl (Nat.le_refl 0) (Nat.le_refl 0) H (fun r6 v5 H => ?_)
      refine AW_pop dX0_loudestKeeping_49 rfl ?_
      refine AW_aload_n dX0_loudestKeeping_50 rfl rfl ?_
      refine AW_getR dX0_loudestKeeping_51 (bI_70 B) fl_X0_9 (bR_70_1 B) ?_
      refine AW_iload_n dX0_loudestKeeping_54 rfl rfl ?_
      have hi7 := H.1
      replace H := H.2
      refine AW_iald dX0_loudestKeeping_55 (bI_71 B) hi7 ?_
      refine AW_aload_n dX0_loudestKeeping_56 rfl rfl ?_
      refine AW_getR dX0_loudestKeeping_57 (bI_70 B) fl_X0_36 (bR_70_0 B) ?_
      refine AW_getR dX0_loudestKeeping_60 (bI_30 B) fl_X0_40 (bR_30_4 B) ?_
      refine AW_iload_n dX0_loudestKeeping_63 rfl rfl ?_
      have hi8 := H.1
      replace H := H.2
      refine AW_iald dX0_loudestKeeping_64 (bI_31 B) hi8 ?_
      refine AW_icmp_ne (tgt := 71) dX0_loudestKeeping_65 (by decide) (fun c => ?_) (fun c => ?_)
      · replace H := H.1 c
        refine AW_iinc (x' := l4 + 1) (L' := [some (.ref 70), some (.int l1), some (.int l2), some (.int l3), some (.int (l4 + 1))]) dX0_loudestKeeping_71 rfl rfl (by decide) rfl ?_
        refine AW_goto (tgt := 13) dX0_loudestKeeping_74 (by decide) ?_
        exact H
      · replace H := H.2 c
        refine AW_iload dX0_loudestKeeping_68 rfl ?_
        refine AW_istore_n (L' := [some (.ref 70), some (.int l1), some (.int l4), some (.int l3), some (.int l4)]) dX0_loudestKeeping_70 rfl (by decide) rfl ?_
        refine AW_iinc (x' := l4 + 1) (L' := [some (.ref 70), some (.int l1), some (.int l4), some (.int l3), some (.int (l4 + 1))]) dX0_loudestKeeping_71 rfl rfl (by decide) rfl ?_
        refine AW_goto (tgt := 13) dX0_loudestKeeping_74 (by decide) ?_
        exact H
    · replace H := H.2 c
      refine AW_goto (tgt := 71) dX0_loudestKeeping_39 (by decide) ?_
      refine AW_iinc (x' := l4 + 1) (L' := [some (.ref 70), some (.int l1), some (.int l2), some (.int l3), some (.int (l4 + 1))]) dX0_loudestKeeping_71 rfl rfl (by decide) rfl ?_
      refine AW_goto (tgt := 13) dX0_loudestKeeping_74 (by decide) ?_
      exact H
set_option maxRecDepth 100000 in
set_option maxHeartbeats 4000000 in
theorem vc_X0_duel {G : xG} {d : Nat} {z : xZ} {v : xS} {Q : Int32 → xS → Prop} (B : Base z) {xa : Int32} {xb : Int32} {xc : Int32} {xd : Int32} 
    (H : (∀ v1 : xS, v1 = wV v 70 4 xa → (∀ v2 : xS, v2 = wV v1 70 5 xb → (∀ v3 : xS, v3 = wV v2 70 6 xc → (∀ v4 : xS, v4 = wV v3 70 7 0 → (∀ v5 : xS, v5 = wA v4 74 (va_cpy (v4.1 31) (v4.1 74) ((0 : Int32).toNatClampNeg) ((0 : Int32).toNatClampNeg) ((10 : Int32).toNatClampNeg)) → (oX0_bestTurn G d [(.ref 70), (.int 0), (.int xd)] z v5 (fun r7 v6 => Q r7 v6)))))))) :
    oX0_duel G (d + 1) [(.ref 70), (.int xa), (.int xb), (.int xc), (.int xd)] z v Q := by
  refine Ok_of (own := RX0) (by decide) rfl (Nat.le_of_ble_eq_true rfl) ?_
  show AW G (d + 1) 0 0 yX0_duel cX0_duel 5 (some .int) RX0 0 0 0 [some (.ref 70), some (.int xa), some (.int xb), some (.int xc), some (.int xd)] [] z v _
  refine AW_aload_n dX0_duel_0 rfl rfl ?_
  refine AW_iload_n dX0_duel_1 rfl rfl ?_
  refine AW_putIN dX0_duel_2 (bI_70 B) fl_X0_23 rfl rfl rfl (fun v1 hv1 => ?_)
  replace H := H v1 hv1
  refine AW_aload_n dX0_duel_5 rfl rfl ?_
  refine AW_iload_n dX0_duel_6 rfl rfl ?_
  refine AW_putIN dX0_duel_7 (bI_70 B) fl_X0_27 rfl rfl rfl (fun v2 hv2 => ?_)
  replace H := H v2 hv2
  refine AW_aload_n dX0_duel_10 rfl rfl ?_
  refine AW_iload_n dX0_duel_11 rfl rfl ?_
  refine AW_putIN dX0_duel_12 (bI_70 B) fl_X0_30 rfl rfl rfl (fun v3 hv3 => ?_)
  replace H := H v3 hv3
  refine AW_aload_n dX0_duel_15 rfl rfl ?_
  refine AW_iconst (x := 0) dX0_duel_16 (by decide) ?_
  refine AW_putIN dX0_duel_17 (bI_70 B) fl_X0_33 rfl rfl rfl (fun v4 hv4 => ?_)
  replace H := H v4 hv4
  refine AW_aload_n dX0_duel_20 rfl rfl ?_
  refine AW_getR dX0_duel_21 (bI_70 B) fl_X0_36 (bR_70_0 B) ?_
  refine AW_getR dX0_duel_24 (bI_30 B) fl_X0_40 (bR_30_4 B) ?_
  refine AW_iconst (x := 0) dX0_duel_27 (by decide) ?_
  refine AW_aload_n dX0_duel_28 rfl rfl ?_
  refine AW_getR dX0_duel_29 (bI_70 B) fl_X0_20 (bR_70_3 B) ?_
  refine AW_iconst (x := 0) dX0_duel_32 (by decide) ?_
  refine AW_aald dX0_duel_33 (bI_73 B) (Or.inr rfl) (by unfold vp_in; decide) (w := .ref 74) (by rw [(bA_73 B _ (vp_lt (show vp_in 0 7 from (by unfold vp_in; decide)))).1]; rfl) ?_
  refine AW_iconst (x := 0) dX0_duel_34 (by decide) ?_
  refine AW_bipush (x := 10) dX0_duel_35 (by decide) ?_
  refine AW_copyN dX0_duel_37 ml_X0_45 (bI_31 B) (bI_74 B) (by decide) (by decide) (by decide) (by decide) (by decide) (Nat.succ_pos _) (Nat.le_of_ble_eq_true rfl) (fun v5 hv5 => ?_)
  replace H := H v5 hv5
  refine AW_aload_n dX0_duel_40 rfl rfl ?_
  refine AW_iconst (x := 0) dX0_duel_41 (by decide) ?_
  refine AW_iload dX0_duel_42 rfl ?_
  refine AW_vI (as := [(.int 0), (.int xd)]) (st := []) dX0_duel_44 (bI_70 B) (by decide) rfl mv_X0_bestTurn mi_X0_bestTurn ml_X0_85 (Nat.le_of_ble_eq_true rfl) rfl (Nat.le_refl 0) (Nat.le_refl 0) H (fun r7 v6 H => ?_)
  exact AW_rI dX0_duel_47 rfl rfl H
set_option maxRecDepth 100000 in
set_option maxHeartbeats 4000000 in
theorem vc_X0_bestTurn {G : xG} {d : Nat} {z : xZ} {v : xS} {Q : Int32 → xS → Prop} (B : Base z) {xa : Int32} {xb : Int32} 
    (H : ((xb ≤ xa → (vp_in xa 7 ∧ (vp_in (v.1 70 6) 10 ∧ Q (v.1 (74 + xa.toNatClampNeg) (v.1 70 6).toNatClampNeg) v))) ∧ (¬ xb ≤ xa → ((xa < 6 → ((¬ (xa - xa / 2 * 2) = 0 → aX0_bestTurn G (d + 1) 41 [some (.ref 70), some (.int xa), some (.int xb), some (.int 0), some (.int 0), some (.int 0), none] [] z v Q) ∧ ((xa - xa / 2 * 2) = 0 → aX0_bestTurn G (d + 1) 41 [some (.ref 70), some (.int xa), some (.int xb), some (.int 1), some (.int 0), some (.int 0), none] [] z v Q))) ∧ (¬ xa < 6 → (vp_in xa 7 ∧ (vp_in (v.1 70 6) 10 ∧ Q (v.1 (74 + xa.toNatClampNeg) (v.1 70 6).toNatClampNeg) v))))))) :
    oX0_bestTurn G (d + 1) [(.ref 70), (.int xa), (.int xb)] z v Q := by
  refine Ok_of (own := RX0) (by decide) rfl (Nat.le_of_ble_eq_true rfl) ?_
  show AW G (d + 1) 0 0 yX0_bestTurn cX0_bestTurn 7 (some .int) RX0 0 0 0 [some (.ref 70), some (.int xa), some (.int xb), none, none, none, none] [] z v _
  refine AW_iload_n dX0_bestTurn_0 rfl rfl ?_
  refine AW_iload_n dX0_bestTurn_1 rfl rfl ?_
  refine AW_icmp_ge (tgt := 11) dX0_bestTurn_2 (by decide) (fun c => ?_) (fun c => ?_)
  · replace H := H.1 c
    refine AW_aload_n dX0_bestTurn_11 rfl rfl ?_
    refine AW_getR dX0_bestTurn_12 (bI_70 B) fl_X0_20 (bR_70_3 B) ?_
    refine AW_iload_n dX0_bestTurn_15 rfl rfl ?_
    have hi1 := H.1
    replace H := H.2
    refine AW_aald dX0_bestTurn_16 (bI_73 B) (Or.inr rfl) hi1 (w := .ref (74 + xa.toNatClampNeg)) (by rw [(bA_73 B _ (vp_lt hi1)).1]; rfl) ?_
    refine AW_aload_n dX0_bestTurn_17 rfl rfl ?_
    refine AW_getI dX0_bestTurn_18 (bI_70 B) fl_X0_30 ?_
    have hi2 := H.1
    replace H := H.2
    refine AW_iald dX0_bestTurn_21 (bA_73 B _ (vp_lt hi1)).2 hi2 ?_
    exact AW_rI dX0_bestTurn_22 rfl rfl H
  · replace H := H.2 c
    refine AW_iload_n dX0_bestTurn_5 rfl rfl ?_
    refine AW_bipush (x := 6) dX0_bestTurn_6 (by decide) ?_
    refine AW_icmp_lt (tgt := 23) dX0_bestTurn_8 (by decide) (fun c => ?_) (fun c => ?_)
    · replace H := H.1 c
      refine AW_iload_n dX0_bestTurn_23 rfl rfl ?_
      refine AW_iconst (x := 2) dX0_bestTurn_24 (by decide) ?_
      refine AW_irem dX0_bestTurn_25 (by decide) ?_
      refine AW_if_ne (tgt := 33) dX0_bestTurn_26 (by decide) (fun c => ?_) (fun c => ?_)
      · replace H := H.1 c
        refine AW_iconst (x := 0) dX0_bestTurn_33 (by decide) ?_
        refine AW_istore_n (L' := [some (.ref 70), some (.int xa), some (.int xb), some (.int 0), none, none, none]) dX0_bestTurn_34 rfl (by decide) rfl ?_
        refine AW_iconst (x := 0) dX0_bestTurn_35 (by decide) ?_
        refine AW_istore (L' := [some (.ref 70), some (.int xa), some (.int xb), some (.int 0), some (.int 0), none, none]) dX0_bestTurn_36 (by decide) rfl ?_
        refine AW_iconst (x := 0) dX0_bestTurn_38 (by decide) ?_
        refine AW_istore (L' := [some (.ref 70), some (.int xa), some (.int xb), some (.int 0), some (.int 0), some (.int 0), none]) dX0_bestTurn_39 (by decide) rfl ?_
        exact H
      · replace H := H.2 c
        refine AW_iconst (x := 1) dX0_bestTurn_29 (by decide) ?_
        refine AW_goto (tgt := 34) dX0_bestTurn_30 (by decide) ?_
        refine AW_istore_n (L' := [some (.ref 70), some (.int xa), some (.int xb), some (.int 1), none, none, none]) dX0_bestTurn_34 rfl (by decide) rfl ?_
        refine AW_iconst (x := 0) dX0_bestTurn_35 (by decide) ?_
        refine AW_istore (L' := [some (.ref 70), some (.int xa), some (.int xb), some (.int 1), some (.int 0), none, none]) dX0_bestTurn_36 (by decide) rfl ?_
        refine AW_iconst (x := 0) dX0_bestTurn_38 (by decide) ?_
        refine AW_istore (L' := [some (.ref 70), some (.int xa), some (.int xb), some (.int 1), some (.int 0), some (.int 0), none]) dX0_bestTurn_39 (by decide) rfl ?_
        exact H
    · replace H := H.2 c
      refine AW_aload_n dX0_bestTurn_11 rfl rfl ?_
      refine AW_getR dX0_bestTurn_12 (bI_70 B) fl_X0_20 (bR_70_3 B) ?_
      refine AW_iload_n dX0_bestTurn_15 rfl rfl ?_
      have hi3 := H.1
      replace H := H.2
      refine AW_aald dX0_bestTurn_16 (bI_73 B) (Or.inr rfl) hi3 (w := .ref (74 + xa.toNatClampNeg)) (by rw [(bA_73 B _ (vp_lt hi3)).1]; rfl) ?_
      refine AW_aload_n dX0_bestTurn_17 rfl rfl ?_
      refine AW_getI dX0_bestTurn_18 (bI_70 B) fl_X0_30 ?_
      have hi4 := H.1
      replace H := H.2
      refine AW_iald dX0_bestTurn_21 (bA_73 B _ (vp_lt hi3)).2 hi4 ?_
      exact AW_rI dX0_bestTurn_22 rfl rfl H
set_option maxRecDepth 100000 in
set_option maxHeartbeats 4000000 in
theorem vc_X0_bestTurn_41 {G : xG} {d : Nat} {z : xZ} {v : xS} {Q : Int32 → xS → Prop} (B : Base z)  {l1 : Int32} {l2 : Int32} {l3 : Int32} {l4 : Int32} {l5 : Int32} 
    (H : ((3 ≤ l5 → Q l4 v) ∧ (¬ 3 ≤ l5 → (vp_in l1 7 ∧ (vp_in (l1 + 1) 7 ∧ (∀ v3 : xS, v3 = wA v (74 + (l1 + 1).toNatClampNeg) (va_cpy (v.1 (74 + l1.toNatClampNeg)) (v.1 (74 + (l1 + 1).toNatClampNeg)) ((0 : Int32).toNatClampNeg) ((0 : Int32).toNatClampNeg) ((10 : Int32).toNatClampNeg)) → (vp_in (l1 + 1) 7 ∧ ((l3 = 0 → (oX1_playTune G d [(.ref 30), (.ref (74 + (l1 + 1).toNatClampNeg)), (.int (v3.1 70 5)), (.int l5)] z v3 (fun r6 v5 => (oX0_bestTurn G d [(.ref 70), (.int (l1 + 1)), (.int l2)] z v5 (fun r8 v7 => ((l5 = 0 → ((¬ l1 = 0 → aX0_bestTurn G (d + 1) 41 [some (.ref 70), some (.int l1), some (.int l2), some (.int l3), some (.int r8), some (.int (l5 + 1)), none] [] z v7 Q) ∧ (l1 = 0 → (∀ v9 : xS, v9 = wV v7 70 7 l5 → aX0_bestTurn G (d + 1) 41 [some (.ref 70), some (.int l1), some (.int l2), some (.int l3), some (.int r8), some (.int (l5 + 1)), none] [] z v9 Q)))) ∧ (¬ l5 = 0 → ((l3 = 0 → ((l4 ≤ r8 → aX0_bestTurn G (d + 1) 41 [some (.ref 70), some (.int l1), some (.int l2), some (.int l3), some (.int l4), some (.int (l5 + 1)), none] [] z v7 Q) ∧ (¬ l4 ≤ r8 → ((¬ l1 = 0 → aX0_bestTurn G (d + 1) 41 [some (.ref 70), some (.int l1), some (.int l2), some (.int l3), some (.int r8), some (.int (l5 + 1)), none] [] z v7 Q) ∧ (l1 = 0 → (∀ v10 : xS, v10 = wV v7 70 7 l5 → aX0_bestTurn G (d + 1) 41 [some (.ref 70), some (.int l1), some (.int l2), some (.int l3), some (.int r8), some (.int (l5 + 1)), none] [] z v10 Q)))))) ∧ (¬ l3 = 0 → ((r8 ≤ l4 → aX0_bestTurn G (d + 1) 41 [some (.ref 70), some (.int l1), some (.int l2), some (.int l3), some (.int l4), some (.int (l5 + 1)), none] [] z v7 Q) ∧ (¬ r8 ≤ l4 → ((¬ l1 = 0 → aX0_bestTurn G (d + 1) 41 [some (.ref 70), some (.int l1), some (.int l2), some (.int l3), some (.int r8), some (.int (l5 + 1)), none] [] z v7 Q) ∧ (l1 = 0 → (∀ v11 : xS, v11 = wV v7 70 7 l5 → aX0_bestTurn G (d + 1) 41 [some (.ref 70), some (.int l1), some (.int l2), some (.int l3), some (.int r8), some (.int (l5 + 1)), none] [] z v11 Q)))))))))))))) ∧ (¬ l3 = 0 → (oX1_playTune G d [(.ref 30), (.ref (74 + (l1 + 1).toNatClampNeg)), (.int (v3.1 70 4)), (.int l5)] z v3 (fun r13 v12 => (oX0_bestTurn G d [(.ref 70), (.int (l1 + 1)), (.int l2)] z v12 (fun r15 v14 => ((l5 = 0 → ((¬ l1 = 0 → aX0_bestTurn G (d + 1) 41 [some (.ref 70), some (.int l1), some (.int l2), some (.int l3), some (.int r15), some (.int (l5 + 1)), none] [] z v14 Q) ∧ (l1 = 0 → (∀ v16 : xS, v16 = wV v14 70 7 l5 → aX0_bestTurn G (d + 1) 41 [some (.ref 70), some (.int l1), some (.int l2), some (.int l3), some (.int r15), some (.int (l5 + 1)), none] [] z v16 Q)))) ∧ (¬ l5 = 0 → ((l3 = 0 → ((l4 ≤ r15 → aX0_bestTurn G (d + 1) 41 [some (.ref 70), some (.int l1), some (.int l2), some (.int l3), some (.int l4), some (.int (l5 + 1)), none] [] z v14 Q) ∧ (¬ l4 ≤ r15 → ((¬ l1 = 0 → aX0_bestTurn G (d + 1) 41 [some (.ref 70), some (.int l1), some (.int l2), some (.int l3), some (.int r15), some (.int (l5 + 1)), none] [] z v14 Q) ∧ (l1 = 0 → (∀ v17 : xS, v17 = wV v14 70 7 l5 → aX0_bestTurn G (d + 1) 41 [some (.ref 70), some (.int l1), some (.int l2), some (.int l3), some (.int r15), some (.int (l5 + 1)), none] [] z v17 Q)))))) ∧ (¬ l3 = 0 → ((r15 ≤ l4 → aX0_bestTurn G (d + 1) 41 [some (.ref 70), some (.int l1), some (.int l2), some (.int l3), some (.int l4), some (.int (l5 + 1)), none] [] z v14 Q) ∧ (¬ r15 ≤ l4 → ((¬ l1 = 0 → aX0_bestTurn G (d + 1) 41 [some (.ref 70), some (.int l1), some (.int l2), some (.int l3), some (.int r15), some (.int (l5 + 1)), none] [] z v14 Q) ∧ (l1 = 0 → (∀ v18 : xS, v18 = wV v14 70 7 l5 → aX0_bestTurn G (d + 1) 41 [some (.ref 70), some (.int l1), some (.int l2), some (.int l3), some (.int r15), some (.int (l5 + 1)), none] [] z v18 Q)))))))))))))))))))))) :
    aX0_bestTurn G (d + 1) 41 [some (.ref 70), some (.int l1), some (.int l2), some (.int l3), some (.int l4), some (.int l5), none] [] z v Q := by
  refine AW_iload dX0_bestTurn_41 rfl ?_
  refine AW_iconst (x := 3) dX0_bestTurn_43 (by decide) ?_
  refine AW_icmp_ge (tgt := 157) dX0_bestTurn_44 (by decide) (fun c => ?_) (fun c => ?_)
  · replace H := H.1 c
    refine AW_iload dX0_bestTurn_157 rfl ?_
    exact AW_rI dX0_bestTurn_159 rfl rfl H
  · replace H := H.2 c
    refine AW_aload_n dX0_bestTurn_47 rfl rfl ?_
    refine AW_getR dX0_bestTurn_48 (bI_70 B) fl_X0_20 (bR_70_3 B) ?_
    refine AW_iload_n dX0_bestTurn_51 rfl rfl ?_
    have hi1 := H.1
    replace H := H.2
    refine AW_aald dX0_bestTurn_52 (bI_73 B) (Or.inr rfl) hi1 (w := .ref (74 + l1.toNatClampNeg)) (by rw [(bA_73 B _ (vp_lt hi1)).1]; rfl) ?_
    refine AW_iconst (x := 0) dX0_bestTurn_53 (by decide) ?_
    refine AW_aload_n dX0_bestTurn_54 rfl rfl ?_
    refine AW_getR dX0_bestTurn_55 (bI_70 B) fl_X0_20 (bR_70_3 B) ?_
    refine AW_iload_n dX0_bestTurn_58 rfl rfl ?_
    refine AW_iconst (x := 1) dX0_bestTurn_59 (by decide) ?_
    refine AW_iadd dX0_bestTurn_60 ?_
    have hi2 := H.1
    replace H := H.2
    refine AW_aald dX0_bestTurn_61 (bI_73 B) (Or.inr rfl) hi2 (w := .ref (74 + (l1 + 1).toNatClampNeg)) (by rw [(bA_73 B _ (vp_lt hi2)).1]; rfl) ?_
    refine AW_iconst (x := 0) dX0_bestTurn_62 (by decide) ?_
    refine AW_bipush (x := 10) dX0_bestTurn_63 (by decide) ?_
    refine AW_copyN dX0_bestTurn_65 ml_X0_45 (bA_73 B _ (vp_lt hi1)).2 (bA_73 B _ (vp_lt hi2)).2 (by decide) (by decide) (by decide) (by decide) (by decide) (Nat.succ_pos _) (Nat.le_of_ble_eq_true rfl) (fun v3 hv3 => ?_)
    replace H := H v3 hv3
    refine AW_aload_n dX0_bestTurn_68 rfl rfl ?_
    refine AW_getR dX0_bestTurn_69 (bI_70 B) fl_X0_36 (bR_70_0 B) ?_
    refine AW_aload_n dX0_bestTurn_72 rfl rfl ?_
    refine AW_getR dX0_bestTurn_73 (bI_70 B) fl_X0_20 (bR_70_3 B) ?_
    refine AW_iload_n dX0_bestTurn_76 rfl rfl ?_
    refine AW_iconst (x := 1) dX0_bestTurn_77 (by decide) ?_
    refine AW_iadd dX0_bestTurn_78 ?_
    have hi4 := H.1
    replace H := H.2
    refine AW_aald dX0_bestTurn_79 (bI_73 B) (Or.inr rfl) hi4 (w := .ref (74 + (l1 + 1).toNatClampNeg)) (by rw [(bA_73 B _ (vp_lt hi4)).1]; rfl) ?_
    refine AW_iload_n dX0_bestTurn_80 rfl rfl ?_
    refine AW_if_eq (tgt := 91) dX0_bestTurn_81 (by decide) (fun c => ?_) (fun c => ?_)
    · replace H := H.1 c
      refine AW_aload_n dX0_bestTurn_91 rfl rfl ?_
      refine AW_getI dX0_bestTurn_92 (bI_70 B) fl_X0_27 ?_
      refine AW_iload dX0_bestTurn_95 rfl ?_
      refine AW_vI (as := [(.ref (74 + (l1 + 1).toNatClampNeg)), (.int (v3.1 70 5)), (.int l5)]) (st := []) dX0_bestTurn_97 (bI_30 B) (by decide) rfl mv_X1_playTune mi_X1_playTune ml_X0_54 (Nat.le_of_ble_eq_true rfl) rfl (Nat.le_refl 0) (Nat.le_refl 0) H (fun r6 v5 H => ?_)
      refine AW_pop dX0_bestTurn_100 rfl ?_
      refine AW_aload_n dX0_bestTurn_101 rfl rfl ?_
      refine AW_iload_n dX0_bestTurn_102 rfl rfl ?_
      refine AW_iconst (x := 1) dX0_bestTurn_103 (by decide) ?_
      refine AW_iadd dX0_bestTurn_104 ?_
      refine AW_iload_n dX0_bestTurn_105 rfl rfl ?_
      refine AW_vI (as := [(.int (l1 + 1)), (.int l2)]) (st := []) dX0_bestTurn_106 (bI_70 B) (by decide) rfl mv_X0_bestTurn mi_X0_bestTurn ml_X0_85 (Nat.le_of_ble_eq_true rfl) rfl (Nat.le_refl 0) (Nat.le_refl 0) H (fun r8 v7 H => ?_)
      refine AW_istore (L' := [some (.ref 70), some (.int l1), some (.int l2), some (.int l3), some (.int l4), some (.int l5), some (.int r8)]) dX0_bestTurn_109 (by decide) rfl ?_
      refine AW_iload dX0_bestTurn_111 rfl ?_
      refine AW_if_eq (tgt := 137) dX0_bestTurn_113 (by decide) (fun c => ?_) (fun c => ?_)
      · replace H := H.1 c
        refine AW_iload dX0_bestTurn_137 rfl ?_
        refine AW_istore (L' := [some (.ref 70), some (.int l1), some (.int l2), some (.int l3), some (.int r8), some (.int l5), some (.int r8)]) dX0_bestTurn_139 (by decide) rfl ?_
        refine AW_iload_n dX0_bestTurn_141 rfl rfl ?_
        refine AW_if_ne (tgt := 151) dX0_bestTurn_142 (by decide) (fun c => ?_) (fun c => ?_)
        · replace H := H.1 c
          refine AW_iinc (x' := l5 + 1) (L' := [some (.ref 70), some (.int l1), some (.int l2), some (.int l3), some (.int r8), some (.int (l5 + 1)), some (.int r8)]) dX0_bestTurn_151 rfl rfl (by decide) rfl ?_
          refine AW_goto (tgt := 41) dX0_bestTurn_154 (by decide) ?_
          refine AW_sub (L' := [some (.ref 70), some (.int l1), some (.int l2), some (.int l3), some (.int r8), some (.int (l5 + 1)), none]) (show xle _ _ from ⟨rfl, ⟨rfl, ⟨rfl, ⟨rfl, ⟨rfl, ⟨rfl, trivial⟩⟩⟩⟩⟩⟩) ?_
          exact H
        · replace H := H.2 c
          refine AW_aload_n dX0_bestTurn_145 rfl rfl ?_
          refine AW_iload dX0_bestTurn_146 rfl ?_
          refine AW_putIN dX0_bestTurn_148 (bI_70 B) fl_X0_33 rfl rfl rfl (fun v9 hv9 => ?_)
          replace H := H v9 hv9
          refine AW_iinc (x' := l5 + 1) (L' := [some (.ref 70), some (.int l1), some (.int l2), some (.int l3), some (.int r8), some (.int (l5 + 1)), some (.int r8)]) dX0_bestTurn_151 rfl rfl (by decide) rfl ?_
          refine AW_goto (tgt := 41) dX0_bestTurn_154 (by decide) ?_
          refine AW_sub (L' := [some (.ref 70), some (.int l1), some (.int l2), some (.int l3), some (.int r8), some (.int (l5 + 1)), none]) (show xle _ _ from ⟨rfl, ⟨rfl, ⟨rfl, ⟨rfl, ⟨rfl, ⟨rfl, trivial⟩⟩⟩⟩⟩⟩) ?_
          exact H
      · replace H := H.2 c
        refine AW_iload_n dX0_bestTurn_116 rfl rfl ?_
        refine AW_if_eq (tgt := 130) dX0_bestTurn_117 (by decide) (fun c => ?_) (fun c => ?_)
        · replace H := H.1 c
          refine AW_iload dX0_bestTurn_130 rfl ?_
          refine AW_iload dX0_bestTurn_132 rfl ?_
          refine AW_icmp_ge (tgt := 151) dX0_bestTurn_134 (by decide) (fun c => ?_) (fun c => ?_)
          · replace H := H.1 c
            refine AW_iinc (x' := l5 + 1) (L' := [some (.ref 70), some (.int l1), some (.int l2), some (.int l3), some (.int l4), some (.int (l5 + 1)), some (.int r8)]) dX0_bestTurn_151 rfl rfl (by decide) rfl ?_
            refine AW_goto (tgt := 41) dX0_bestTurn_154 (by decide) ?_
            refine AW_sub (L' := [some (.ref 70), some (.int l1), some (.int l2), some (.int l3), some (.int l4), some (.int (l5 + 1)), none]) (show xle _ _ from ⟨rfl, ⟨rfl, ⟨rfl, ⟨rfl, ⟨rfl, ⟨rfl, trivial⟩⟩⟩⟩⟩⟩) ?_
            exact H
          · replace H := H.2 c
            refine AW_iload dX0_bestTurn_137 rfl ?_
            refine AW_istore (L' := [some (.ref 70), some (.int l1), some (.int l2), some (.int l3), some (.int r8), some (.int l5), some (.int r8)]) dX0_bestTurn_139 (by decide) rfl ?_
            refine AW_iload_n dX0_bestTurn_141 rfl rfl ?_
            refine AW_if_ne (tgt := 151) dX0_bestTurn_142 (by decide) (fun c => ?_) (fun c => ?_)
            · replace H := H.1 c
              refine AW_iinc (x' := l5 + 1) (L' := [some (.ref 70), some (.int l1), some (.int l2), some (.int l3), some (.int r8), some (.int (l5 + 1)), some (.int r8)]) dX0_bestTurn_151 rfl rfl (by decide) rfl ?_
              refine AW_goto (tgt := 41) dX0_bestTurn_154 (by decide) ?_
              refine AW_sub (L' := [some (.ref 70), some (.int l1), some (.int l2), some (.int l3), some (.int r8), some (.int (l5 + 1)), none]) (show xle _ _ from ⟨rfl, ⟨rfl, ⟨rfl, ⟨rfl, ⟨rfl, ⟨rfl, trivial⟩⟩⟩⟩⟩⟩) ?_
              exact H
            · replace H := H.2 c
              refine AW_aload_n dX0_bestTurn_145 rfl rfl ?_
              refine AW_iload dX0_bestTurn_146 rfl ?_
              refine AW_putIN dX0_bestTurn_148 (bI_70 B) fl_X0_33 rfl rfl rfl (fun v10 hv10 => ?_)
              replace H := H v10 hv10
              refine AW_iinc (x' := l5 + 1) (L' := [some (.ref 70), some (.int l1), some (.int l2), some (.int l3), some (.int r8), some (.int (l5 + 1)), some (.int r8)]) dX0_bestTurn_151 rfl rfl (by decide) rfl ?_
              refine AW_goto (tgt := 41) dX0_bestTurn_154 (by decide) ?_
              refine AW_sub (L' := [some (.ref 70), some (.int l1), some (.int l2), some (.int l3), some (.int r8), some (.int (l5 + 1)), none]) (show xle _ _ from ⟨rfl, ⟨rfl, ⟨rfl, ⟨rfl, ⟨rfl, ⟨rfl, trivial⟩⟩⟩⟩⟩⟩) ?_
              exact H
        · replace H := H.2 c
          refine AW_iload dX0_bestTurn_120 rfl ?_
          refine AW_iload dX0_bestTurn_122 rfl ?_
          refine AW_icmp_le (tgt := 151) dX0_bestTurn_124 (by decide) (fun c => ?_) (fun c => ?_)
          · replace H := H.1 c
            refine AW_iinc (x' := l5 + 1) (L' := [some (.ref 70), some (.int l1), some (.int l2), some (.int l3), some (.int l4), some (.int (l5 + 1)), some (.int r8)]) dX0_bestTurn_151 rfl rfl (by decide) rfl ?_
            refine AW_goto (tgt := 41) dX0_bestTurn_154 (by decide) ?_
            refine AW_sub (L' := [some (.ref 70), some (.int l1), some (.int l2), some (.int l3), some (.int l4), some (.int (l5 + 1)), none]) (show xle _ _ from ⟨rfl, ⟨rfl, ⟨rfl, ⟨rfl, ⟨rfl, ⟨rfl, trivial⟩⟩⟩⟩⟩⟩) ?_
            exact H
          · replace H := H.2 c
            refine AW_goto (tgt := 137) dX0_bestTurn_127 (by decide) ?_
            refine AW_iload dX0_bestTurn_137 rfl ?_
            refine AW_istore (L' := [some (.ref 70), some (.int l1), some (.int l2), some (.int l3), some (.int r8), some (.int l5), some (.int r8)]) dX0_bestTurn_139 (by decide) rfl ?_
            refine AW_iload_n dX0_bestTurn_141 rfl rfl ?_
            refine AW_if_ne (tgt := 151) dX0_bestTurn_142 (by decide) (fun c => ?_) (fun c => ?_)
            · replace H := H.1 c
              refine AW_iinc (x' := l5 + 1) (L' := [some (.ref 70), some (.int l1), some (.int l2), some (.int l3), some (.int r8), some (.int (l5 + 1)), some (.int r8)]) dX0_bestTurn_151 rfl rfl (by decide) rfl ?_
              refine AW_goto (tgt := 41) dX0_bestTurn_154 (by decide) ?_
              refine AW_sub (L' := [some (.ref 70), some (.int l1), some (.int l2), some (.int l3), some (.int r8), some (.int (l5 + 1)), none]) (show xle _ _ from ⟨rfl, ⟨rfl, ⟨rfl, ⟨rfl, ⟨rfl, ⟨rfl, trivial⟩⟩⟩⟩⟩⟩) ?_
              exact H
            · replace H := H.2 c
              refine AW_aload_n dX0_bestTurn_145 rfl rfl ?_
              refine AW_iload dX0_bestTurn_146 rfl ?_
              refine AW_putIN dX0_bestTurn_148 (bI_70 B) fl_X0_33 rfl rfl rfl (fun v11 hv11 => ?_)
              replace H := H v11 hv11
              refine AW_iinc (x' := l5 + 1) (L' := [some (.ref 70), some (.int l1), some (.int l2), some (.int l3), some (.int r8), some (.int (l5 + 1)), some (.int r8)]) dX0_bestTurn_151 rfl rfl (by decide) rfl ?_
              refine AW_goto (tgt := 41) dX0_bestTurn_154 (by decide) ?_
              refine AW_sub (L' := [some (.ref 70), some (.int l1), some (.int l2), some (.int l3), some (.int r8), some (.int (l5 + 1)), none]) (show xle _ _ from ⟨rfl, ⟨rfl, ⟨rfl, ⟨rfl, ⟨rfl, ⟨rfl, trivial⟩⟩⟩⟩⟩⟩) ?_
              exact H
    · replace H := H.2 c
      refine AW_aload_n dX0_bestTurn_84 rfl rfl ?_
      refine AW_getI dX0_bestTurn_85 (bI_70 B) fl_X0_23 ?_
      refine AW_goto (tgt := 95) dX0_bestTurn_88 (by decide) ?_
      refine AW_iload dX0_bestTurn_95 rfl ?_
      refine AW_vI (as := [(.ref (74 + (l1 + 1).toNatClampNeg)), (.int (v3.1 70 4)), (.int l5)]) (st := []) dX0_bestTurn_97 (bI_30 B) (by decide) rfl mv_X1_playTune mi_X1_playTune ml_X0_54 (Nat.le_of_ble_eq_true rfl) rfl (Nat.le_refl 0) (Nat.le_refl 0) H (fun r13 v12 H => ?_)
      refine AW_pop dX0_bestTurn_100 rfl ?_
      refine AW_aload_n dX0_bestTurn_101 rfl rfl ?_
      refine AW_iload_n dX0_bestTurn_102 rfl rfl ?_
      refine AW_iconst (x := 1) dX0_bestTurn_103 (by decide) ?_
      refine AW_iadd dX0_bestTurn_104 ?_
      refine AW_iload_n dX0_bestTurn_105 rfl rfl ?_
      refine AW_vI (as := [(.int (l1 + 1)), (.int l2)]) (st := []) dX0_bestTurn_106 (bI_70 B) (by decide) rfl mv_X0_bestTurn mi_X0_bestTurn ml_X0_85 (Nat.le_of_ble_eq_true rfl) rfl (Nat.le_refl 0) (Nat.le_refl 0) H (fun r15 v14 H => ?_)
      refine AW_istore (L' := [some (.ref 70), some (.int l1), some (.int l2), some (.int l3), some (.int l4), some (.int l5), some (.int r15)]) dX0_bestTurn_109 (by decide) rfl ?_
      refine AW_iload dX0_bestTurn_111 rfl ?_
      refine AW_if_eq (tgt := 137) dX0_bestTurn_113 (by decide) (fun c => ?_) (fun c => ?_)
      · replace H := H.1 c
        refine AW_iload dX0_bestTurn_137 rfl ?_
        refine AW_istore (L' := [some (.ref 70), some (.int l1), some (.int l2), some (.int l3), some (.int r15), some (.int l5), some (.int r15)]) dX0_bestTurn_139 (by decide) rfl ?_
        refine AW_iload_n dX0_bestTurn_141 rfl rfl ?_
        refine AW_if_ne (tgt := 151) dX0_bestTurn_142 (by decide) (fun c => ?_) (fun c => ?_)
        · replace H := H.1 c
          refine AW_iinc (x' := l5 + 1) (L' := [some (.ref 70), some (.int l1), some (.int l2), some (.int l3), some (.int r15), some (.int (l5 + 1)), some (.int r15)]) dX0_bestTurn_151 rfl rfl (by decide) rfl ?_
          refine AW_goto (tgt := 41) dX0_bestTurn_154 (by decide) ?_
          refine AW_sub (L' := [some (.ref 70), some (.int l1), some (.int l2), some (.int l3), some (.int r15), some (.int (l5 + 1)), none]) (show xle _ _ from ⟨rfl, ⟨rfl, ⟨rfl, ⟨rfl, ⟨rfl, ⟨rfl, trivial⟩⟩⟩⟩⟩⟩) ?_
          exact H
        · replace H := H.2 c
          refine AW_aload_n dX0_bestTurn_145 rfl rfl ?_
          refine AW_iload dX0_bestTurn_146 rfl ?_
          refine AW_putIN dX0_bestTurn_148 (bI_70 B) fl_X0_33 rfl rfl rfl (fun v16 hv16 => ?_)
          replace H := H v16 hv16
          refine AW_iinc (x' := l5 + 1) (L' := [some (.ref 70), some (.int l1), some (.int l2), some (.int l3), some (.int r15), some (.int (l5 + 1)), some (.int r15)]) dX0_bestTurn_151 rfl rfl (by decide) rfl ?_
          refine AW_goto (tgt := 41) dX0_bestTurn_154 (by decide) ?_
          refine AW_sub (L' := [some (.ref 70), some (.int l1), some (.int l2), some (.int l3), some (.int r15), some (.int (l5 + 1)), none]) (show xle _ _ from ⟨rfl, ⟨rfl, ⟨rfl, ⟨rfl, ⟨rfl, ⟨rfl, trivial⟩⟩⟩⟩⟩⟩) ?_
          exact H
      · replace H := H.2 c
        refine AW_iload_n dX0_bestTurn_116 rfl rfl ?_
        refine AW_if_eq (tgt := 130) dX0_bestTurn_117 (by decide) (fun c => ?_) (fun c => ?_)
        · replace H := H.1 c
          refine AW_iload dX0_bestTurn_130 rfl ?_
          refine AW_iload dX0_bestTurn_132 rfl ?_
          refine AW_icmp_ge (tgt := 151) dX0_bestTurn_134 (by decide) (fun c => ?_) (fun c => ?_)
          · replace H := H.1 c
            refine AW_iinc (x' := l5 + 1) (L' := [some (.ref 70), some (.int l1), some (.int l2), some (.int l3), some (.int l4), some (.int (l5 + 1)), some (.int r15)]) dX0_bestTurn_151 rfl rfl (by decide) rfl ?_
            refine AW_goto (tgt := 41) dX0_bestTurn_154 (by decide) ?_
            refine AW_sub (L' := [some (.ref 70), some (.int l1), some (.int l2), some (.int l3), some (.int l4), some (.int (l5 + 1)), none]) (show xle _ _ from ⟨rfl, ⟨rfl, ⟨rfl, ⟨rfl, ⟨rfl, ⟨rfl, trivial⟩⟩⟩⟩⟩⟩) ?_
            exact H
          · replace H := H.2 c
            refine AW_iload dX0_bestTurn_137 rfl ?_
            refine AW_istore (L' := [some (.ref 70), some (.int l1), some (.int l2), some (.int l3), some (.int r15), some (.int l5), some (.int r15)]) dX0_bestTurn_139 (by decide) rfl ?_
            refine AW_iload_n dX0_bestTurn_141 rfl rfl ?_
            refine AW_if_ne (tgt := 151) dX0_bestTurn_142 (by decide) (fun c => ?_) (fun c => ?_)
            · replace H := H.1 c
              refine AW_iinc (x' := l5 + 1) (L' := [some (.ref 70), some (.int l1), some (.int l2), some (.int l3), some (.int r15), some (.int (l5 + 1)), some (.int r15)]) dX0_bestTurn_151 rfl rfl (by decide) rfl ?_
              refine AW_goto (tgt := 41) dX0_bestTurn_154 (by decide) ?_
              refine AW_sub (L' := [some (.ref 70), some (.int l1), some (.int l2), some (.int l3), some (.int r15), some (.int (l5 + 1)), none]) (show xle _ _ from ⟨rfl, ⟨rfl, ⟨rfl, ⟨rfl, ⟨rfl, ⟨rfl, trivial⟩⟩⟩⟩⟩⟩) ?_
              exact H
            · replace H := H.2 c
              refine AW_aload_n dX0_bestTurn_145 rfl rfl ?_
              refine AW_iload dX0_bestTurn_146 rfl ?_
              refine AW_putIN dX0_bestTurn_148 (bI_70 B) fl_X0_33 rfl rfl rfl (fun v17 hv17 => ?_)
              replace H := H v17 hv17
              refine AW_iinc (x' := l5 + 1) (L' := [some (.ref 70), some (.int l1), some (.int l2), some (.int l3), some (.int r15), some (.int (l5 + 1)), some (.int r15)]) dX0_bestTurn_151 rfl rfl (by decide) rfl ?_
              refine AW_goto (tgt := 41) dX0_bestTurn_154 (by decide) ?_
              refine AW_sub (L' := [some (.ref 70), some (.int l1), some (.int l2), some (.int l3), some (.int r15), some (.int (l5 + 1)), none]) (show xle _ _ from ⟨rfl, ⟨rfl, ⟨rfl, ⟨rfl, ⟨rfl, ⟨rfl, trivial⟩⟩⟩⟩⟩⟩) ?_
              exact H
        · replace H := H.2 c
          refine AW_iload dX0_bestTurn_120 rfl ?_
          refine AW_iload dX0_bestTurn_122 rfl ?_
          refine AW_icmp_le (tgt := 151) dX0_bestTurn_124 (by decide) (fun c => ?_) (fun c => ?_)
          · replace H := H.1 c
            refine AW_iinc (x' := l5 + 1) (L' := [some (.ref 70), some (.int l1), some (.int l2), some (.int l3), some (.int l4), some (.int (l5 + 1)), some (.int r15)]) dX0_bestTurn_151 rfl rfl (by decide) rfl ?_
            refine AW_goto (tgt := 41) dX0_bestTurn_154 (by decide) ?_
            refine AW_sub (L' := [some (.ref 70), some (.int l1), some (.int l2), some (.int l3), some (.int l4), some (.int (l5 + 1)), none]) (show xle _ _ from ⟨rfl, ⟨rfl, ⟨rfl, ⟨rfl, ⟨rfl, ⟨rfl, trivial⟩⟩⟩⟩⟩⟩) ?_
            exact H
          · replace H := H.2 c
            refine AW_goto (tgt := 137) dX0_bestTurn_127 (by decide) ?_
            refine AW_iload dX0_bestTurn_137 rfl ?_
            refine AW_istore (L' := [some (.ref 70), some (.int l1), some (.int l2), some (.int l3), some (.int r15), some (.int l5), some (.int r15)]) dX0_bestTurn_139 (by decide) rfl ?_
            refine AW_iload_n dX0_bestTurn_141 rfl rfl ?_
            refine AW_if_ne (tgt := 151) dX0_bestTurn_142 (by decide) (fun c => ?_) (fun c => ?_)
            · replace H := H.1 c
              refine AW_iinc (x' := l5 + 1) (L' := [some (.ref 70), some (.int l1), some (.int l2), some (.int l3), some (.int r15), some (.int (l5 + 1)), some (.int r15)]) dX0_bestTurn_151 rfl rfl (by decide) rfl ?_
              refine AW_goto (tgt := 41) dX0_bestTurn_154 (by decide) ?_
              refine AW_sub (L' := [some (.ref 70), some (.int l1), some (.int l2), some (.int l3), some (.int r15), some (.int (l5 + 1)), none]) (show xle _ _ from ⟨rfl, ⟨rfl, ⟨rfl, ⟨rfl, ⟨rfl, ⟨rfl, trivial⟩⟩⟩⟩⟩⟩) ?_
              exact H
            · replace H := H.2 c
              refine AW_aload_n dX0_bestTurn_145 rfl rfl ?_
              refine AW_iload dX0_bestTurn_146 rfl ?_
              refine AW_putIN dX0_bestTurn_148 (bI_70 B) fl_X0_33 rfl rfl rfl (fun v18 hv18 => ?_)
              replace H := H v18 hv18
              refine AW_iinc (x' := l5 + 1) (L' := [some (.ref 70), some (.int l1), some (.int l2), some (.int l3), some (.int r15), some (.int (l5 + 1)), some (.int r15)]) dX0_bestTurn_151 rfl rfl (by decide) rfl ?_
              refine AW_goto (tgt := 41) dX0_bestTurn_154 (by decide) ?_
              refine AW_sub (L' := [some (.ref 70), some (.int l1), some (.int l2), some (.int l3), some (.int r15), some (.int (l5 + 1)), none]) (show xle _ _ from ⟨rfl, ⟨rfl, ⟨rfl, ⟨rfl, ⟨rfl, ⟨rfl, trivial⟩⟩⟩⟩⟩⟩) ?_
              exact H
