set_option maxRecDepth 100000 in
set_option maxHeartbeats 4000000 in
theorem vc_X5_row {G : xG} {d : Nat} {z : xZ} {v : xS} {Q : Int32 → xS → Prop} (B : Base z) {xa : Int32} {xb : Int32} 
    (H : (oX5_opened G d [(.ref 0), (.ref 1), (.int xa), (.int xb), (.int 0)] z v (fun r2 v1 => Q r2 v1))) :
    oX5_row G (d + 1) [(.ref 0), (.int xa), (.int xb)] z v Q := by
  refine Ok_of (own := RX5) (by decide) rfl (Nat.le_of_ble_eq_true rfl) ?_
  show AW G (d + 1) 0 0 yX5_row cX5_row 3 (some .int) RX5 0 0 0 [some (.ref 0), some (.int xa), some (.int xb)] [] z v _
  refine AW_aload_n dX5_row_0 rfl rfl ?_
  refine AW_aload_n dX5_row_1 rfl rfl ?_
  refine AW_getR dX5_row_2 (bI_0 B) fl_X5_14 (bR_0_0 B) ?_
  refine AW_iload_n dX5_row_5 rfl rfl ?_
  refine AW_iload_n dX5_row_6 rfl rfl ?_
  refine AW_iconst (x := 0) dX5_row_7 (by decide) ?_
  refine AW_vI (as := [(.ref 1), (.int xa), (.int xb), (.int 0)]) (st := []) dX5_row_8 (bI_0 B) (by decide) rfl mv_X5_opened mi_X5_opened ml_X5_70 (Nat.le_of_ble_eq_true rfl) rfl (Nat.le_refl 0) (Nat.le_refl 0) H (fun r2 v1 H => ?_)
  exact AW_rI dX5_row_11 rfl rfl H
set_option maxRecDepth 100000 in
set_option maxHeartbeats 4000000 in
theorem vc_X5_lay {G : xG} {d : Nat} {z : xZ} {v : xS} {Q : Int32 → xS → Prop} (B : Base z) {xa : Int32} {xb : Int32} {xc : Int32} 
    (H : (oX4_names G d [(.ref 1), (.int xa)] z v (fun r2 v1 => ((¬ r2 = 0 → (oX5_placeRefusal G d [(.ref 0), (.ref 1), (.int xa), (.int xb)] z v1 (fun r4 v3 => ((r4 = 0 → (oX4_get G d [(.ref 1), (.int xa), (.int xb)] z v3 (fun r6 v5 => (oX4_set G d [(.ref 1), (.int xa), (.int xb), (.int xc)] z v5 (fun v7 => (oX5_tell G d [(.ref 0), (.int 1), (.int r6)] z v7 (fun r9 v8 => Q r9 v8))))))) ∧ (¬ r4 = 0 → Q r4 v3))))) ∧ (r2 = 0 → Q (-1) v1))))) :
    oX5_lay G (d + 1) [(.ref 0), (.int xa), (.int xb), (.int xc)] z v Q := by
  refine Ok_of (own := RX5) (by decide) rfl (Nat.le_of_ble_eq_true rfl) ?_
  show AW G (d + 1) 0 0 yX5_lay cX5_lay 6 (some .int) RX5 0 0 0 [some (.ref 0), some (.int xa), some (.int xb), some (.int xc), none, none] [] z v _
  refine AW_aload_n dX5_lay_0 rfl rfl ?_
  refine AW_getR dX5_lay_1 (bI_0 B) fl_X5_14 (bR_0_0 B) ?_
  refine AW_iload_n dX5_lay_4 rfl rfl ?_
  refine AW_vI (as := [(.int xa)]) (st := []) dX5_lay_5 (bI_1 B) (by decide) rfl mv_X4_names mi_X4_names ml_X5_74 (Nat.le_of_ble_eq_true rfl) rfl (Nat.le_refl 0) (Nat.le_refl 0) H (fun r2 v1 H => ?_)
  refine AW_if_ne (tgt := 13) dX5_lay_8 (by decide) (fun c => ?_) (fun c => ?_)
  · replace H := H.1 c
    refine AW_aload_n dX5_lay_13 rfl rfl ?_
    refine AW_aload_n dX5_lay_14 rfl rfl ?_
    refine AW_getR dX5_lay_15 (bI_0 B) fl_X5_14 (bR_0_0 B) ?_
    refine AW_iload_n dX5_lay_18 rfl rfl ?_
    refine AW_iload_n dX5_lay_19 rfl rfl ?_
    refine AW_vI (as := [(.ref 1), (.int xa), (.int xb)]) (st := []) dX5_lay_20 (bI_0 B) (by decide) rfl mv_X5_placeRefusal mi_X5_placeRefusal ml_X5_78 (Nat.le_of_ble_eq_true rfl) rfl (Nat.le_refl 0) (Nat.le_refl 0) H (fun r4 v3 H => ?_)
    refine AW_istore (L' := [some (.ref 0), some (.int xa), some (.int xb), some (.int xc), some (.int r4), none]) dX5_lay_23 (by decide) rfl ?_
    refine AW_iload dX5_lay_25 rfl ?_
    refine AW_if_eq (tgt := 33) dX5_lay_27 (by decide) (fun c => ?_) (fun c => ?_)
    · replace H := H.1 c
      refine AW_aload_n dX5_lay_33 rfl rfl ?_
      refine AW_getR dX5_lay_34 (bI_0 B) fl_X5_14 (bR_0_0 B) ?_
      refine AW_iload_n dX5_lay_37 rfl rfl ?_
      refine AW_iload_n dX5_lay_38 rfl rfl ?_
      refine AW_vI (as := [(.int xa), (.int xb)]) (st := []) dX5_lay_39 (bI_1 B) (by decide) rfl mv_X4_get mi_X4_get ml_X5_82 (Nat.le_of_ble_eq_true rfl) rfl (Nat.le_refl 0) (Nat.le_refl 0) H (fun r6 v5 H => ?_)
      refine AW_istore (L' := [some (.ref 0), some (.int xa), some (.int xb), some (.int xc), some (.int r4), some (.int r6)]) dX5_lay_42 (by decide) rfl ?_
      refine AW_aload_n dX5_lay_44 rfl rfl ?_
      refine AW_getR dX5_lay_45 (bI_0 B) fl_X5_14 (bR_0_0 B) ?_
      refine AW_iload_n dX5_lay_48 rfl rfl ?_
      refine AW_iload_n dX5_lay_49 rfl rfl ?_
      refine AW_iload_n dX5_lay_50 rfl rfl ?_
      refine AW_vV (as := [(.int xa), (.int xb), (.int xc)]) (st := []) dX5_lay_51 (bI_1 B) (by decide) rfl mv_X4_set mi_X4_set ml_X5_86 (Nat.le_of_ble_eq_true rfl) rfl (Nat.le_refl 0) (Nat.le_refl 0) H (fun v7 H => ?_)
      refine AW_aload_n dX5_lay_54 rfl rfl ?_
      refine AW_iconst (x := 1) dX5_lay_55 (by decide) ?_
      refine AW_iload dX5_lay_56 rfl ?_
      refine AW_vI (as := [(.int 1), (.int r6)]) (st := []) dX5_lay_58 (bI_0 B) (by decide) rfl mv_X5_tell mi_X5_tell ml_X5_90 (Nat.le_of_ble_eq_true rfl) rfl (Nat.le_refl 0) (Nat.le_refl 0) H (fun r9 v8 H => ?_)
      exact AW_rI dX5_lay_61 rfl rfl H
    · replace H := H.2 c
      refine AW_iload dX5_lay_30 rfl ?_
      exact AW_rI dX5_lay_32 rfl rfl H
  · replace H := H.2 c
    refine AW_iconst (x := (-1)) dX5_lay_11 (by decide) ?_
    exact AW_rI dX5_lay_12 rfl rfl H
set_option maxRecDepth 100000 in
set_option maxHeartbeats 4000000 in
theorem vc_X5_at {G : xG} {d : Nat} {z : xZ} {v : xS} {Q : Int32 → xS → Prop} (B : Base z) {xa : Int32} {xb : Int32} 
    (H : (oX4_names G d [(.ref 1), (.int xa)] z v (fun r2 v1 => ((¬ r2 = 0 → (oX5_placeRefusal G d [(.ref 0), (.ref 1), (.int xa), (.int xb)] z v1 (fun r4 v3 => ((r4 = 0 → (oX4_get G d [(.ref 1), (.int xa), (.int xb)] z v3 (fun r6 v5 => (oX5_tell G d [(.ref 0), (.int 1), (.int r6)] z v5 (fun r8 v7 => Q r8 v7))))) ∧ (¬ r4 = 0 → Q r4 v3))))) ∧ (r2 = 0 → Q (-1) v1))))) :
    oX5_at G (d + 1) [(.ref 0), (.int xa), (.int xb)] z v Q := by
  refine Ok_of (own := RX5) (by decide) rfl (Nat.le_of_ble_eq_true rfl) ?_
  show AW G (d + 1) 0 0 yX5_at cX5_at 4 (some .int) RX5 0 0 0 [some (.ref 0), some (.int xa), some (.int xb), none] [] z v _
  refine AW_aload_n dX5_at_0 rfl rfl ?_
  refine AW_getR dX5_at_1 (bI_0 B) fl_X5_14 (bR_0_0 B) ?_
  refine AW_iload_n dX5_at_4 rfl rfl ?_
  refine AW_vI (as := [(.int xa)]) (st := []) dX5_at_5 (bI_1 B) (by decide) rfl mv_X4_names mi_X4_names ml_X5_74 (Nat.le_of_ble_eq_true rfl) rfl (Nat.le_refl 0) (Nat.le_refl 0) H (fun r2 v1 H => ?_)
  refine AW_if_ne (tgt := 13) dX5_at_8 (by decide) (fun c => ?_) (fun c => ?_)
  · replace H := H.1 c
    refine AW_aload_n dX5_at_13 rfl rfl ?_
    refine AW_aload_n dX5_at_14 rfl rfl ?_
    refine AW_getR dX5_at_15 (bI_0 B) fl_X5_14 (bR_0_0 B) ?_
    refine AW_iload_n dX5_at_18 rfl rfl ?_
    refine AW_iload_n dX5_at_19 rfl rfl ?_
    refine AW_vI (as := [(.ref 1), (.int xa), (.int xb)]) (st := []) dX5_at_20 (bI_0 B) (by decide) rfl mv_X5_placeRefusal mi_X5_placeRefusal ml_X5_78 (Nat.le_of_ble_eq_true rfl) rfl (Nat.le_refl 0) (Nat.le_refl 0) H (fun r4 v3 H => ?_)
    refine AW_istore_n (L' := [some (.ref 0), some (.int xa), some (.int xb), some (.int r4)]) dX5_at_23 rfl (by decide) rfl ?_
    refine AW_iload_n dX5_at_24 rfl rfl ?_
    refine AW_if_eq (tgt := 32) dX5_at_25 (by decide) (fun c => ?_) (fun c => ?_)
    · replace H := H.1 c
      refine AW_aload_n dX5_at_32 rfl rfl ?_
      refine AW_iconst (x := 1) dX5_at_33 (by decide) ?_
      refine AW_aload_n dX5_at_34 rfl rfl ?_
      refine AW_getR dX5_at_35 (bI_0 B) fl_X5_14 (bR_0_0 B) ?_
      refine AW_iload_n dX5_at_38 rfl rfl ?_
      refine AW_iload_n dX5_at_39 rfl rfl ?_
      refine AW_vI (as := [(.int xa), (.int xb)]) (st := [(.int 1), (.ref 0)]) dX5_at_40 (bI_1 B) (by decide) rfl mv_X4_get mi_X4_get ml_X5_82 (Nat.le_of_ble_eq_true rfl) rfl (Nat.le_refl 0) (Nat.le_refl 0) H (fun r6 v5 H => ?_)
      refine AW_vI (as := [(.int 1), (.int r6)]) (st := []) dX5_at_43 (bI_0 B) (by decide) rfl mv_X5_tell mi_X5_tell ml_X5_90 (Nat.le_of_ble_eq_true rfl) rfl (Nat.le_refl 0) (Nat.le_refl 0) H (fun r8 v7 H => ?_)
      exact AW_rI dX5_at_46 rfl rfl H
    · replace H := H.2 c
      refine AW_iload_n dX5_at_28 rfl rfl ?_
      refine AW_goto (tgt := 46) dX5_at_29 (by decide) ?_
      exact AW_rI dX5_at_46 rfl rfl H
  · replace H := H.2 c
    refine AW_iconst (x := (-1)) dX5_at_11 (by decide) ?_
    exact AW_rI dX5_at_12 rfl rfl H
set_option maxRecDepth 100000 in
set_option maxHeartbeats 4000000 in
theorem vc_X5_tear {G : xG} {d : Nat} {z : xZ} {v : xS} {Q : Int32 → xS → Prop} (B : Base z) {xa : Int32} 
    (H : (oX4_names G d [(.ref 1), (.int xa)] z v (fun r2 v1 => ((¬ r2 = 0 → (oX4_holds G d [(.ref 1), (.int xa)] z v1 (fun r4 v3 => ((¬ r4 = 0 → (oX4_close G d [(.ref 1), (.int xa)] z v3 (fun v5 => Q 1 v5))) ∧ (r4 = 0 → (oX5_find G d [(.ref 0), (.int 1)] z v3 (fun r7 v6 => Q r7 v6))))))) ∧ (r2 = 0 → Q (-1) v1))))) :
    oX5_tear G (d + 1) [(.ref 0), (.int xa)] z v Q := by
  refine Ok_of (own := RX5) (by decide) rfl (Nat.le_of_ble_eq_true rfl) ?_
  show AW G (d + 1) 0 0 yX5_tear cX5_tear 2 (some .int) RX5 0 0 0 [some (.ref 0), some (.int xa)] [] z v _
  refine AW_aload_n dX5_tear_0 rfl rfl ?_
  refine AW_getR dX5_tear_1 (bI_0 B) fl_X5_14 (bR_0_0 B) ?_
  refine AW_iload_n dX5_tear_4 rfl rfl ?_
  refine AW_vI (as := [(.int xa)]) (st := []) dX5_tear_5 (bI_1 B) (by decide) rfl mv_X4_names mi_X4_names ml_X5_74 (Nat.le_of_ble_eq_true rfl) rfl (Nat.le_refl 0) (Nat.le_refl 0) H (fun r2 v1 H => ?_)
  refine AW_if_ne (tgt := 13) dX5_tear_8 (by decide) (fun c => ?_) (fun c => ?_)
  · replace H := H.1 c
    refine AW_aload_n dX5_tear_13 rfl rfl ?_
    refine AW_getR dX5_tear_14 (bI_0 B) fl_X5_14 (bR_0_0 B) ?_
    refine AW_iload_n dX5_tear_17 rfl rfl ?_
    refine AW_vI (as := [(.int xa)]) (st := []) dX5_tear_18 (bI_1 B) (by decide) rfl mv_X4_holds mi_X4_holds ml_X5_93 (Nat.le_of_ble_eq_true rfl) rfl (Nat.le_refl 0) (Nat.le_refl 0) H (fun r4 v3 H => ?_)
    refine AW_if_ne (tgt := 30) dX5_tear_21 (by decide) (fun c => ?_) (fun c => ?_)
    · replace H := H.1 c
      refine AW_aload_n dX5_tear_30 rfl rfl ?_
      refine AW_getR dX5_tear_31 (bI_0 B) fl_X5_14 (bR_0_0 B) ?_
      refine AW_iload_n dX5_tear_34 rfl rfl ?_
      refine AW_vV (as := [(.int xa)]) (st := []) dX5_tear_35 (bI_1 B) (by decide) rfl mv_X4_close mi_X4_close ml_X5_100 (Nat.le_of_ble_eq_true rfl) rfl (Nat.le_refl 0) (Nat.le_refl 0) H (fun v5 H => ?_)
      refine AW_iconst (x := 1) dX5_tear_38 (by decide) ?_
      exact AW_rI dX5_tear_39 rfl rfl H
    · replace H := H.2 c
      refine AW_aload_n dX5_tear_24 rfl rfl ?_
      refine AW_iconst (x := 1) dX5_tear_25 (by decide) ?_
      refine AW_vI (as := [(.int 1)]) (st := []) dX5_tear_26 (bI_0 B) (by decide) rfl mv_X5_find mi_X5_find ml_X5_96 (Nat.le_of_ble_eq_true rfl) rfl (Nat.le_refl 0) (Nat.le_refl 0) H (fun r7 v6 H => ?_)
      exact AW_rI dX5_tear_29 rfl rfl H
  · replace H := H.2 c
    refine AW_iconst (x := (-1)) dX5_tear_11 (by decide) ?_
    exact AW_rI dX5_tear_12 rfl rfl H
set_option maxRecDepth 100000 in
set_option maxHeartbeats 4000000 in
theorem vc_X5_copy {G : xG} {d : Nat} {z : xZ} {v : xS} {Q : Int32 → xS → Prop} (B : Base z) {xa : Int32} {xb : Int32} {xc : Int32} {xd : Int32} {xe : Int32} 
    (H : (oX4_names G d [(.ref 1), (.int xa)] z v (fun r2 v1 => ((r2 = 0 → Q (-1) v1) ∧ (¬ r2 = 0 → (oX4_names G d [(.ref 1), (.int xc)] z v1 (fun r4 v3 => ((¬ r4 = 0 → ((0 ≤ xe → (oX4_holds G d [(.ref 1), (.int xa)] z v3 (fun r6 v5 => ((r6 = 0 → (oX5_find G d [(.ref 0), (.int 1)] z v5 (fun r8 v7 => Q r8 v7))) ∧ (¬ r6 = 0 → (oX4_holds G d [(.ref 1), (.int xc)] z v5 (fun r10 v9 => ((¬ r10 = 0 → (oX4_spans G d [(.ref 1), (.int xa), (.int xb), (.int xe)] z v9 (fun r12 v11 => ((r12 = 0 → (oX5_find G d [(.ref 0), (.int 2)] z v11 (fun r14 v13 => Q r14 v13))) ∧ (¬ r12 = 0 → (oX4_spans G d [(.ref 1), (.int xc), (.int xd), (.int xe)] z v11 (fun r16 v15 => ((¬ r16 = 0 → (oX4_transfer G d [(.ref 1), (.int xa), (.int xb), (.int xc), (.int xd), (.int xe)] z v15 (fun v17 => Q 1 v17))) ∧ (r16 = 0 → (oX5_find G d [(.ref 0), (.int 2)] z v15 (fun r19 v18 => Q r19 v18))))))))))) ∧ (r10 = 0 → (oX5_find G d [(.ref 0), (.int 1)] z v9 (fun r21 v20 => Q r21 v20))))))))))) ∧ (¬ 0 ≤ xe → (oX5_find G d [(.ref 0), (.int 5)] z v3 (fun r23 v22 => Q r23 v22))))) ∧ (r4 = 0 → Q (-1) v3))))))))) :
    oX5_copy G (d + 1) [(.ref 0), (.int xa), (.int xb), (.int xc), (.int xd), (.int xe)] z v Q := by
  refine Ok_of (own := RX5) (by decide) rfl (Nat.le_of_ble_eq_true rfl) ?_
  show AW G (d + 1) 0 0 yX5_copy cX5_copy 6 (some .int) RX5 0 0 0 [some (.ref 0), some (.int xa), some (.int xb), some (.int xc), some (.int xd), some (.int xe)] [] z v _
  refine AW_aload_n dX5_copy_0 rfl rfl ?_
  refine AW_getR dX5_copy_1 (bI_0 B) fl_X5_14 (bR_0_0 B) ?_
  refine AW_iload_n dX5_copy_4 rfl rfl ?_
  refine AW_vI (as := [(.int xa)]) (st := []) dX5_copy_5 (bI_1 B) (by decide) rfl mv_X4_names mi_X4_names ml_X5_74 (Nat.le_of_ble_eq_true rfl) rfl (Nat.le_refl 0) (Nat.le_refl 0) H (fun r2 v1 H => ?_)
  refine AW_if_eq (tgt := 22) dX5_copy_8 (by decide) (fun c => ?_) (fun c => ?_)
  · replace H := H.1 c
    refine AW_iconst (x := (-1)) dX5_copy_22 (by decide) ?_
    exact AW_rI dX5_copy_23 rfl rfl H
  · replace H := H.2 c
    refine AW_aload_n dX5_copy_11 rfl rfl ?_
    refine AW_getR dX5_copy_12 (bI_0 B) fl_X5_14 (bR_0_0 B) ?_
    refine AW_iload_n dX5_copy_15 rfl rfl ?_
    refine AW_vI (as := [(.int xc)]) (st := []) dX5_copy_16 (bI_1 B) (by decide) rfl mv_X4_names mi_X4_names ml_X5_74 (Nat.le_of_ble_eq_true rfl) rfl (Nat.le_refl 0) (Nat.le_refl 0) H (fun r4 v3 H => ?_)
    refine AW_if_ne (tgt := 24) dX5_copy_19 (by decide) (fun c => ?_) (fun c => ?_)
    · replace H := H.1 c
      refine AW_iload dX5_copy_24 rfl ?_
      refine AW_if_ge (tgt := 35) dX5_copy_26 (by decide) (fun c => ?_) (fun c => ?_)
      · replace H := H.1 c
        refine AW_aload_n dX5_copy_35 rfl rfl ?_
        refine AW_getR dX5_copy_36 (bI_0 B) fl_X5_14 (bR_0_0 B) ?_
        refine AW_iload_n dX5_copy_39 rfl rfl ?_
        refine AW_vI (as := [(.int xa)]) (st := []) dX5_copy_40 (bI_1 B) (by decide) rfl mv_X4_holds mi_X4_holds ml_X5_93 (Nat.le_of_ble_eq_true rfl) rfl (Nat.le_refl 0) (Nat.le_refl 0) H (fun r6 v5 H => ?_)
        refine AW_if_eq (tgt := 57) dX5_copy_43 (by decide) (fun c => ?_) (fun c => ?_)
        · replace H := H.1 c
          refine AW_aload_n dX5_copy_57 rfl rfl ?_
          refine AW_iconst (x := 1) dX5_copy_58 (by decide) ?_
          refine AW_vI (as := [(.int 1)]) (st := []) dX5_copy_59 (bI_0 B) (by decide) rfl mv_X5_find mi_X5_find ml_X5_96 (Nat.le_of_ble_eq_true rfl) rfl (Nat.le_refl 0) (Nat.le_refl 0) H (fun r8 v7 H => ?_)
          exact AW_rI dX5_copy_62 rfl rfl H
        · replace H := H.2 c
          refine AW_aload_n dX5_copy_46 rfl rfl ?_
          refine AW_getR dX5_copy_47 (bI_0 B) fl_X5_14 (bR_0_0 B) ?_
          refine AW_iload_n dX5_copy_50 rfl rfl ?_
          refine AW_vI (as := [(.int xc)]) (st := []) dX5_copy_51 (bI_1 B) (by decide) rfl mv_X4_holds mi_X4_holds ml_X5_93 (Nat.le_of_ble_eq_true rfl) rfl (Nat.le_refl 0) (Nat.le_refl 0) H (fun r10 v9 H => ?_)
          refine AW_if_ne (tgt := 63) dX5_copy_54 (by decide) (fun c => ?_) (fun c => ?_)
          · replace H := H.1 c
            refine AW_aload_n dX5_copy_63 rfl rfl ?_
            refine AW_getR dX5_copy_64 (bI_0 B) fl_X5_14 (bR_0_0 B) ?_
            refine AW_iload_n dX5_copy_67 rfl rfl ?_
            refine AW_iload_n dX5_copy_68 rfl rfl ?_
            refine AW_iload dX5_copy_69 rfl ?_
            refine AW_vI (as := [(.int xa), (.int xb), (.int xe)]) (st := []) dX5_copy_71 (bI_1 B) (by decide) rfl mv_X4_spans mi_X4_spans ml_X5_104 (Nat.le_of_ble_eq_true rfl) rfl (Nat.le_refl 0) (Nat.le_refl 0) H (fun r12 v11 H => ?_)
            refine AW_if_eq (tgt := 92) dX5_copy_74 (by decide) (fun c => ?_) (fun c => ?_)
            · replace H := H.1 c
              refine AW_aload_n dX5_copy_92 rfl rfl ?_
              refine AW_iconst (x := 2) dX5_copy_93 (by decide) ?_
              refine AW_vI (as := [(.int 2)]) (st := []) dX5_copy_94 (bI_0 B) (by decide) rfl mv_X5_find mi_X5_find ml_X5_96 (Nat.le_of_ble_eq_true rfl) rfl (Nat.le_refl 0) (Nat.le_refl 0) H (fun r14 v13 H => ?_)
              exact AW_rI dX5_copy_97 rfl rfl H
            · replace H := H.2 c
              refine AW_aload_n dX5_copy_77 rfl rfl ?_
              refine AW_getR dX5_copy_78 (bI_0 B) fl_X5_14 (bR_0_0 B) ?_
              refine AW_iload_n dX5_copy_81 rfl rfl ?_
              refine AW_iload dX5_copy_82 rfl ?_
              refine AW_iload dX5_copy_84 rfl ?_
              refine AW_vI (as := [(.int xc), (.int xd), (.int xe)]) (st := []) dX5_copy_86 (bI_1 B) (by decide) rfl mv_X4_spans mi_X4_spans ml_X5_104 (Nat.le_of_ble_eq_true rfl) rfl (Nat.le_refl 0) (Nat.le_refl 0) H (fun r16 v15 H => ?_)
              refine AW_if_ne (tgt := 98) dX5_copy_89 (by decide) (fun c => ?_) (fun c => ?_)
              · replace H := H.1 c
                refine AW_aload_n dX5_copy_98 rfl rfl ?_
                refine AW_getR dX5_copy_99 (bI_0 B) fl_X5_14 (bR_0_0 B) ?_
                refine AW_iload_n dX5_copy_102 rfl rfl ?_
                refine AW_iload_n dX5_copy_103 rfl rfl ?_
                refine AW_iload_n dX5_copy_104 rfl rfl ?_
                refine AW_iload dX5_copy_105 rfl ?_
                refine AW_iload dX5_copy_107 rfl ?_
                refine AW_vV (as := [(.int xa), (.int xb), (.int xc), (.int xd), (.int xe)]) (st := []) dX5_copy_109 (bI_1 B) (by decide) rfl mv_X4_transfer mi_X4_transfer ml_X5_108 (Nat.le_of_ble_eq_true rfl) rfl (Nat.le_refl 0) (Nat.le_refl 0) H (fun v17 H => ?_)
                refine AW_iconst (x := 1) dX5_copy_112 (by decide) ?_
                exact AW_rI dX5_copy_113 rfl rfl H
              · replace H := H.2 c
                refine AW_aload_n dX5_copy_92 rfl rfl ?_
                refine AW_iconst (x := 2) dX5_copy_93 (by decide) ?_
                refine AW_vI (as := [(.int 2)]) (st := []) dX5_copy_94 (bI_0 B) (by decide) rfl mv_X5_find mi_X5_find ml_X5_96 (Nat.le_of_ble_eq_true rfl) rfl (Nat.le_refl 0) (Nat.le_refl 0) H (fun r19 v18 H => ?_)
                exact AW_rI dX5_copy_97 rfl rfl H
          · replace H := H.2 c
            refine AW_aload_n dX5_copy_57 rfl rfl ?_
            refine AW_iconst (x := 1) dX5_copy_58 (by decide) ?_
            refine AW_vI (as := [(.int 1)]) (st := []) dX5_copy_59 (bI_0 B) (by decide) rfl mv_X5_find mi_X5_find ml_X5_96 (Nat.le_of_ble_eq_true rfl) rfl (Nat.le_refl 0) (Nat.le_refl 0) H (fun r21 v20 H => ?_)
            exact AW_rI dX5_copy_62 rfl rfl H
      · replace H := H.2 c
        refine AW_aload_n dX5_copy_29 rfl rfl ?_
        refine AW_iconst (x := 5) dX5_copy_30 (by decide) ?_
        refine AW_vI (as := [(.int 5)]) (st := []) dX5_copy_31 (bI_0 B) (by decide) rfl mv_X5_find mi_X5_find ml_X5_96 (Nat.le_of_ble_eq_true rfl) rfl (Nat.le_refl 0) (Nat.le_refl 0) H (fun r23 v22 H => ?_)
        exact AW_rI dX5_copy_34 rfl rfl H
    · replace H := H.2 c
      refine AW_iconst (x := (-1)) dX5_copy_22 (by decide) ?_
      exact AW_rI dX5_copy_23 rfl rfl H
set_option maxRecDepth 100000 in
set_option maxHeartbeats 4000000 in
theorem vc_X5_mean {G : xG} {d : Nat} {z : xZ} {v : xS} {Q : Int32 → xS → Prop} (B : Base z) {xa : Int32} 
    (H : (oX4_names G d [(.ref 1), (.int xa)] z v (fun r2 v1 => ((¬ r2 = 0 → (oX4_holds G d [(.ref 1), (.int xa)] z v1 (fun r4 v3 => ((¬ r4 = 0 → (oX4_sizeOf G d [(.ref 1), (.int xa)] z v3 (fun r6 v5 => ((0 < r6 → (oX4_sumOf G d [(.ref 1), (.int xa)] z v5 (fun r8 v7 => (¬ r6.toInt64 = 0 ∧ (oX5_tell G d [(.ref 0), (.int 1), (.int ((r8 / r6.toInt64).toInt32))] z v7 (fun r10 v9 => Q r10 v9)))))) ∧ (¬ 0 < r6 → (oX5_find G d [(.ref 0), (.int 4)] z v5 (fun r12 v11 => Q r12 v11))))))) ∧ (r4 = 0 → (oX5_find G d [(.ref 0), (.int 1)] z v3 (fun r14 v13 => Q r14 v13))))))) ∧ (r2 = 0 → Q (-1) v1))))) :
    oX5_mean G (d + 1) [(.ref 0), (.int xa)] z v Q := by
  refine Ok_of (own := RX5) (by decide) rfl (Nat.le_of_ble_eq_true rfl) ?_
  show AW G (d + 1) 0 0 yX5_mean cX5_mean 3 (some .int) RX5 0 0 0 [some (.ref 0), some (.int xa), none] [] z v _
  refine AW_aload_n dX5_mean_0 rfl rfl ?_
  refine AW_getR dX5_mean_1 (bI_0 B) fl_X5_14 (bR_0_0 B) ?_
  refine AW_iload_n dX5_mean_4 rfl rfl ?_
  refine AW_vI (as := [(.int xa)]) (st := []) dX5_mean_5 (bI_1 B) (by decide) rfl mv_X4_names mi_X4_names ml_X5_74 (Nat.le_of_ble_eq_true rfl) rfl (Nat.le_refl 0) (Nat.le_refl 0) H (fun r2 v1 H => ?_)
  refine AW_if_ne (tgt := 13) dX5_mean_8 (by decide) (fun c => ?_) (fun c => ?_)
  · replace H := H.1 c
    refine AW_aload_n dX5_mean_13 rfl rfl ?_
    refine AW_getR dX5_mean_14 (bI_0 B) fl_X5_14 (bR_0_0 B) ?_
    refine AW_iload_n dX5_mean_17 rfl rfl ?_
    refine AW_vI (as := [(.int xa)]) (st := []) dX5_mean_18 (bI_1 B) (by decide) rfl mv_X4_holds mi_X4_holds ml_X5_93 (Nat.le_of_ble_eq_true rfl) rfl (Nat.le_refl 0) (Nat.le_refl 0) H (fun r4 v3 H => ?_)
    refine AW_if_ne (tgt := 30) dX5_mean_21 (by decide) (fun c => ?_) (fun c => ?_)
    · replace H := H.1 c
      refine AW_aload_n dX5_mean_30 rfl rfl ?_
      refine AW_getR dX5_mean_31 (bI_0 B) fl_X5_14 (bR_0_0 B) ?_
      refine AW_iload_n dX5_mean_34 rfl rfl ?_
      refine AW_vI (as := [(.int xa)]) (st := []) dX5_mean_35 (bI_1 B) (by decide) rfl mv_X4_sizeOf mi_X4_sizeOf ml_X5_112 (Nat.le_of_ble_eq_true rfl) rfl (Nat.le_refl 0) (Nat.le_refl 0) H (fun r6 v5 H => ?_)
      refine AW_istore_n (L' := [some (.ref 0), some (.int xa), some (.int r6)]) dX5_mean_38 rfl (by decide) rfl ?_
      refine AW_iload_n dX5_mean_39 rfl rfl ?_
      refine AW_if_gt (tgt := 49) dX5_mean_40 (by decide) (fun c => ?_) (fun c => ?_)
      · replace H := H.1 c
        refine AW_aload_n dX5_mean_49 rfl rfl ?_
        refine AW_iconst (x := 1) dX5_mean_50 (by decide) ?_
        refine AW_aload_n dX5_mean_51 rfl rfl ?_
        refine AW_getR dX5_mean_52 (bI_0 B) fl_X5_14 (bR_0_0 B) ?_
        refine AW_iload_n dX5_mean_55 rfl rfl ?_
        refine AW_vL (as := [(.int xa)]) (st := [(.int 1), (.ref 0)]) dX5_mean_56 (bI_1 B) (by decide) rfl mv_X4_sumOf mi_X4_sumOf ml_X5_115 (Nat.le_of_ble_eq_true rfl) rfl (Nat.le_refl 0) (Nat.le_refl 0) H (fun r8 v7 H => ?_)
        refine AW_iload_n dX5_mean_59 rfl rfl ?_
        refine AW_i2l dX5_mean_60 ?_
        refine AW_ldiv dX5_mean_61 H.1 ?_
        replace H := H.2
        refine AW_l2i dX5_mean_62 ?_
        refine AW_vI (as := [(.int 1), (.int ((r8 / r6.toInt64).toInt32))]) (st := []) dX5_mean_63 (bI_0 B) (by decide) rfl mv_X5_tell mi_X5_tell ml_X5_90 (Nat.le_of_ble_eq_true rfl) rfl (Nat.le_refl 0) (Nat.le_refl 0) H (fun r10 v9 H => ?_)
        exact AW_rI dX5_mean_66 rfl rfl H
      · replace H := H.2 c
        refine AW_aload_n dX5_mean_43 rfl rfl ?_
        refine AW_iconst (x := 4) dX5_mean_44 (by decide) ?_
        refine AW_vI (as := [(.int 4)]) (st := []) dX5_mean_45 (bI_0 B) (by decide) rfl mv_X5_find mi_X5_find ml_X5_96 (Nat.le_of_ble_eq_true rfl) rfl (Nat.le_refl 0) (Nat.le_refl 0) H (fun r12 v11 H => ?_)
        exact AW_rI dX5_mean_48 rfl rfl H
    · replace H := H.2 c
      refine AW_aload_n dX5_mean_24 rfl rfl ?_
      refine AW_iconst (x := 1) dX5_mean_25 (by decide) ?_
      refine AW_vI (as := [(.int 1)]) (st := []) dX5_mean_26 (bI_0 B) (by decide) rfl mv_X5_find mi_X5_find ml_X5_96 (Nat.le_of_ble_eq_true rfl) rfl (Nat.le_refl 0) (Nat.le_refl 0) H (fun r14 v13 H => ?_)
      exact AW_rI dX5_mean_29 rfl rfl H
  · replace H := H.2 c
    refine AW_iconst (x := (-1)) dX5_mean_11 (by decide) ?_
    exact AW_rI dX5_mean_12 rfl rfl H
set_option maxRecDepth 100000 in
set_option maxHeartbeats 4000000 in
theorem vc_X5_text {G : xG} {d : Nat} {z : xZ} {v : xS} {Q : Int32 → xS → Prop} (B : Base z) {xa : Int32} {xb : Int32} 
    (H : (oX5_opened G d [(.ref 0), (.ref 10), (.int xa), (.int xb), (.int 32)] z v (fun r2 v1 => Q r2 v1))) :
    oX5_text G (d + 1) [(.ref 0), (.int xa), (.int xb)] z v Q := by
  refine Ok_of (own := RX5) (by decide) rfl (Nat.le_of_ble_eq_true rfl) ?_
  show AW G (d + 1) 0 0 yX5_text cX5_text 3 (some .int) RX5 0 0 0 [some (.ref 0), some (.int xa), some (.int xb)] [] z v _
  refine AW_aload_n dX5_text_0 rfl rfl ?_
  refine AW_aload_n dX5_text_1 rfl rfl ?_
  refine AW_getR dX5_text_2 (bI_0 B) fl_X5_18 (bR_0_1 B) ?_
  refine AW_iload_n dX5_text_5 rfl rfl ?_
  refine AW_iload_n dX5_text_6 rfl rfl ?_
  refine AW_bipush (x := 32) dX5_text_7 (by decide) ?_
  refine AW_vI (as := [(.ref 10), (.int xa), (.int xb), (.int 32)]) (st := []) dX5_text_9 (bI_0 B) (by decide) rfl mv_X5_opened mi_X5_opened ml_X5_70 (Nat.le_of_ble_eq_true rfl) rfl (Nat.le_refl 0) (Nat.le_refl 0) H (fun r2 v1 H => ?_)
  exact AW_rI dX5_text_12 rfl rfl H
set_option maxRecDepth 100000 in
set_option maxHeartbeats 4000000 in
theorem vc_X5_put {G : xG} {d : Nat} {z : xZ} {v : xS} {Q : Int32 → xS → Prop} (B : Base z) {xa : Int32} {xb : Int32} {xc : Int32} 
    (H : (oX4_names G d [(.ref 10), (.int xa)] z v (fun r2 v1 => ((¬ r2 = 0 → (oX5_placeRefusal G d [(.ref 0), (.ref 10), (.int xa), (.int xb)] z v1 (fun r4 v3 => ((r4 = 0 → (oX4_get G d [(.ref 10), (.int xa), (.int xb)] z v3 (fun r6 v5 => (oX4_set G d [(.ref 10), (.int xa), (.int xb), (.int xc.toInt8.toInt32)] z v5 (fun v7 => Q (r6 + 1000) v7))))) ∧ (¬ r4 = 0 → Q r4 v3))))) ∧ (r2 = 0 → Q (-1) v1))))) :
    oX5_put G (d + 1) [(.ref 0), (.int xa), (.int xb), (.int xc)] z v Q := by
  refine Ok_of (own := RX5) (by decide) rfl (Nat.le_of_ble_eq_true rfl) ?_
  show AW G (d + 1) 0 0 yX5_put cX5_put 6 (some .int) RX5 0 0 0 [some (.ref 0), some (.int xa), some (.int xb), some (.int xc), none, none] [] z v _
  refine AW_aload_n dX5_put_0 rfl rfl ?_
  refine AW_getR dX5_put_1 (bI_0 B) fl_X5_18 (bR_0_1 B) ?_
  refine AW_iload_n dX5_put_4 rfl rfl ?_
  refine AW_vI (as := [(.int xa)]) (st := []) dX5_put_5 (bI_10 B) (by decide) rfl mv_X4_names mi_X4_names ml_X5_74 (Nat.le_of_ble_eq_true rfl) rfl (Nat.le_refl 0) (Nat.le_refl 0) H (fun r2 v1 H => ?_)
  refine AW_if_ne (tgt := 13) dX5_put_8 (by decide) (fun c => ?_) (fun c => ?_)
  · replace H := H.1 c
    refine AW_aload_n dX5_put_13 rfl rfl ?_
    refine AW_aload_n dX5_put_14 rfl rfl ?_
    refine AW_getR dX5_put_15 (bI_0 B) fl_X5_18 (bR_0_1 B) ?_
    refine AW_iload_n dX5_put_18 rfl rfl ?_
    refine AW_iload_n dX5_put_19 rfl rfl ?_
    refine AW_vI (as := [(.ref 10), (.int xa), (.int xb)]) (st := []) dX5_put_20 (bI_0 B) (by decide) rfl mv_X5_placeRefusal mi_X5_placeRefusal ml_X5_78 (Nat.le_of_ble_eq_true rfl) rfl (Nat.le_refl 0) (Nat.le_refl 0) H (fun r4 v3 H => ?_)
    refine AW_istore (L' := [some (.ref 0), some (.int xa), some (.int xb), some (.int xc), some (.int r4), none]) dX5_put_23 (by decide) rfl ?_
    refine AW_iload dX5_put_25 rfl ?_
    refine AW_if_eq (tgt := 33) dX5_put_27 (by decide) (fun c => ?_) (fun c => ?_)
    · replace H := H.1 c
      refine AW_aload_n dX5_put_33 rfl rfl ?_
      refine AW_getR dX5_put_34 (bI_0 B) fl_X5_18 (bR_0_1 B) ?_
      refine AW_iload_n dX5_put_37 rfl rfl ?_
      refine AW_iload_n dX5_put_38 rfl rfl ?_
      refine AW_vI (as := [(.int xa), (.int xb)]) (st := []) dX5_put_39 (bI_10 B) (by decide) rfl mv_X4_get mi_X4_get ml_X5_82 (Nat.le_of_ble_eq_true rfl) rfl (Nat.le_refl 0) (Nat.le_refl 0) H (fun r6 v5 H => ?_)
      refine AW_istore (L' := [some (.ref 0), some (.int xa), some (.int xb), some (.int xc), some (.int r4), some (.int r6)]) dX5_put_42 (by decide) rfl ?_
      refine AW_aload_n dX5_put_44 rfl rfl ?_
      refine AW_getR dX5_put_45 (bI_0 B) fl_X5_18 (bR_0_1 B) ?_
      refine AW_iload_n dX5_put_48 rfl rfl ?_
      refine AW_iload_n dX5_put_49 rfl rfl ?_
      refine AW_iload_n dX5_put_50 rfl rfl ?_
      refine AW_i2b dX5_put_51 ?_
      refine AW_vV (as := [(.int xa), (.int xb), (.int xc.toInt8.toInt32)]) (st := []) dX5_put_52 (bI_10 B) (by decide) rfl mv_X4_set mi_X4_set ml_X5_86 (Nat.le_of_ble_eq_true rfl) rfl (Nat.le_refl 0) (Nat.le_refl 0) H (fun v7 H => ?_)
      refine AW_iload dX5_put_55 rfl ?_
      refine AW_sipush (x := 1000) dX5_put_57 (by decide) ?_
      refine AW_iadd dX5_put_60 ?_
      exact AW_rI dX5_put_61 rfl rfl H
    · replace H := H.2 c
      refine AW_iload dX5_put_30 rfl ?_
      exact AW_rI dX5_put_32 rfl rfl H
  · replace H := H.2 c
    refine AW_iconst (x := (-1)) dX5_put_11 (by decide) ?_
    exact AW_rI dX5_put_12 rfl rfl H
set_option maxRecDepth 100000 in
set_option maxHeartbeats 4000000 in
theorem vc_X5_fault {G : xG} {d : Nat} {z : xZ} {v : xS} {Q : Int32 → xS → Prop} (B : Base z) {xa : Int32} 
    (H : (oX4_names G d [(.ref 10), (.int xa)] z v (fun r2 v1 => ((¬ r2 = 0 → (oX4_holds G d [(.ref 10), (.int xa)] z v1 (fun r4 v3 => ((¬ r4 = 0 → (oX3_read G d [(.ref 20), (.ref 10), (.int xa)] z v3 (fun r6 v5 => Q r6 v5))) ∧ (r4 = 0 → (oX5_find G d [(.ref 0), (.int 1)] z v3 (fun r8 v7 => Q r8 v7))))))) ∧ (r2 = 0 → Q (-1) v1))))) :
    oX5_fault G (d + 1) [(.ref 0), (.int xa)] z v Q := by
  refine Ok_of (own := RX5) (by decide) rfl (Nat.le_of_ble_eq_true rfl) ?_
  show AW G (d + 1) 0 0 yX5_fault cX5_fault 2 (some .int) RX5 0 0 0 [some (.ref 0), some (.int xa)] [] z v _
  refine AW_aload_n dX5_fault_0 rfl rfl ?_
  refine AW_getR dX5_fault_1 (bI_0 B) fl_X5_18 (bR_0_1 B) ?_
  refine AW_iload_n dX5_fault_4 rfl rfl ?_
  refine AW_vI (as := [(.int xa)]) (st := []) dX5_fault_5 (bI_10 B) (by decide) rfl mv_X4_names mi_X4_names ml_X5_74 (Nat.le_of_ble_eq_true rfl) rfl (Nat.le_refl 0) (Nat.le_refl 0) H (fun r2 v1 H => ?_)
  refine AW_if_ne (tgt := 13) dX5_fault_8 (by decide) (fun c => ?_) (fun c => ?_)
  · replace H := H.1 c
    refine AW_aload_n dX5_fault_13 rfl rfl ?_
    refine AW_getR dX5_fault_14 (bI_0 B) fl_X5_18 (bR_0_1 B) ?_
    refine AW_iload_n dX5_fault_17 rfl rfl ?_
    refine AW_vI (as := [(.int xa)]) (st := []) dX5_fault_18 (bI_10 B) (by decide) rfl mv_X4_holds mi_X4_holds ml_X5_93 (Nat.le_of_ble_eq_true rfl) rfl (Nat.le_refl 0) (Nat.le_refl 0) H (fun r4 v3 H => ?_)
    refine AW_if_ne (tgt := 30) dX5_fault_21 (by decide) (fun c => ?_) (fun c => ?_)
    · replace H := H.1 c
      refine AW_aload_n dX5_fault_30 rfl rfl ?_
      refine AW_getR dX5_fault_31 (bI_0 B) fl_X5_24 (bR_0_2 B) ?_
      refine AW_aload_n dX5_fault_34 rfl rfl ?_
      refine AW_getR dX5_fault_35 (bI_0 B) fl_X5_18 (bR_0_1 B) ?_
      refine AW_iload_n dX5_fault_38 rfl rfl ?_
      refine AW_vI (as := [(.ref 10), (.int xa)]) (st := []) dX5_fault_39 (bI_20 B) (by decide) rfl mv_X3_read mi_X3_read ml_X5_119 (Nat.le_of_ble_eq_true rfl) rfl (Nat.le_refl 0) (Nat.le_refl 0) H (fun r6 v5 H => ?_)
      exact AW_rI dX5_fault_42 rfl rfl H
    · replace H := H.2 c
      refine AW_aload_n dX5_fault_24 rfl rfl ?_
      refine AW_iconst (x := 1) dX5_fault_25 (by decide) ?_
      refine AW_vI (as := [(.int 1)]) (st := []) dX5_fault_26 (bI_0 B) (by decide) rfl mv_X5_find mi_X5_find ml_X5_96 (Nat.le_of_ble_eq_true rfl) rfl (Nat.le_refl 0) (Nat.le_refl 0) H (fun r8 v7 H => ?_)
      exact AW_rI dX5_fault_29 rfl rfl H
  · replace H := H.2 c
    refine AW_iconst (x := (-1)) dX5_fault_11 (by decide) ?_
    exact AW_rI dX5_fault_12 rfl rfl H
set_option maxRecDepth 100000 in
set_option maxHeartbeats 4000000 in
theorem vc_X5_land {G : xG} {d : Nat} {z : xZ} {v : xS} {Q : Int32 → xS → Prop} (B : Base z) {xa : Int32} 
    (H : (oX4_names G d [(.ref 10), (.int xa)] z v (fun r2 v1 => ((¬ r2 = 0 → (oX4_holds G d [(.ref 10), (.int xa)] z v1 (fun r4 v3 => ((¬ r4 = 0 → (oX3_read G d [(.ref 20), (.ref 10), (.int xa)] z v3 (fun r6 v5 => ((r6 = (-9) → (oX1_begin G d [(.ref 30), (.ref 20)] z v5 (fun v7 => aX5_land G (d + 1) 63 [some (.ref 0), some (.int xa), some (.int 0)] [] z v7 Q))) ∧ (¬ r6 = (-9) → Q (-4) v5))))) ∧ (r4 = 0 → (oX5_find G d [(.ref 0), (.int 1)] z v3 (fun r9 v8 => Q r9 v8))))))) ∧ (r2 = 0 → Q (-1) v1))))) :
    oX5_land G (d + 1) [(.ref 0), (.int xa)] z v Q := by
  refine Ok_of (own := RX5) (by decide) rfl (Nat.le_of_ble_eq_true rfl) ?_
  show AW G (d + 1) 0 0 yX5_land cX5_land 3 (some .int) RX5 0 0 0 [some (.ref 0), some (.int xa), none] [] z v _
  refine AW_aload_n dX5_land_0 rfl rfl ?_
  refine AW_getR dX5_land_1 (bI_0 B) fl_X5_18 (bR_0_1 B) ?_
  refine AW_iload_n dX5_land_4 rfl rfl ?_
  refine AW_vI (as := [(.int xa)]) (st := []) dX5_land_5 (bI_10 B) (by decide) rfl mv_X4_names mi_X4_names ml_X5_74 (Nat.le_of_ble_eq_true rfl) rfl (Nat.le_refl 0) (Nat.le_refl 0) H (fun r2 v1 H => ?_)
  refine AW_if_ne (tgt := 13) dX5_land_8 (by decide) (fun c => ?_) (fun c => ?_)
  · replace H := H.1 c
    refine AW_aload_n dX5_land_13 rfl rfl ?_
    refine AW_getR dX5_land_14 (bI_0 B) fl_X5_18 (bR_0_1 B) ?_
    refine AW_iload_n dX5_land_17 rfl rfl ?_
    refine AW_vI (as := [(.int xa)]) (st := []) dX5_land_18 (bI_10 B) (by decide) rfl mv_X4_holds mi_X4_holds ml_X5_93 (Nat.le_of_ble_eq_true rfl) rfl (Nat.le_refl 0) (Nat.le_refl 0) H (fun r4 v3 H => ?_)
    refine AW_if_ne (tgt := 30) dX5_land_21 (by decide) (fun c => ?_) (fun c => ?_)
    · replace H := H.1 c
      refine AW_aload_n dX5_land_30 rfl rfl ?_
      refine AW_getR dX5_land_31 (bI_0 B) fl_X5_24 (bR_0_2 B) ?_
      refine AW_aload_n dX5_land_34 rfl rfl ?_
      refine AW_getR dX5_land_35 (bI_0 B) fl_X5_18 (bR_0_1 B) ?_
      refine AW_iload_n dX5_land_38 rfl rfl ?_
      refine AW_vI (as := [(.ref 10), (.int xa)]) (st := []) dX5_land_39 (bI_20 B) (by decide) rfl mv_X3_read mi_X3_read ml_X5_119 (Nat.le_of_ble_eq_true rfl) rfl (Nat.le_refl 0) (Nat.le_refl 0) H (fun r6 v5 H => ?_)
      refine AW_bipush (x := (-9)) dX5_land_42 (by decide) ?_
      refine AW_icmp_eq (tgt := 50) dX5_land_44 (by decide) (fun c => ?_) (fun c => ?_)
      · replace H := H.1 c
        refine AW_aload_n dX5_land_50 rfl rfl ?_
        refine AW_getR dX5_land_51 (bI_0 B) fl_X5_31 (bR_0_3 B) ?_
        refine AW_aload_n dX5_land_54 rfl rfl ?_
        refine AW_getR dX5_land_55 (bI_0 B) fl_X5_24 (bR_0_2 B) ?_
        refine AW_vV (as := [(.ref 20)]) (st := []) dX5_land_58 (bI_30 B) (by decide) rfl mv_X1_begin mi_X1_begin ml_X5_123 (Nat.le_of_ble_eq_true rfl) rfl (Nat.le_refl 0) (Nat.le_refl 0) H (fun v7 H => ?_)
        refine AW_iconst (x := 0) dX5_land_61 (by decide) ?_
        refine AW_istore_n (L' := [some (.ref 0), some (.int xa), some (.int 0)]) dX5_land_62 rfl (by decide) rfl ?_
        exact H
      · replace H := H.2 c
        refine AW_bipush (x := (-4)) dX5_land_47 (by decide) ?_
        exact AW_rI dX5_land_49 rfl rfl H
    · replace H := H.2 c
      refine AW_aload_n dX5_land_24 rfl rfl ?_
      refine AW_iconst (x := 1) dX5_land_25 (by decide) ?_
      refine AW_vI (as := [(.int 1)]) (st := []) dX5_land_26 (bI_0 B) (by decide) rfl mv_X5_find mi_X5_find ml_X5_96 (Nat.le_of_ble_eq_true rfl) rfl (Nat.le_refl 0) (Nat.le_refl 0) H (fun r9 v8 H => ?_)
      exact AW_rI dX5_land_29 rfl rfl H
  · replace H := H.2 c
    refine AW_iconst (x := (-1)) dX5_land_11 (by decide) ?_
    exact AW_rI dX5_land_12 rfl rfl H
set_option maxRecDepth 100000 in
set_option maxHeartbeats 4000000 in
theorem vc_X5_land_63 {G : xG} {d : Nat} {z : xZ} {v : xS} {Q : Int32 → xS → Prop} (B : Base z)  {l1 : Int32} {l2 : Int32} 
    (H : ((3 ≤ l2 → Q (v.1 30 0) v) ∧ (¬ 3 ≤ l2 → (vp_in l2 3 ∧ (∀ v2 : xS, v2 = wV v 101 l2.toNatClampNeg 0 → aX5_land G (d + 1) 63 [some (.ref 0), some (.int l1), some (.int (l2 + 1))] [] z v2 Q))))) :
    aX5_land G (d + 1) 63 [some (.ref 0), some (.int l1), some (.int l2)] [] z v Q := by
  refine AW_iload_n dX5_land_63 rfl rfl ?_
  refine AW_iconst (x := 3) dX5_land_64 (by decide) ?_
  refine AW_icmp_ge (tgt := 81) dX5_land_65 (by decide) (fun c => ?_) (fun c => ?_)
  · replace H := H.1 c
    refine AW_aload_n dX5_land_81 rfl rfl ?_
    refine AW_getR dX5_land_82 (bI_0 B) fl_X5_31 (bR_0_3 B) ?_
    refine AW_getI dX5_land_85 (bI_30 B) fl_X5_127 ?_
    exact AW_rI dX5_land_88 rfl rfl H
  · replace H := H.2 c
    refine AW_aload_n dX5_land_68 rfl rfl ?_
    refine AW_getR dX5_land_69 (bI_0 B) fl_X5_55 (bR_0_7 B) ?_
    refine AW_iload_n dX5_land_72 rfl rfl ?_
    refine AW_iconst (x := 0) dX5_land_73 (by decide) ?_
    have hi1 := H.1
    replace H := H.2
    refine AW_zastN dX5_land_74 (bI_101 B) hi1 (by decide) (fun v2 hv2 => ?_)
    replace H := H v2 hv2
    refine AW_iinc (x' := l2 + 1) (L' := [some (.ref 0), some (.int l1), some (.int (l2 + 1))]) dX5_land_75 rfl rfl (by decide) rfl ?_
    refine AW_goto (tgt := 63) dX5_land_78 (by decide) ?_
    exact H
set_option maxRecDepth 100000 in
set_option maxHeartbeats 4000000 in
theorem vc_X5_spot {G : xG} {d : Nat} {z : xZ} {v : xS} {Q : Int32 → xS → Prop} (B : Base z) {xa : Int32} 
    (H : (oX1_isSpot G d [(.ref 30), (.int xa)] z v (fun r2 v1 => ((¬ r2 = 0 → (oX1_isFrozen G d [(.ref 30), (.int xa)] z v1 (fun r4 v3 => ((r4 = 0 → (vp_in xa 10 ∧ (oX5_tell G d [(.ref 0), (.int 0), (.int (v3.1 31 xa.toNatClampNeg))] z v3 (fun r7 v6 => Q r7 v6)))) ∧ (¬ r4 = 0 → (vp_in xa 10 ∧ (oX5_tell G d [(.ref 0), (.int 1), (.int (v3.1 31 xa.toNatClampNeg))] z v3 (fun r10 v9 => Q r10 v9)))))))) ∧ (r2 = 0 → Q (-1) v1))))) :
    oX5_spot G (d + 1) [(.ref 0), (.int xa)] z v Q := by
  refine Ok_of (own := RX5) (by decide) rfl (Nat.le_of_ble_eq_true rfl) ?_
  show AW G (d + 1) 0 0 yX5_spot cX5_spot 2 (some .int) RX5 0 0 0 [some (.ref 0), some (.int xa)] [] z v _
  refine AW_aload_n dX5_spot_0 rfl rfl ?_
  refine AW_getR dX5_spot_1 (bI_0 B) fl_X5_31 (bR_0_3 B) ?_
  refine AW_iload_n dX5_spot_4 rfl rfl ?_
  refine AW_vI (as := [(.int xa)]) (st := []) dX5_spot_5 (bI_30 B) (by decide) rfl mv_X1_isSpot mi_X1_isSpot ml_X5_130 (Nat.le_of_ble_eq_true rfl) rfl (Nat.le_refl 0) (Nat.le_refl 0) H (fun r2 v1 H => ?_)
  refine AW_if_ne (tgt := 13) dX5_spot_8 (by decide) (fun c => ?_) (fun c => ?_)
  · replace H := H.1 c
    refine AW_aload_n dX5_spot_13 rfl rfl ?_
    refine AW_aload_n dX5_spot_14 rfl rfl ?_
    refine AW_getR dX5_spot_15 (bI_0 B) fl_X5_31 (bR_0_3 B) ?_
    refine AW_iload_n dX5_spot_18 rfl rfl ?_
    refine AW_vI (as := [(.int xa)]) (st := [(.ref 0)]) dX5_spot_19 (bI_30 B) (by decide) rfl mv_X1_isFrozen mi_X1_isFrozen ml_X5_133 (Nat.le_of_ble_eq_true rfl) rfl (Nat.le_refl 0) (Nat.le_refl 0) H (fun r4 v3 H => ?_)
    refine AW_if_eq (tgt := 29) dX5_spot_22 (by decide) (fun c => ?_) (fun c => ?_)
    · replace H := H.1 c
      refine AW_iconst (x := 0) dX5_spot_29 (by decide) ?_
      refine AW_aload_n dX5_spot_30 rfl rfl ?_
      refine AW_getR dX5_spot_31 (bI_0 B) fl_X5_31 (bR_0_3 B) ?_
      refine AW_getR dX5_spot_34 (bI_30 B) fl_X5_136 (bR_30_4 B) ?_
      refine AW_iload_n dX5_spot_37 rfl rfl ?_
      have hi5 := H.1
      replace H := H.2
      refine AW_iald dX5_spot_38 (bI_31 B) hi5 ?_
      refine AW_vI (as := [(.int 0), (.int (v3.1 31 xa.toNatClampNeg))]) (st := []) dX5_spot_39 (bI_0 B) (by decide) rfl mv_X5_tell mi_X5_tell ml_X5_90 (Nat.le_of_ble_eq_true rfl) rfl (Nat.le_refl 0) (Nat.le_refl 0) H (fun r7 v6 H => ?_)
      exact AW_rI dX5_spot_42 rfl rfl H
    · replace H := H.2 c
      refine AW_iconst (x := 1) dX5_spot_25 (by decide) ?_
      refine AW_goto (tgt := 30) dX5_spot_26 (by decide) ?_
      refine AW_aload_n dX5_spot_30 rfl rfl ?_
      refine AW_getR dX5_spot_31 (bI_0 B) fl_X5_31 (bR_0_3 B) ?_
      refine AW_getR dX5_spot_34 (bI_30 B) fl_X5_136 (bR_30_4 B) ?_
      refine AW_iload_n dX5_spot_37 rfl rfl ?_
      have hi8 := H.1
      replace H := H.2
      refine AW_iald dX5_spot_38 (bI_31 B) hi8 ?_
      refine AW_vI (as := [(.int 1), (.int (v3.1 31 xa.toNatClampNeg))]) (st := []) dX5_spot_39 (bI_0 B) (by decide) rfl mv_X5_tell mi_X5_tell ml_X5_90 (Nat.le_of_ble_eq_true rfl) rfl (Nat.le_refl 0) (Nat.le_refl 0) H (fun r10 v9 H => ?_)
      exact AW_rI dX5_spot_42 rfl rfl H
  · replace H := H.2 c
    refine AW_iconst (x := (-1)) dX5_spot_11 (by decide) ?_
    exact AW_rI dX5_spot_12 rfl rfl H
set_option maxRecDepth 100000 in
set_option maxHeartbeats 4000000 in
theorem vc_X5_band {G : xG} {d : Nat} {z : xZ} {v : xS} {Q : Int32 → xS → Prop} (B : Base z) {xa : Int32} {xb : Int32} 
    (H : (oX1_isBand G d [(.ref 30), (.int xa)] z v (fun r2 v1 => ((r2 = 0 → Q (-1) v1) ∧ (¬ r2 = 0 → ((xb < 0 → Q (-1) v1) ∧ (¬ xb < 0 → ((xb < 5 → (oX1_bandTells G d [(.ref 30), (.int xa), (.int xb)] z v1 (fun r4 v3 => (oX5_tell G d [(.ref 0), (.int 1), (.int r4)] z v3 (fun r6 v5 => Q r6 v5))))) ∧ (¬ xb < 5 → Q (-1) v1))))))))) :
    oX5_band G (d + 1) [(.ref 0), (.int xa), (.int xb)] z v Q := by
  refine Ok_of (own := RX5) (by decide) rfl (Nat.le_of_ble_eq_true rfl) ?_
  show AW G (d + 1) 0 0 yX5_band cX5_band 3 (some .int) RX5 0 0 0 [some (.ref 0), some (.int xa), some (.int xb)] [] z v _
  refine AW_aload_n dX5_band_0 rfl rfl ?_
  refine AW_getR dX5_band_1 (bI_0 B) fl_X5_31 (bR_0_3 B) ?_
  refine AW_iload_n dX5_band_4 rfl rfl ?_
  refine AW_vI (as := [(.int xa)]) (st := []) dX5_band_5 (bI_30 B) (by decide) rfl mv_X1_isBand mi_X1_isBand ml_X5_139 (Nat.le_of_ble_eq_true rfl) rfl (Nat.le_refl 0) (Nat.le_refl 0) H (fun r2 v1 H => ?_)
  refine AW_if_eq (tgt := 20) dX5_band_8 (by decide) (fun c => ?_) (fun c => ?_)
  · replace H := H.1 c
    refine AW_iconst (x := (-1)) dX5_band_20 (by decide) ?_
    exact AW_rI dX5_band_21 rfl rfl H
  · replace H := H.2 c
    refine AW_iload_n dX5_band_11 rfl rfl ?_
    refine AW_if_lt (tgt := 20) dX5_band_12 (by decide) (fun c => ?_) (fun c => ?_)
    · replace H := H.1 c
      refine AW_iconst (x := (-1)) dX5_band_20 (by decide) ?_
      exact AW_rI dX5_band_21 rfl rfl H
    · replace H := H.2 c
      refine AW_iload_n dX5_band_15 rfl rfl ?_
      refine AW_iconst (x := 5) dX5_band_16 (by decide) ?_
      refine AW_icmp_lt (tgt := 22) dX5_band_17 (by decide) (fun c => ?_) (fun c => ?_)
      · replace H := H.1 c
        refine AW_aload_n dX5_band_22 rfl rfl ?_
        refine AW_iconst (x := 1) dX5_band_23 (by decide) ?_
        refine AW_aload_n dX5_band_24 rfl rfl ?_
        refine AW_getR dX5_band_25 (bI_0 B) fl_X5_31 (bR_0_3 B) ?_
        refine AW_iload_n dX5_band_28 rfl rfl ?_
        refine AW_iload_n dX5_band_29 rfl rfl ?_
        refine AW_vI (as := [(.int xa), (.int xb)]) (st := [(.int 1), (.ref 0)]) dX5_band_30 (bI_30 B) (by decide) rfl mv_X1_bandTells mi_X1_bandTells ml_X5_142 (Nat.le_of_ble_eq_true rfl) rfl (Nat.le_refl 0) (Nat.le_refl 0) H (fun r4 v3 H => ?_)
        refine AW_vI (as := [(.int 1), (.int r4)]) (st := []) dX5_band_33 (bI_0 B) (by decide) rfl mv_X5_tell mi_X5_tell ml_X5_90 (Nat.le_of_ble_eq_true rfl) rfl (Nat.le_refl 0) (Nat.le_refl 0) H (fun r6 v5 H => ?_)
        exact AW_rI dX5_band_36 rfl rfl H
      · replace H := H.2 c
        refine AW_iconst (x := (-1)) dX5_band_20 (by decide) ?_
        exact AW_rI dX5_band_21 rfl rfl H
set_option maxRecDepth 100000 in
set_option maxHeartbeats 4000000 in
theorem vc_X5_mark {G : xG} {d : Nat} {z : xZ} {v : xS} {Q : Int32 → xS → Prop} (B : Base z) {xa : Int32} {xb : Int32} 
    (H : (oX1_isBand G d [(.ref 30), (.int xa)] z v (fun r2 v1 => ((r2 = 0 → Q (-1) v1) ∧ (¬ r2 = 0 → ((xb ≤ 0 → Q (-1) v1) ∧ (¬ xb ≤ 0 → ((xb < 6 → (oX1_isOf G d [(.ref 30), (.int xa), (.int xb)] z v1 (fun r4 v3 => ((¬ r4 = 0 → (((xb.toInt < 1 ∨ 4 < xb.toInt) → (oX0_inchesByTune G d [(.ref 70), (.int xa), (.int 2)] z v3 (fun r6 v5 => Q r6 v5))) ∧ (xb = 1 → (oX0_inchesByTune G d [(.ref 70), (.int xa), (.int 1)] z v3 (fun r8 v7 => Q r8 v7))) ∧ (xb = 2 → (oX1_lowHeard G d [(.ref 30), (.int xa)] z v3 (fun r10 v9 => Q r10 v9))) ∧ (xb = 3 → (vp_in xa 3 ∧ Q (((v3.1 30 0) - 1) - (v3.1 32 xa.toNatClampNeg)) v3)) ∧ (xb = 4 → (oX1_reach G d [(.ref 30), (.int xa)] z v3 (fun r13 v12 => (vp_in xa 3 ∧ Q (r13 - (v12.1 33 xa.toNatClampNeg)) v12)))))) ∧ (r4 = 0 → (oX5_find G d [(.ref 0), (.int 3)] z v3 (fun r16 v15 => Q r16 v15))))))) ∧ (¬ xb < 6 → Q (-1) v1))))))))) :
    oX5_mark G (d + 1) [(.ref 0), (.int xa), (.int xb)] z v Q := by
  refine Ok_of (own := RX5) (by decide) rfl (Nat.le_of_ble_eq_true rfl) ?_
  show AW G (d + 1) 0 0 yX5_mark cX5_mark 3 (some .int) RX5 0 0 0 [some (.ref 0), some (.int xa), some (.int xb)] [] z v _
  refine AW_aload_n dX5_mark_0 rfl rfl ?_
  refine AW_getR dX5_mark_1 (bI_0 B) fl_X5_31 (bR_0_3 B) ?_
  refine AW_iload_n dX5_mark_4 rfl rfl ?_
  refine AW_vI (as := [(.int xa)]) (st := []) dX5_mark_5 (bI_30 B) (by decide) rfl mv_X1_isBand mi_X1_isBand ml_X5_139 (Nat.le_of_ble_eq_true rfl) rfl (Nat.le_refl 0) (Nat.le_refl 0) H (fun r2 v1 H => ?_)
  refine AW_if_eq (tgt := 21) dX5_mark_8 (by decide) (fun c => ?_) (fun c => ?_)
  · replace H := H.1 c
    refine AW_iconst (x := (-1)) dX5_mark_21 (by decide) ?_
    exact AW_rI dX5_mark_22 rfl rfl H
  · replace H := H.2 c
    refine AW_iload_n dX5_mark_11 rfl rfl ?_
    refine AW_if_le (tgt := 21) dX5_mark_12 (by decide) (fun c => ?_) (fun c => ?_)
    · replace H := H.1 c
      refine AW_iconst (x := (-1)) dX5_mark_21 (by decide) ?_
      exact AW_rI dX5_mark_22 rfl rfl H
    · replace H := H.2 c
      refine AW_iload_n dX5_mark_15 rfl rfl ?_
      refine AW_bipush (x := 6) dX5_mark_16 (by decide) ?_
      refine AW_icmp_lt (tgt := 23) dX5_mark_18 (by decide) (fun c => ?_) (fun c => ?_)
      · replace H := H.1 c
        refine AW_aload_n dX5_mark_23 rfl rfl ?_
        refine AW_getR dX5_mark_24 (bI_0 B) fl_X5_31 (bR_0_3 B) ?_
        refine AW_iload_n dX5_mark_27 rfl rfl ?_
        refine AW_iload_n dX5_mark_28 rfl rfl ?_
        refine AW_vI (as := [(.int xa), (.int xb)]) (st := []) dX5_mark_29 (bI_30 B) (by decide) rfl mv_X1_isOf mi_X1_isOf ml_X5_145 (Nat.le_of_ble_eq_true rfl) rfl (Nat.le_refl 0) (Nat.le_refl 0) H (fun r4 v3 H => ?_)
        refine AW_if_ne (tgt := 41) dX5_mark_32 (by decide) (fun c => ?_) (fun c => ?_)
        · replace H := H.1 c
          refine AW_iload_n dX5_mark_41 rfl rfl ?_
          by_cases cz : xb.toInt < 1 ∨ 4 < xb.toInt
          · refine AW_tableOut (tgt := 130) dX5_mark_42 cz (by decide) ?_
            replace H := H.1 cz
            refine AW_aload_n dX5_mark_130 rfl rfl ?_
            refine AW_getR dX5_mark_131 (bI_0 B) fl_X5_40 (bR_0_4 B) ?_
            refine AW_iload_n dX5_mark_134 rfl rfl ?_
            refine AW_iconst (x := 2) dX5_mark_135 (by decide) ?_
            refine AW_vI (as := [(.int xa), (.int 2)]) (st := []) dX5_mark_136 (bI_70 B) (by decide) rfl mv_X0_inchesByTune mi_X0_inchesByTune ml_X5_149 (Nat.le_of_ble_eq_true rfl) rfl (Nat.le_refl 0) (Nat.le_refl 0) H (fun r6 v5 H => ?_)
            exact AW_rI dX5_mark_139 rfl rfl H
          · have cy : xb = 1 ∨ xb = 2 ∨ xb = 3 ∨ xb = 4 := xsw_1_4 cz
            replace H := H.2
            rcases cy with cy | cy
            · replace H := H.1 cy
              refine AW_tableIn (off := 30) (tgt := 72) dX5_mark_42 (by rw [cy]; decide) (by rw [cy]; decide) (by rw [cy]; decide) (by decide) ?_
              refine AW_aload_n dX5_mark_72 rfl rfl ?_
              refine AW_getR dX5_mark_73 (bI_0 B) fl_X5_40 (bR_0_4 B) ?_
              refine AW_iload_n dX5_mark_76 rfl rfl ?_
              refine AW_iconst (x := 1) dX5_mark_77 (by decide) ?_
              refine AW_vI (as := [(.int xa), (.int 1)]) (st := []) dX5_mark_78 (bI_70 B) (by decide) rfl mv_X0_inchesByTune mi_X0_inchesByTune ml_X5_149 (Nat.le_of_ble_eq_true rfl) rfl (Nat.le_refl 0) (Nat.le_refl 0) H (fun r8 v7 H => ?_)
              exact AW_rI dX5_mark_81 rfl rfl H
            rcases cy with cy | cy
            · replace H := H.2.1 cy
              refine AW_tableIn (off := 40) (tgt := 82) dX5_mark_42 (by rw [cy]; decide) (by rw [cy]; decide) (by rw [cy]; decide) (by decide) ?_
              refine AW_aload_n dX5_mark_82 rfl rfl ?_
              refine AW_getR dX5_mark_83 (bI_0 B) fl_X5_31 (bR_0_3 B) ?_
              refine AW_iload_n dX5_mark_86 rfl rfl ?_
              refine AW_vI (as := [(.int xa)]) (st := []) dX5_mark_87 (bI_30 B) (by decide) rfl mv_X1_lowHeard mi_X1_lowHeard ml_X5_152 (Nat.le_of_ble_eq_true rfl) rfl (Nat.le_refl 0) (Nat.le_refl 0) H (fun r10 v9 H => ?_)
              exact AW_rI dX5_mark_90 rfl rfl H
            rcases cy with cy | cy
            · replace H := H.2.2.1 cy
              refine AW_tableIn (off := 49) (tgt := 91) dX5_mark_42 (by rw [cy]; decide) (by rw [cy]; decide) (by rw [cy]; decide) (by decide) ?_
              refine AW_aload_n dX5_mark_91 rfl rfl ?_
              refine AW_getR dX5_mark_92 (bI_0 B) fl_X5_31 (bR_0_3 B) ?_
              refine AW_getI dX5_mark_95 (bI_30 B) fl_X5_127 ?_
              refine AW_iconst (x := 1) dX5_mark_98 (by decide) ?_
              refine AW_isub dX5_mark_99 ?_
              refine AW_aload_n dX5_mark_100 rfl rfl ?_
              refine AW_getR dX5_mark_101 (bI_0 B) fl_X5_31 (bR_0_3 B) ?_
              refine AW_getR dX5_mark_104 (bI_30 B) fl_X5_155 (bR_30_5 B) ?_
              refine AW_iload_n dX5_mark_107 rfl rfl ?_
              have hi11 := H.1
              replace H := H.2
              refine AW_iald dX5_mark_108 (bI_32 B) hi11 ?_
              refine AW_isub dX5_mark_109 ?_
              exact AW_rI dX5_mark_110 rfl rfl H
            · replace H := H.2.2.2 cy
              refine AW_tableIn (off := 69) (tgt := 111) dX5_mark_42 (by rw [cy]; decide) (by rw [cy]; decide) (by rw [cy]; decide) (by decide) ?_
              refine AW_aload_n dX5_mark_111 rfl rfl ?_
              refine AW_getR dX5_mark_112 (bI_0 B) fl_X5_31 (bR_0_3 B) ?_
              refine AW_iload_n dX5_mark_115 rfl rfl ?_
              refine AW_vI (as := [(.int xa)]) (st := []) dX5_mark_116 (bI_30 B) (by decide) rfl mv_X1_reach mi_X1_reach ml_X5_158 (Nat.le_of_ble_eq_true rfl) rfl (Nat.le_refl 0) (Nat.le_refl 0) H (fun r13 v12 H => ?_)
              refine AW_aload_n dX5_mark_119 rfl rfl ?_
              refine AW_getR dX5_mark_120 (bI_0 B) fl_X5_31 (bR_0_3 B) ?_
              refine AW_getR dX5_mark_123 (bI_30 B) fl_X5_161 (bR_30_6 B) ?_
              refine AW_iload_n dX5_mark_126 rfl rfl ?_
              have hi14 := H.1
              replace H := H.2
              refine AW_iald dX5_mark_127 (bI_33 B) hi14 ?_
              refine AW_isub dX5_mark_128 ?_
              exact AW_rI dX5_mark_129 rfl rfl H
        · replace H := H.2 c
          refine AW_aload_n dX5_mark_35 rfl rfl ?_
          refine AW_iconst (x := 3) dX5_mark_36 (by decide) ?_
          refine AW_vI (as := [(.int 3)]) (st := []) dX5_mark_37 (bI_0 B) (by decide) rfl mv_X5_find mi_X5_find ml_X5_96 (Nat.le_of_ble_eq_true rfl) rfl (Nat.le_refl 0) (Nat.le_refl 0) H (fun r16 v15 H => ?_)
          exact AW_rI dX5_mark_40 rfl rfl H
      · replace H := H.2 c
        refine AW_iconst (x := (-1)) dX5_mark_21 (by decide) ?_
        exact AW_rI dX5_mark_22 rfl rfl H
set_option maxRecDepth 100000 in
set_option maxHeartbeats 4000000 in
theorem vc_X5_frost {G : xG} {d : Nat} {z : xZ} {v : xS} {Q : Int32 → xS → Prop} (B : Base z) {xa : Int32} 
    (H : (oX1_isSpotSet G d [(.ref 30), (.int xa)] z v (fun r2 v1 => ((¬ r2 = 0 → (∀ v3 : xS, v3 = wV v1 30 2 xa → Q (v1.1 30 2) v3)) ∧ (r2 = 0 → Q (-1) v1))))) :
    oX5_frost G (d + 1) [(.ref 0), (.int xa)] z v Q := by
  refine Ok_of (own := RX5) (by decide) rfl (Nat.le_of_ble_eq_true rfl) ?_
  show AW G (d + 1) 0 0 yX5_frost cX5_frost 3 (some .int) RX5 0 0 0 [some (.ref 0), some (.int xa), none] [] z v _
  refine AW_aload_n dX5_frost_0 rfl rfl ?_
  refine AW_getR dX5_frost_1 (bI_0 B) fl_X5_31 (bR_0_3 B) ?_
  refine AW_iload_n dX5_frost_4 rfl rfl ?_
  refine AW_vI (as := [(.int xa)]) (st := []) dX5_frost_5 (bI_30 B) (by decide) rfl mv_X1_isSpotSet mi_X1_isSpotSet ml_X5_164 (Nat.le_of_ble_eq_true rfl) rfl (Nat.le_refl 0) (Nat.le_refl 0) H (fun r2 v1 H => ?_)
  refine AW_if_ne (tgt := 13) dX5_frost_8 (by decide) (fun c => ?_) (fun c => ?_)
  · replace H := H.1 c
    refine AW_aload_n dX5_frost_13 rfl rfl ?_
    refine AW_getR dX5_frost_14 (bI_0 B) fl_X5_31 (bR_0_3 B) ?_
    refine AW_getI dX5_frost_17 (bI_30 B) fl_X5_167 ?_
    refine AW_istore_n (L' := [some (.ref 0), some (.int xa), some (.int (v1.1 30 2))]) dX5_frost_20 rfl (by decide) rfl ?_
    refine AW_aload_n dX5_frost_21 rfl rfl ?_
    refine AW_getR dX5_frost_22 (bI_0 B) fl_X5_31 (bR_0_3 B) ?_
    refine AW_iload_n dX5_frost_25 rfl rfl ?_
    refine AW_putIN dX5_frost_26 (bI_30 B) fl_X5_167 rfl rfl rfl (fun v3 hv3 => ?_)
    replace H := H v3 hv3
    refine AW_iload_n dX5_frost_29 rfl rfl ?_
    exact AW_rI dX5_frost_30 rfl rfl H
  · replace H := H.2 c
    refine AW_iconst (x := (-1)) dX5_frost_11 (by decide) ?_
    exact AW_rI dX5_frost_12 rfl rfl H
set_option maxRecDepth 100000 in
set_option maxHeartbeats 4000000 in
theorem vc_X5_move {G : xG} {d : Nat} {z : xZ} {v : xS} {Q : Int32 → xS → Prop} (B : Base z) {xa : Int32} {xb : Int32} 
    (H : (oX1_isBand G d [(.ref 30), (.int xa)] z v (fun r2 v1 => ((r2 = 0 → Q (-1) v1) ∧ (¬ r2 = 0 → (oX1_isSpot G d [(.ref 30), (.int xb)] z v1 (fun r4 v3 => ((¬ r4 = 0 → (vp_in xa 3 ∧ (vp_in xa 3 ∧ (∀ v7 : xS, v7 = wV v3 32 xa.toNatClampNeg xb → Q (v3.1 32 xa.toNatClampNeg) v7)))) ∧ (r4 = 0 → Q (-1) v3))))))))) :
    oX5_move G (d + 1) [(.ref 0), (.int xa), (.int xb)] z v Q := by
  refine Ok_of (own := RX5) (by decide) rfl (Nat.le_of_ble_eq_true rfl) ?_
  show AW G (d + 1) 0 0 yX5_move cX5_move 4 (some .int) RX5 0 0 0 [some (.ref 0), some (.int xa), some (.int xb), none] [] z v _
  refine AW_aload_n dX5_move_0 rfl rfl ?_
  refine AW_getR dX5_move_1 (bI_0 B) fl_X5_31 (bR_0_3 B) ?_
  refine AW_iload_n dX5_move_4 rfl rfl ?_
  refine AW_vI (as := [(.int xa)]) (st := []) dX5_move_5 (bI_30 B) (by decide) rfl mv_X1_isBand mi_X1_isBand ml_X5_139 (Nat.le_of_ble_eq_true rfl) rfl (Nat.le_refl 0) (Nat.le_refl 0) H (fun r2 v1 H => ?_)
  refine AW_if_eq (tgt := 22) dX5_move_8 (by decide) (fun c => ?_) (fun c => ?_)
  · replace H := H.1 c
    refine AW_iconst (x := (-1)) dX5_move_22 (by decide) ?_
    exact AW_rI dX5_move_23 rfl rfl H
  · replace H := H.2 c
    refine AW_aload_n dX5_move_11 rfl rfl ?_
    refine AW_getR dX5_move_12 (bI_0 B) fl_X5_31 (bR_0_3 B) ?_
    refine AW_iload_n dX5_move_15 rfl rfl ?_
    refine AW_vI (as := [(.int xb)]) (st := []) dX5_move_16 (bI_30 B) (by decide) rfl mv_X1_isSpot mi_X1_isSpot ml_X5_130 (Nat.le_of_ble_eq_true rfl) rfl (Nat.le_refl 0) (Nat.le_refl 0) H (fun r4 v3 H => ?_)
    refine AW_if_ne (tgt := 24) dX5_move_19 (by decide) (fun c => ?_) (fun c => ?_)
    · replace H := H.1 c
      refine AW_aload_n dX5_move_24 rfl rfl ?_
      refine AW_getR dX5_move_25 (bI_0 B) fl_X5_31 (bR_0_3 B) ?_
      refine AW_getR dX5_move_28 (bI_30 B) fl_X5_155 (bR_30_5 B) ?_
      refine AW_iload_n dX5_move_31 rfl rfl ?_
      have hi5 := H.1
      replace H := H.2
      refine AW_iald dX5_move_32 (bI_32 B) hi5 ?_
      refine AW_istore_n (L' := [some (.ref 0), some (.int xa), some (.int xb), some (.int (v3.1 32 xa.toNatClampNeg))]) dX5_move_33 rfl (by decide) rfl ?_
      refine AW_aload_n dX5_move_34 rfl rfl ?_
      refine AW_getR dX5_move_35 (bI_0 B) fl_X5_31 (bR_0_3 B) ?_
      refine AW_getR dX5_move_38 (bI_30 B) fl_X5_155 (bR_30_5 B) ?_
      refine AW_iload_n dX5_move_41 rfl rfl ?_
      refine AW_iload_n dX5_move_42 rfl rfl ?_
      have hi6 := H.1
      replace H := H.2
      refine AW_iastN dX5_move_43 (bI_32 B) hi6 (fun v7 hv7 => ?_)
      replace H := H v7 hv7
      refine AW_iload_n dX5_move_44 rfl rfl ?_
      exact AW_rI dX5_move_45 rfl rfl H
    · replace H := H.2 c
      refine AW_iconst (x := (-1)) dX5_move_22 (by decide) ?_
      exact AW_rI dX5_move_23 rfl rfl H
set_option maxRecDepth 100000 in
set_option maxHeartbeats 4000000 in
theorem vc_X5_evening {G : xG} {d : Nat} {z : xZ} {v : xS} {Q : Int32 → xS → Prop} (B : Base z) {xa : Int32} 
    (H : (oX1_isProgram G d [(.ref 30), (.int xa)] z v (fun r2 v1 => ((¬ r2 = 0 → ((¬ (v1.1 30 0) = 0 → (((v1.1 30 3) < 60 → (oX1_playTruly G d [(.ref 30), (.int xa)] z v1 (fun r4 v3 => (oX1_breathOf G d [(.ref 30), (.int xa)] z v3 (fun r6 v5 => (oX5_tell G d [(.ref 0), (.int r4), (.int r6)] z v5 (fun r8 v7 => Q r8 v7))))))) ∧ (¬ (v1.1 30 3) < 60 → Q (-2) v1))) ∧ ((v1.1 30 0) = 0 → Q (-4) v1))) ∧ (r2 = 0 → Q (-1) v1))))) :
    oX5_evening G (d + 1) [(.ref 0), (.int xa)] z v Q := by
  refine Ok_of (own := RX5) (by decide) rfl (Nat.le_of_ble_eq_true rfl) ?_
  show AW G (d + 1) 0 0 yX5_evening cX5_evening 2 (some .int) RX5 0 0 0 [some (.ref 0), some (.int xa)] [] z v _
  refine AW_aload_n dX5_evening_0 rfl rfl ?_
  refine AW_getR dX5_evening_1 (bI_0 B) fl_X5_31 (bR_0_3 B) ?_
  refine AW_iload_n dX5_evening_4 rfl rfl ?_
  refine AW_vI (as := [(.int xa)]) (st := []) dX5_evening_5 (bI_30 B) (by decide) rfl mv_X1_isProgram mi_X1_isProgram ml_X5_170 (Nat.le_of_ble_eq_true rfl) rfl (Nat.le_refl 0) (Nat.le_refl 0) H (fun r2 v1 H => ?_)
  refine AW_if_ne (tgt := 13) dX5_evening_8 (by decide) (fun c => ?_) (fun c => ?_)
  · replace H := H.1 c
    refine AW_aload_n dX5_evening_13 rfl rfl ?_
    refine AW_getR dX5_evening_14 (bI_0 B) fl_X5_31 (bR_0_3 B) ?_
    refine AW_getI dX5_evening_17 (bI_30 B) fl_X5_127 ?_
    refine AW_if_ne (tgt := 26) dX5_evening_20 (by decide) (fun c => ?_) (fun c => ?_)
    · replace H := H.1 c
      refine AW_aload_n dX5_evening_26 rfl rfl ?_
      refine AW_getR dX5_evening_27 (bI_0 B) fl_X5_31 (bR_0_3 B) ?_
      refine AW_getI dX5_evening_30 (bI_30 B) fl_X5_173 ?_
      refine AW_bipush (x := 60) dX5_evening_33 (by decide) ?_
      refine AW_icmp_lt (tgt := 41) dX5_evening_35 (by decide) (fun c => ?_) (fun c => ?_)
      · replace H := H.1 c
        refine AW_aload_n dX5_evening_41 rfl rfl ?_
        refine AW_aload_n dX5_evening_42 rfl rfl ?_
        refine AW_getR dX5_evening_43 (bI_0 B) fl_X5_31 (bR_0_3 B) ?_
        refine AW_iload_n dX5_evening_46 rfl rfl ?_
        refine AW_vI (as := [(.int xa)]) (st := [(.ref 0)]) dX5_evening_47 (bI_30 B) (by decide) rfl mv_X1_playTruly mi_X1_playTruly ml_X5_176 (Nat.le_of_ble_eq_true rfl) rfl (Nat.le_refl 0) (Nat.le_refl 0) H (fun r4 v3 H => ?_)
        refine AW_aload_n dX5_evening_50 rfl rfl ?_
        refine AW_getR dX5_evening_51 (bI_0 B) fl_X5_31 (bR_0_3 B) ?_
        refine AW_iload_n dX5_evening_54 rfl rfl ?_
        refine AW_vI (as := [(.int xa)]) (st := [(.int r4), (.ref 0)]) dX5_evening_55 (bI_30 B) (by decide) rfl mv_X1_breathOf mi_X1_breathOf ml_X5_179 (Nat.le_of_ble_eq_true rfl) rfl (Nat.le_refl 0) (Nat.le_refl 0) H (fun r6 v5 H => ?_)
        refine AW_vI (as := [(.int r4), (.int r6)]) (st := []) dX5_evening_58 (bI_0 B) (by decide) rfl mv_X5_tell mi_X5_tell ml_X5_90 (Nat.le_of_ble_eq_true rfl) rfl (Nat.le_refl 0) (Nat.le_refl 0) H (fun r8 v7 H => ?_)
        exact AW_rI dX5_evening_61 rfl rfl H
      · replace H := H.2 c
        refine AW_bipush (x := (-2)) dX5_evening_38 (by decide) ?_
        exact AW_rI dX5_evening_40 rfl rfl H
    · replace H := H.2 c
      refine AW_bipush (x := (-4)) dX5_evening_23 (by decide) ?_
      exact AW_rI dX5_evening_25 rfl rfl H
  · replace H := H.2 c
    refine AW_iconst (x := (-1)) dX5_evening_11 (by decide) ?_
    exact AW_rI dX5_evening_12 rfl rfl H
set_option maxRecDepth 100000 in
set_option maxHeartbeats 4000000 in
theorem vc_X5_undo {G : xG} {d : Nat} {z : xZ} {v : xS} {Q : Int32 → xS → Prop} (B : Base z) {xa : Int32} 
    (H : ((xa < 0 → Q (-1) v) ∧ (¬ xa < 0 → ((xa ≤ (v.1 30 3) → (oX1_takeBack G d [(.ref 30), (.int xa)] z v (fun r2 v1 => Q r2 v1))) ∧ (¬ xa ≤ (v.1 30 3) → Q (-1) v))))) :
    oX5_undo G (d + 1) [(.ref 0), (.int xa)] z v Q := by
  refine Ok_of (own := RX5) (by decide) rfl (Nat.le_of_ble_eq_true rfl) ?_
  show AW G (d + 1) 0 0 yX5_undo cX5_undo 2 (some .int) RX5 0 0 0 [some (.ref 0), some (.int xa)] [] z v _
  refine AW_iload_n dX5_undo_0 rfl rfl ?_
  refine AW_if_lt (tgt := 15) dX5_undo_1 (by decide) (fun c => ?_) (fun c => ?_)
  · replace H := H.1 c
    refine AW_iconst (x := (-1)) dX5_undo_15 (by decide) ?_
    exact AW_rI dX5_undo_16 rfl rfl H
  · replace H := H.2 c
    refine AW_iload_n dX5_undo_4 rfl rfl ?_
    refine AW_aload_n dX5_undo_5 rfl rfl ?_
    refine AW_getR dX5_undo_6 (bI_0 B) fl_X5_31 (bR_0_3 B) ?_
    refine AW_getI dX5_undo_9 (bI_30 B) fl_X5_173 ?_
    refine AW_icmp_le (tgt := 17) dX5_undo_12 (by decide) (fun c => ?_) (fun c => ?_)
    · replace H := H.1 c
      refine AW_aload_n dX5_undo_17 rfl rfl ?_
      refine AW_getR dX5_undo_18 (bI_0 B) fl_X5_31 (bR_0_3 B) ?_
      refine AW_iload_n dX5_undo_21 rfl rfl ?_
      refine AW_vI (as := [(.int xa)]) (st := []) dX5_undo_22 (bI_30 B) (by decide) rfl mv_X1_takeBack mi_X1_takeBack ml_X5_182 (Nat.le_of_ble_eq_true rfl) rfl (Nat.le_refl 0) (Nat.le_refl 0) H (fun r2 v1 H => ?_)
      exact AW_rI dX5_undo_25 rfl rfl H
    · replace H := H.2 c
      refine AW_iconst (x := (-1)) dX5_undo_15 (by decide) ?_
      exact AW_rI dX5_undo_16 rfl rfl H
set_option maxRecDepth 100000 in
set_option maxHeartbeats 4000000 in
theorem vc_X5_heights {G : xG} {d : Nat} {z : xZ} {v : xS} {Q : Int32 → xS → Prop} (B : Base z) {xa : Int32} 
    (H : (oX4_names G d [(.ref 1), (.int xa)] z v (fun r2 v1 => ((¬ r2 = 0 → (oX4_open G d [(.ref 1), (.int xa), (.int (v1.1 30 0)), (.int 0)] z v1 (fun v3 => aX5_heights G (d + 1) 31 [some (.ref 0), some (.int xa), some (.int 0)] [] z v3 Q))) ∧ (r2 = 0 → Q (-1) v1))))) :
    oX5_heights G (d + 1) [(.ref 0), (.int xa)] z v Q := by
  refine Ok_of (own := RX5) (by decide) rfl (Nat.le_of_ble_eq_true rfl) ?_
  show AW G (d + 1) 0 0 yX5_heights cX5_heights 3 (some .int) RX5 0 0 0 [some (.ref 0), some (.int xa), none] [] z v _
  refine AW_aload_n dX5_heights_0 rfl rfl ?_
  refine AW_getR dX5_heights_1 (bI_0 B) fl_X5_14 (bR_0_0 B) ?_
  refine AW_iload_n dX5_heights_4 rfl rfl ?_
  refine AW_vI (as := [(.int xa)]) (st := []) dX5_heights_5 (bI_1 B) (by decide) rfl mv_X4_names mi_X4_names ml_X5_74 (Nat.le_of_ble_eq_true rfl) rfl (Nat.le_refl 0) (Nat.le_refl 0) H (fun r2 v1 H => ?_)
  refine AW_if_ne (tgt := 13) dX5_heights_8 (by decide) (fun c => ?_) (fun c => ?_)
  · replace H := H.1 c
    refine AW_aload_n dX5_heights_13 rfl rfl ?_
    refine AW_getR dX5_heights_14 (bI_0 B) fl_X5_14 (bR_0_0 B) ?_
    refine AW_iload_n dX5_heights_17 rfl rfl ?_
    refine AW_aload_n dX5_heights_18 rfl rfl ?_
    refine AW_getR dX5_heights_19 (bI_0 B) fl_X5_31 (bR_0_3 B) ?_
    refine AW_getI dX5_heights_22 (bI_30 B) fl_X5_127 ?_
    refine AW_iconst (x := 0) dX5_heights_25 (by decide) ?_
    refine AW_vV (as := [(.int xa), (.int (v1.1 30 0)), (.int 0)]) (st := []) dX5_heights_26 (bI_1 B) (by decide) rfl mv_X4_open mi_X4_open ml_X5_185 (Nat.le_of_ble_eq_true rfl) rfl (Nat.le_refl 0) (Nat.le_refl 0) H (fun v3 H => ?_)
    refine AW_iconst (x := 0) dX5_heights_29 (by decide) ?_
    refine AW_istore_n (L' := [some (.ref 0), some (.int xa), some (.int 0)]) dX5_heights_30 rfl (by decide) rfl ?_
    exact H
  · replace H := H.2 c
    refine AW_iconst (x := (-1)) dX5_heights_11 (by decide) ?_
    exact AW_rI dX5_heights_12 rfl rfl H
set_option maxRecDepth 100000 in
set_option maxHeartbeats 4000000 in
theorem vc_X5_heights_31 {G : xG} {d : Nat} {z : xZ} {v : xS} {Q : Int32 → xS → Prop} (B : Base z)  {l1 : Int32} {l2 : Int32} 
    (H : (((v.1 30 0) ≤ l2 → (oX1_allInches G d [(.ref 30)] z v (fun r2 v1 => Q r2 v1))) ∧ (¬ (v.1 30 0) ≤ l2 → (vp_in l2 10 ∧ (oX4_set G d [(.ref 1), (.int l1), (.int l2), (.int (v.1 31 l2.toNatClampNeg))] z v (fun v4 => aX5_heights G (d + 1) 31 [some (.ref 0), some (.int l1), some (.int (l2 + 1))] [] z v4 Q)))))) :
    aX5_heights G (d + 1) 31 [some (.ref 0), some (.int l1), some (.int l2)] [] z v Q := by
  refine AW_iload_n dX5_heights_31 rfl rfl ?_
  refine AW_aload_n dX5_heights_32 rfl rfl ?_
  refine AW_getR dX5_heights_33 (bI_0 B) fl_X5_31 (bR_0_3 B) ?_
  refine AW_getI dX5_heights_36 (bI_30 B) fl_X5_127 ?_
  refine AW_icmp_ge (tgt := 66) dX5_heights_39 (by decide) (fun c => ?_) (fun c => ?_)
  · replace H := H.1 c
    refine AW_aload_n dX5_heights_66 rfl rfl ?_
    refine AW_getR dX5_heights_67 (bI_0 B) fl_X5_31 (bR_0_3 B) ?_
    refine AW_vI (as := []) (st := []) dX5_heights_70 (bI_30 B) (by decide) rfl mv_X1_allInches mi_X1_allInches ml_X5_188 (Nat.le_of_ble_eq_true rfl) rfl (Nat.le_refl 0) (Nat.le_refl 0) H (fun r2 v1 H => ?_)
    exact AW_rI dX5_heights_73 rfl rfl H
  · replace H := H.2 c
    refine AW_aload_n dX5_heights_42 rfl rfl ?_
    refine AW_getR dX5_heights_43 (bI_0 B) fl_X5_14 (bR_0_0 B) ?_
    refine AW_iload_n dX5_heights_46 rfl rfl ?_
    refine AW_iload_n dX5_heights_47 rfl rfl ?_
    refine AW_aload_n dX5_heights_48 rfl rfl ?_
    refine AW_getR dX5_heights_49 (bI_0 B) fl_X5_31 (bR_0_3 B) ?_
    refine AW_getR dX5_heights_52 (bI_30 B) fl_X5_136 (bR_30_4 B) ?_
    refine AW_iload_n dX5_heights_55 rfl rfl ?_
    have hi3 := H.1
    replace H := H.2
    refine AW_iald dX5_heights_56 (bI_31 B) hi3 ?_
    refine AW_vV (as := [(.int l1), (.int l2), (.int (v.1 31 l2.toNatClampNeg))]) (st := []) dX5_heights_57 (bI_1 B) (by decide) rfl mv_X4_set mi_X4_set ml_X5_86 (Nat.le_of_ble_eq_true rfl) rfl (Nat.le_refl 0) (Nat.le_refl 0) H (fun v4 H => ?_)
    refine AW_iinc (x' := l2 + 1) (L' := [some (.ref 0), some (.int l1), some (.int (l2 + 1))]) dX5_heights_60 rfl rfl (by decide) rfl ?_
    refine AW_goto (tgt := 31) dX5_heights_63 (by decide) ?_
    exact H
set_option maxRecDepth 100000 in
set_option maxHeartbeats 4000000 in
theorem vc_X5_on {G : xG} {d : Nat} {z : xZ} {v : xS} {Q : Int32 → xS → Prop} (B : Base z) {xa : Int32} 
    (H : ((xa < 0 → Q (-1) v) ∧ (¬ xa < 0 → ((xa < 3 → (vp_in xa 3 ∧ ((z.2 100 xa.toNatClampNeg = none → (vp_in xa 3 ∧ (((v.1 101 xa.toNatClampNeg) = 0 → (oX5_find G d [(.ref 0), (.int 1)] z v (fun r5 v4 => Q r5 v4))) ∧ (¬ (v.1 101 xa.toNatClampNeg) = 0 → (oX5_find G d [(.ref 0), (.int 1)] z v (fun r7 v6 => Q r7 v6)))))) ∧ (∀ b2 : Nat, z.2 100 xa.toNatClampNeg = some b2 → (vp_in xa 3 ∧ (((v.1 101 xa.toNatClampNeg) = 0 → (oX5_find G d [(.ref 0), (.int 1)] z v (fun r10 v9 => Q r10 v9))) ∧ (¬ (v.1 101 xa.toNatClampNeg) = 0 → (oX1_becomeLike G d [(.ref 30), (.ref b2)] z v (fun v11 => Q (v11.1 30 3) v11))))))))) ∧ (¬ xa < 3 → Q (-1) v))))) :
    oX5_on G (d + 1) [(.ref 0), (.int xa)] z v Q := by
  refine Ok_of (own := RX5) (by decide) rfl (Nat.le_of_ble_eq_true rfl) ?_
  show AW G (d + 1) 0 0 yX5_on cX5_on 3 (some .int) RX5 0 0 0 [some (.ref 0), some (.int xa), none] [] z v _
  refine AW_iload_n dX5_on_0 rfl rfl ?_
  refine AW_if_lt (tgt := 9) dX5_on_1 (by decide) (fun c => ?_) (fun c => ?_)
  · replace H := H.1 c
    refine AW_iconst (x := (-1)) dX5_on_9 (by decide) ?_
    exact AW_rI dX5_on_10 rfl rfl H
  · replace H := H.2 c
    refine AW_iload_n dX5_on_4 rfl rfl ?_
    refine AW_iconst (x := 3) dX5_on_5 (by decide) ?_
    refine AW_icmp_lt (tgt := 11) dX5_on_6 (by decide) (fun c => ?_) (fun c => ?_)
    · replace H := H.1 c
      refine AW_aload_n dX5_on_11 rfl rfl ?_
      refine AW_getR dX5_on_12 (bI_0 B) fl_X5_51 (bR_0_6 B) ?_
      refine AW_iload_n dX5_on_15 rfl rfl ?_
      have hi1 := H.1
      replace H := H.2
      rcases hz : z.2 100 xa.toNatClampNeg with _ | b2
      · refine AW_aald dX5_on_16 (bI_100 B) (Or.inl rfl) hi1 (w := .null) (by rw [hz]; rfl) ?_
        replace H := H.1 hz
        refine AW_astoreN (L' := [some (.ref 0), some (.int xa), some .null]) dX5_on_17 rfl (by decide) rfl ?_
        refine AW_aload_n dX5_on_18 rfl rfl ?_
        refine AW_getR dX5_on_19 (bI_0 B) fl_X5_55 (bR_0_7 B) ?_
        refine AW_iload_n dX5_on_22 rfl rfl ?_
        have hi3 := H.1
        replace H := H.2
        refine AW_zald dX5_on_23 (bI_101 B) hi3 ?_
        refine AW_if_eq (tgt := 31) dX5_on_24 (by decide) (fun c => ?_) (fun c => ?_)
        · replace H := H.1 c
          refine AW_aload_n dX5_on_31 rfl rfl ?_
          refine AW_iconst (x := 1) dX5_on_32 (by decide) ?_
          refine AW_vI (as := [(.int 1)]) (st := []) dX5_on_33 (bI_0 B) (by decide) rfl mv_X5_find mi_X5_find ml_X5_96 (Nat.le_of_ble_eq_true rfl) rfl (Nat.le_refl 0) (Nat.le_refl 0) H (fun r5 v4 H => ?_)
          exact AW_rI dX5_on_36 rfl rfl H
        · replace H := H.2 c
          refine AW_aloadN dX5_on_27 rfl rfl ?_
          refine AW_ifnonnullN dX5_on_28 ?_
          refine AW_aload_n dX5_on_31 rfl rfl ?_
          refine AW_iconst (x := 1) dX5_on_32 (by decide) ?_
          refine AW_vI (as := [(.int 1)]) (st := []) dX5_on_33 (bI_0 B) (by decide) rfl mv_X5_find mi_X5_find ml_X5_96 (Nat.le_of_ble_eq_true rfl) rfl (Nat.le_refl 0) (Nat.le_refl 0) H (fun r7 v6 H => ?_)
          exact AW_rI dX5_on_36 rfl rfl H
      · refine AW_aald dX5_on_16 (bI_100 B) (Or.inl rfl) hi1 (w := .ref b2) (by rw [hz]; rfl) ?_
        replace H := H.2 b2 hz
        refine AW_astore_n (L' := [some (.ref 0), some (.int xa), some (.ref b2)]) dX5_on_17 rfl (by decide) rfl ?_
        refine AW_aload_n dX5_on_18 rfl rfl ?_
        refine AW_getR dX5_on_19 (bI_0 B) fl_X5_55 (bR_0_7 B) ?_
        refine AW_iload_n dX5_on_22 rfl rfl ?_
        have hi8 := H.1
        replace H := H.2
        refine AW_zald dX5_on_23 (bI_101 B) hi8 ?_
        refine AW_if_eq (tgt := 31) dX5_on_24 (by decide) (fun c => ?_) (fun c => ?_)
        · replace H := H.1 c
          refine AW_aload_n dX5_on_31 rfl rfl ?_
          refine AW_iconst (x := 1) dX5_on_32 (by decide) ?_
          refine AW_vI (as := [(.int 1)]) (st := []) dX5_on_33 (bI_0 B) (by decide) rfl mv_X5_find mi_X5_find ml_X5_96 (Nat.le_of_ble_eq_true rfl) rfl (Nat.le_refl 0) (Nat.le_refl 0) H (fun r10 v9 H => ?_)
          exact AW_rI dX5_on_36 rfl rfl H
        · replace H := H.2 c
          refine AW_aload_n dX5_on_27 rfl rfl ?_
          refine AW_ifnonnull (tgt := 37) dX5_on_28 (by decide) ?_
          refine AW_aload_n dX5_on_37 rfl rfl ?_
          refine AW_getR dX5_on_38 (bI_0 B) fl_X5_31 (bR_0_3 B) ?_
          refine AW_aload_n dX5_on_41 rfl rfl ?_
          refine AW_vV (as := [(.ref b2)]) (st := []) dX5_on_42 (bI_30 B) (by decide) rfl mv_X1_becomeLike mi_X1_becomeLike ml_X5_192 (Nat.le_of_ble_eq_true rfl) rfl (Nat.le_refl 0) (Nat.le_refl 0) H (fun v11 H => ?_)
          refine AW_aload_n dX5_on_45 rfl rfl ?_
          refine AW_getR dX5_on_46 (bI_0 B) fl_X5_31 (bR_0_3 B) ?_
          refine AW_getI dX5_on_49 (bI_30 B) fl_X5_173 ?_
          exact AW_rI dX5_on_52 rfl rfl H
    · replace H := H.2 c
      refine AW_iconst (x := (-1)) dX5_on_9 (by decide) ?_
      exact AW_rI dX5_on_10 rfl rfl H
set_option maxRecDepth 100000 in
set_option maxHeartbeats 4000000 in
theorem vc_X5_behind {G : xG} {d : Nat} {z : xZ} {v : xS} {Q : Int32 → xS → Prop} (B : Base z) {xa : Int32} {xb : Int32} {xc : Int32} 
    (H : (oX1_isProgram G d [(.ref 30), (.int xa)] z v (fun r2 v1 => ((r2 = 0 → Q (-1) v1) ∧ (¬ r2 = 0 → ((xb < 0 → Q (-1) v1) ∧ (¬ xb < 0 → ((60 < xb → Q (-1) v1) ∧ (¬ 60 < xb → (oX1_isSpot G d [(.ref 30), (.int xc)] z v1 (fun r4 v3 => ((¬ r4 = 0 → (oX0_repeat G d [(.ref 70), (.int xa), (.int xb)] z v3 (fun r6 v5 => (vp_in xc 10 ∧ (oX5_tell G d [(.ref 0), (.int (v5.1 71 xc.toNatClampNeg)), (.int r6)] z v5 (fun r9 v8 => Q r9 v8)))))) ∧ (r4 = 0 → Q (-1) v3))))))))))))) :
    oX5_behind G (d + 1) [(.ref 0), (.int xa), (.int xb), (.int xc)] z v Q := by
  refine Ok_of (own := RX5) (by decide) rfl (Nat.le_of_ble_eq_true rfl) ?_
  show AW G (d + 1) 0 0 yX5_behind cX5_behind 5 (some .int) RX5 0 0 0 [some (.ref 0), some (.int xa), some (.int xb), some (.int xc), none] [] z v _
  refine AW_aload_n dX5_behind_0 rfl rfl ?_
  refine AW_getR dX5_behind_1 (bI_0 B) fl_X5_31 (bR_0_3 B) ?_
  refine AW_iload_n dX5_behind_4 rfl rfl ?_
  refine AW_vI (as := [(.int xa)]) (st := []) dX5_behind_5 (bI_30 B) (by decide) rfl mv_X1_isProgram mi_X1_isProgram ml_X5_170 (Nat.le_of_ble_eq_true rfl) rfl (Nat.le_refl 0) (Nat.le_refl 0) H (fun r2 v1 H => ?_)
  refine AW_if_eq (tgt := 32) dX5_behind_8 (by decide) (fun c => ?_) (fun c => ?_)
  · replace H := H.1 c
    refine AW_iconst (x := (-1)) dX5_behind_32 (by decide) ?_
    exact AW_rI dX5_behind_33 rfl rfl H
  · replace H := H.2 c
    refine AW_iload_n dX5_behind_11 rfl rfl ?_
    refine AW_if_lt (tgt := 32) dX5_behind_12 (by decide) (fun c => ?_) (fun c => ?_)
    · replace H := H.1 c
      refine AW_iconst (x := (-1)) dX5_behind_32 (by decide) ?_
      exact AW_rI dX5_behind_33 rfl rfl H
    · replace H := H.2 c
      refine AW_iload_n dX5_behind_15 rfl rfl ?_
      refine AW_bipush (x := 60) dX5_behind_16 (by decide) ?_
      refine AW_icmp_gt (tgt := 32) dX5_behind_18 (by decide) (fun c => ?_) (fun c => ?_)
      · replace H := H.1 c
        refine AW_iconst (x := (-1)) dX5_behind_32 (by decide) ?_
        exact AW_rI dX5_behind_33 rfl rfl H
      · replace H := H.2 c
        refine AW_aload_n dX5_behind_21 rfl rfl ?_
        refine AW_getR dX5_behind_22 (bI_0 B) fl_X5_31 (bR_0_3 B) ?_
        refine AW_iload_n dX5_behind_25 rfl rfl ?_
        refine AW_vI (as := [(.int xc)]) (st := []) dX5_behind_26 (bI_30 B) (by decide) rfl mv_X1_isSpot mi_X1_isSpot ml_X5_130 (Nat.le_of_ble_eq_true rfl) rfl (Nat.le_refl 0) (Nat.le_refl 0) H (fun r4 v3 H => ?_)
        refine AW_if_ne (tgt := 34) dX5_behind_29 (by decide) (fun c => ?_) (fun c => ?_)
        · replace H := H.1 c
          refine AW_aload_n dX5_behind_34 rfl rfl ?_
          refine AW_getR dX5_behind_35 (bI_0 B) fl_X5_40 (bR_0_4 B) ?_
          refine AW_iload_n dX5_behind_38 rfl rfl ?_
          refine AW_iload_n dX5_behind_39 rfl rfl ?_
          refine AW_vI (as := [(.int xa), (.int xb)]) (st := []) dX5_behind_40 (bI_70 B) (by decide) rfl mv_X0_repeat mi_X0_repeat ml_X5_195 (Nat.le_of_ble_eq_true rfl) rfl (Nat.le_refl 0) (Nat.le_refl 0) H (fun r6 v5 H => ?_)
          refine AW_istore (L' := [some (.ref 0), some (.int xa), some (.int xb), some (.int xc), some (.int r6)]) dX5_behind_43 (by decide) rfl ?_
          refine AW_aload_n dX5_behind_45 rfl rfl ?_
          refine AW_aload_n dX5_behind_46 rfl rfl ?_
          refine AW_getR dX5_behind_47 (bI_0 B) fl_X5_40 (bR_0_4 B) ?_
          refine AW_getR dX5_behind_50 (bI_70 B) fl_X5_198 (bR_70_1 B) ?_
          refine AW_iload_n dX5_behind_53 rfl rfl ?_
          have hi7 := H.1
          replace H := H.2
          refine AW_iald dX5_behind_54 (bI_71 B) hi7 ?_
          refine AW_iload dX5_behind_55 rfl ?_
          refine AW_vI (as := [(.int (v5.1 71 xc.toNatClampNeg)), (.int r6)]) (st := []) dX5_behind_57 (bI_0 B) (by decide) rfl mv_X5_tell mi_X5_tell ml_X5_90 (Nat.le_of_ble_eq_true rfl) rfl (Nat.le_refl 0) (Nat.le_refl 0) H (fun r9 v8 H => ?_)
          exact AW_rI dX5_behind_60 rfl rfl H
        · replace H := H.2 c
          refine AW_iconst (x := (-1)) dX5_behind_32 (by decide) ?_
          exact AW_rI dX5_behind_33 rfl rfl H
set_option maxRecDepth 100000 in
set_option maxHeartbeats 4000000 in
theorem vc_X5_rest {G : xG} {d : Nat} {z : xZ} {v : xS} {Q : Int32 → xS → Prop} (B : Base z) {xa : Int32} 
    (H : (oX1_isProgram G d [(.ref 30), (.int xa)] z v (fun r2 v1 => ((¬ r2 = 0 → (oX0_restsBehind G d [(.ref 70), (.int xa)] z v1 (fun r4 v3 => ((¬ r4 = (-9) → (oX1_highestOf G d [(.ref 30), (.ref 71)] z v3 (fun r6 v5 => (oX5_tell G d [(.ref 0), (.int r4), (.int r6)] z v5 (fun r8 v7 => Q r8 v7))))) ∧ (r4 = (-9) → Q (-9) v3))))) ∧ (r2 = 0 → Q (-1) v1))))) :
    oX5_rest G (d + 1) [(.ref 0), (.int xa)] z v Q := by
  refine Ok_of (own := RX5) (by decide) rfl (Nat.le_of_ble_eq_true rfl) ?_
  show AW G (d + 1) 0 0 yX5_rest cX5_rest 3 (some .int) RX5 0 0 0 [some (.ref 0), some (.int xa), none] [] z v _
  refine AW_aload_n dX5_rest_0 rfl rfl ?_
  refine AW_getR dX5_rest_1 (bI_0 B) fl_X5_31 (bR_0_3 B) ?_
  refine AW_iload_n dX5_rest_4 rfl rfl ?_
  refine AW_vI (as := [(.int xa)]) (st := []) dX5_rest_5 (bI_30 B) (by decide) rfl mv_X1_isProgram mi_X1_isProgram ml_X5_170 (Nat.le_of_ble_eq_true rfl) rfl (Nat.le_refl 0) (Nat.le_refl 0) H (fun r2 v1 H => ?_)
  refine AW_if_ne (tgt := 13) dX5_rest_8 (by decide) (fun c => ?_) (fun c => ?_)
  · replace H := H.1 c
    refine AW_aload_n dX5_rest_13 rfl rfl ?_
    refine AW_getR dX5_rest_14 (bI_0 B) fl_X5_40 (bR_0_4 B) ?_
    refine AW_iload_n dX5_rest_17 rfl rfl ?_
    refine AW_vI (as := [(.int xa)]) (st := []) dX5_rest_18 (bI_70 B) (by decide) rfl mv_X0_restsBehind mi_X0_restsBehind ml_X5_201 (Nat.le_of_ble_eq_true rfl) rfl (Nat.le_refl 0) (Nat.le_refl 0) H (fun r4 v3 H => ?_)
    refine AW_istore_n (L' := [some (.ref 0), some (.int xa), some (.int r4)]) dX5_rest_21 rfl (by decide) rfl ?_
    refine AW_iload_n dX5_rest_22 rfl rfl ?_
    refine AW_bipush (x := (-9)) dX5_rest_23 (by decide) ?_
    refine AW_icmp_ne (tgt := 33) dX5_rest_25 (by decide) (fun c => ?_) (fun c => ?_)
    · replace H := H.1 c
      refine AW_aload_n dX5_rest_33 rfl rfl ?_
      refine AW_iload_n dX5_rest_34 rfl rfl ?_
      refine AW_aload_n dX5_rest_35 rfl rfl ?_
      refine AW_getR dX5_rest_36 (bI_0 B) fl_X5_31 (bR_0_3 B) ?_
      refine AW_aload_n dX5_rest_39 rfl rfl ?_
      refine AW_getR dX5_rest_40 (bI_0 B) fl_X5_40 (bR_0_4 B) ?_
      refine AW_getR dX5_rest_43 (bI_70 B) fl_X5_198 (bR_70_1 B) ?_
      refine AW_vI (as := [(.ref 71)]) (st := [(.int r4), (.ref 0)]) dX5_rest_46 (bI_30 B) (by decide) rfl mv_X1_highestOf mi_X1_highestOf ml_X5_204 (Nat.le_of_ble_eq_true rfl) rfl (Nat.le_refl 0) (Nat.le_refl 0) H (fun r6 v5 H => ?_)
      refine AW_vI (as := [(.int r4), (.int r6)]) (st := []) dX5_rest_49 (bI_0 B) (by decide) rfl mv_X5_tell mi_X5_tell ml_X5_90 (Nat.le_of_ble_eq_true rfl) rfl (Nat.le_refl 0) (Nat.le_refl 0) H (fun r8 v7 H => ?_)
      exact AW_rI dX5_rest_52 rfl rfl H
    · replace H := H.2 c
      refine AW_bipush (x := (-9)) dX5_rest_28 (by decide) ?_
      refine AW_goto (tgt := 52) dX5_rest_30 (by decide) ?_
      exact AW_rI dX5_rest_52 rfl rfl H
  · replace H := H.2 c
    refine AW_iconst (x := (-1)) dX5_rest_11 (by decide) ?_
    exact AW_rI dX5_rest_12 rfl rfl H
set_option maxRecDepth 100000 in
set_option maxHeartbeats 4000000 in
theorem vc_X5_round {G : xG} {d : Nat} {z : xZ} {v : xS} {Q : Int32 → xS → Prop} (B : Base z) {xa : Int32} 
    (H : (oX1_isProgram G d [(.ref 30), (.int xa)] z v (fun r2 v1 => ((¬ r2 = 0 → (oX0_comesRound G d [(.ref 70), (.int xa)] z v1 (fun r4 v3 => Q r4 v3))) ∧ (r2 = 0 → Q (-1) v1))))) :
    oX5_round G (d + 1) [(.ref 0), (.int xa)] z v Q := by
  refine Ok_of (own := RX5) (by decide) rfl (Nat.le_of_ble_eq_true rfl) ?_
  show AW G (d + 1) 0 0 yX5_round cX5_round 2 (some .int) RX5 0 0 0 [some (.ref 0), some (.int xa)] [] z v _
  refine AW_aload_n dX5_round_0 rfl rfl ?_
  refine AW_getR dX5_round_1 (bI_0 B) fl_X5_31 (bR_0_3 B) ?_
  refine AW_iload_n dX5_round_4 rfl rfl ?_
  refine AW_vI (as := [(.int xa)]) (st := []) dX5_round_5 (bI_30 B) (by decide) rfl mv_X1_isProgram mi_X1_isProgram ml_X5_170 (Nat.le_of_ble_eq_true rfl) rfl (Nat.le_refl 0) (Nat.le_refl 0) H (fun r2 v1 H => ?_)
  refine AW_if_ne (tgt := 13) dX5_round_8 (by decide) (fun c => ?_) (fun c => ?_)
  · replace H := H.1 c
    refine AW_aload_n dX5_round_13 rfl rfl ?_
    refine AW_getR dX5_round_14 (bI_0 B) fl_X5_40 (bR_0_4 B) ?_
    refine AW_iload_n dX5_round_17 rfl rfl ?_
    refine AW_vI (as := [(.int xa)]) (st := []) dX5_round_18 (bI_70 B) (by decide) rfl mv_X0_comesRound mi_X0_comesRound ml_X5_208 (Nat.le_of_ble_eq_true rfl) rfl (Nat.le_refl 0) (Nat.le_refl 0) H (fun r4 v3 H => ?_)
    exact AW_rI dX5_round_21 rfl rfl H
  · replace H := H.2 c
    refine AW_iconst (x := (-1)) dX5_round_11 (by decide) ?_
    exact AW_rI dX5_round_12 rfl rfl H
set_option maxRecDepth 100000 in
set_option maxHeartbeats 4000000 in
theorem vc_X5_highest {G : xG} {d : Nat} {z : xZ} {v : xS} {Q : Int32 → xS → Prop} (B : Base z) {xa : Int32} 
    (H : (oX1_isSpot G d [(.ref 30), (.int xa)] z v (fun r2 v1 => ((r2 = 0 → Q (-1) v1) ∧ (¬ r2 = 0 → (oX5_extreme G d [(.ref 0), (.int xa), (.int 1)] z v1 (fun r4 v3 => Q r4 v3))))))) :
    oX5_highest G (d + 1) [(.ref 0), (.int xa)] z v Q := by
  refine Ok_of (own := RX5) (by decide) rfl (Nat.le_of_ble_eq_true rfl) ?_
  show AW G (d + 1) 0 0 yX5_highest cX5_highest 2 (some .int) RX5 0 0 0 [some (.ref 0), some (.int xa)] [] z v _
  refine AW_aload_n dX5_highest_0 rfl rfl ?_
  refine AW_getR dX5_highest_1 (bI_0 B) fl_X5_31 (bR_0_3 B) ?_
  refine AW_iload_n dX5_highest_4 rfl rfl ?_
  refine AW_vI (as := [(.int xa)]) (st := []) dX5_highest_5 (bI_30 B) (by decide) rfl mv_X1_isSpot mi_X1_isSpot ml_X5_130 (Nat.le_of_ble_eq_true rfl) rfl (Nat.le_refl 0) (Nat.le_refl 0) H (fun r2 v1 H => ?_)
  refine AW_if_eq (tgt := 20) dX5_highest_8 (by decide) (fun c => ?_) (fun c => ?_)
  · replace H := H.1 c
    refine AW_iconst (x := (-1)) dX5_highest_20 (by decide) ?_
    exact AW_rI dX5_highest_21 rfl rfl H
  · replace H := H.2 c
    refine AW_aload_n dX5_highest_11 rfl rfl ?_
    refine AW_iload_n dX5_highest_12 rfl rfl ?_
    refine AW_iconst (x := 1) dX5_highest_13 (by decide) ?_
    refine AW_vI (as := [(.int xa), (.int 1)]) (st := []) dX5_highest_14 (bI_0 B) (by decide) rfl mv_X5_extreme mi_X5_extreme ml_X5_211 (Nat.le_of_ble_eq_true rfl) rfl (Nat.le_refl 0) (Nat.le_refl 0) H (fun r4 v3 H => ?_)
    refine AW_goto (tgt := 21) dX5_highest_17 (by decide) ?_
    exact AW_rI dX5_highest_21 rfl rfl H
set_option maxRecDepth 100000 in
set_option maxHeartbeats 4000000 in
theorem vc_X5_lowest {G : xG} {d : Nat} {z : xZ} {v : xS} {Q : Int32 → xS → Prop} (B : Base z) {xa : Int32} 
    (H : (oX1_isSpot G d [(.ref 30), (.int xa)] z v (fun r2 v1 => ((r2 = 0 → Q (-1) v1) ∧ (¬ r2 = 0 → (oX5_extreme G d [(.ref 0), (.int xa), (.int (-1))] z v1 (fun r4 v3 => Q r4 v3))))))) :
    oX5_lowest G (d + 1) [(.ref 0), (.int xa)] z v Q := by
  refine Ok_of (own := RX5) (by decide) rfl (Nat.le_of_ble_eq_true rfl) ?_
  show AW G (d + 1) 0 0 yX5_lowest cX5_lowest 2 (some .int) RX5 0 0 0 [some (.ref 0), some (.int xa)] [] z v _
  refine AW_aload_n dX5_lowest_0 rfl rfl ?_
  refine AW_getR dX5_lowest_1 (bI_0 B) fl_X5_31 (bR_0_3 B) ?_
  refine AW_iload_n dX5_lowest_4 rfl rfl ?_
  refine AW_vI (as := [(.int xa)]) (st := []) dX5_lowest_5 (bI_30 B) (by decide) rfl mv_X1_isSpot mi_X1_isSpot ml_X5_130 (Nat.le_of_ble_eq_true rfl) rfl (Nat.le_refl 0) (Nat.le_refl 0) H (fun r2 v1 H => ?_)
  refine AW_if_eq (tgt := 20) dX5_lowest_8 (by decide) (fun c => ?_) (fun c => ?_)
  · replace H := H.1 c
    refine AW_iconst (x := (-1)) dX5_lowest_20 (by decide) ?_
    exact AW_rI dX5_lowest_21 rfl rfl H
  · replace H := H.2 c
    refine AW_aload_n dX5_lowest_11 rfl rfl ?_
    refine AW_iload_n dX5_lowest_12 rfl rfl ?_
    refine AW_iconst (x := (-1)) dX5_lowest_13 (by decide) ?_
    refine AW_vI (as := [(.int xa), (.int (-1))]) (st := []) dX5_lowest_14 (bI_0 B) (by decide) rfl mv_X5_extreme mi_X5_extreme ml_X5_211 (Nat.le_of_ble_eq_true rfl) rfl (Nat.le_refl 0) (Nat.le_refl 0) H (fun r4 v3 H => ?_)
    refine AW_goto (tgt := 21) dX5_lowest_17 (by decide) ?_
    exact AW_rI dX5_lowest_21 rfl rfl H
set_option maxRecDepth 100000 in
set_option maxHeartbeats 4000000 in
theorem vc_X5_flat {G : xG} {d : Nat} {z : xZ} {v : xS} {Q : Int32 → xS → Prop} (B : Base z) {xa : Int32} {xb : Int32} 
    (H : (oX1_isSpotSet G d [(.ref 30), (.int xa)] z v (fun r2 v1 => ((r2 = 0 → Q (-1) v1) ∧ (¬ r2 = 0 → (oX4_names G d [(.ref 1), (.int xb)] z v1 (fun r4 v3 => ((¬ r4 = 0 → ((¬ (v3.1 30 0) = 0 → (oX2_aimFlat G d [(.ref 90), (.int xa)] z v3 (fun v5 => aX5_flat G (d + 1) 47 [some (.ref 0), some (.int xa), some (.int xb), some (.int 0)] [] z v5 Q))) ∧ ((v3.1 30 0) = 0 → Q (-4) v3))) ∧ (r4 = 0 → Q (-1) v3))))))))) :
    oX5_flat G (d + 1) [(.ref 0), (.int xa), (.int xb)] z v Q := by
  refine Ok_of (own := RX5) (by decide) rfl (Nat.le_of_ble_eq_true rfl) ?_
  show AW G (d + 1) 0 0 yX5_flat cX5_flat 4 (some .int) RX5 0 0 0 [some (.ref 0), some (.int xa), some (.int xb), none] [] z v _
  refine AW_aload_n dX5_flat_0 rfl rfl ?_
  refine AW_getR dX5_flat_1 (bI_0 B) fl_X5_31 (bR_0_3 B) ?_
  refine AW_iload_n dX5_flat_4 rfl rfl ?_
  refine AW_vI (as := [(.int xa)]) (st := []) dX5_flat_5 (bI_30 B) (by decide) rfl mv_X1_isSpotSet mi_X1_isSpotSet ml_X5_164 (Nat.le_of_ble_eq_true rfl) rfl (Nat.le_refl 0) (Nat.le_refl 0) H (fun r2 v1 H => ?_)
  refine AW_if_eq (tgt := 22) dX5_flat_8 (by decide) (fun c => ?_) (fun c => ?_)
  · replace H := H.1 c
    refine AW_iconst (x := (-1)) dX5_flat_22 (by decide) ?_
    exact AW_rI dX5_flat_23 rfl rfl H
  · replace H := H.2 c
    refine AW_aload_n dX5_flat_11 rfl rfl ?_
    refine AW_getR dX5_flat_12 (bI_0 B) fl_X5_14 (bR_0_0 B) ?_
    refine AW_iload_n dX5_flat_15 rfl rfl ?_
    refine AW_vI (as := [(.int xb)]) (st := []) dX5_flat_16 (bI_1 B) (by decide) rfl mv_X4_names mi_X4_names ml_X5_74 (Nat.le_of_ble_eq_true rfl) rfl (Nat.le_refl 0) (Nat.le_refl 0) H (fun r4 v3 H => ?_)
    refine AW_if_ne (tgt := 24) dX5_flat_19 (by decide) (fun c => ?_) (fun c => ?_)
    · replace H := H.1 c
      refine AW_aload_n dX5_flat_24 rfl rfl ?_
      refine AW_getR dX5_flat_25 (bI_0 B) fl_X5_31 (bR_0_3 B) ?_
      refine AW_getI dX5_flat_28 (bI_30 B) fl_X5_127 ?_
      refine AW_if_ne (tgt := 37) dX5_flat_31 (by decide) (fun c => ?_) (fun c => ?_)
      · replace H := H.1 c
        refine AW_aload_n dX5_flat_37 rfl rfl ?_
        refine AW_getR dX5_flat_38 (bI_0 B) fl_X5_47 (bR_0_5 B) ?_
        refine AW_iload_n dX5_flat_41 rfl rfl ?_
        refine AW_vV (as := [(.int xa)]) (st := []) dX5_flat_42 (bI_90 B) (by decide) rfl mv_X2_aimFlat mi_X2_aimFlat ml_X5_214 (Nat.le_of_ble_eq_true rfl) rfl (Nat.le_refl 0) (Nat.le_refl 0) H (fun v5 H => ?_)
        refine AW_iconst (x := 0) dX5_flat_45 (by decide) ?_
        refine AW_istore_n (L' := [some (.ref 0), some (.int xa), some (.int xb), some (.int 0)]) dX5_flat_46 rfl (by decide) rfl ?_
        exact H
      · replace H := H.2 c
        refine AW_bipush (x := (-4)) dX5_flat_34 (by decide) ?_
        exact AW_rI dX5_flat_36 rfl rfl H
    · replace H := H.2 c
      refine AW_iconst (x := (-1)) dX5_flat_22 (by decide) ?_
      exact AW_rI dX5_flat_23 rfl rfl H
set_option maxRecDepth 100000 in
set_option maxHeartbeats 4000000 in
theorem vc_X5_flat_47 {G : xG} {d : Nat} {z : xZ} {v : xS} {Q : Int32 → xS → Prop} (B : Base z)  {l1 : Int32} {l2 : Int32} {l3 : Int32} 
    (H : ((3 < l3 → Q (-9) v) ∧ (¬ 3 < l3 → (oX2_isFound G d [(.ref 90), (.int l3)] z v (fun r2 v1 => ((¬ r2 = 0 → (oX5_layPlan G d [(.ref 0), (.int l2), (.int l3)] z v1 (fun v3 => (oX5_tell G d [(.ref 0), (.int l3), (.int (v3.1 90 6))] z v3 (fun r5 v4 => Q r5 v4))))) ∧ (r2 = 0 → aX5_flat G (d + 1) 47 [some (.ref 0), some (.int l1), some (.int l2), some (.int (l3 + 1))] [] z v1 Q))))))) :
    aX5_flat G (d + 1) 47 [some (.ref 0), some (.int l1), some (.int l2), some (.int l3)] [] z v Q := by
  refine AW_iload_n dX5_flat_47 rfl rfl ?_
  refine AW_iconst (x := 3) dX5_flat_48 (by decide) ?_
  refine AW_icmp_gt (tgt := 91) dX5_flat_49 (by decide) (fun c => ?_) (fun c => ?_)
  · replace H := H.1 c
    refine AW_bipush (x := (-9)) dX5_flat_91 (by decide) ?_
    exact AW_rI dX5_flat_93 rfl rfl H
  · replace H := H.2 c
    refine AW_aload_n dX5_flat_52 rfl rfl ?_
    refine AW_getR dX5_flat_53 (bI_0 B) fl_X5_47 (bR_0_5 B) ?_
    refine AW_iload_n dX5_flat_56 rfl rfl ?_
    refine AW_vI (as := [(.int l3)]) (st := []) dX5_flat_57 (bI_90 B) (by decide) rfl mv_X2_isFound mi_X2_isFound ml_X5_217 (Nat.le_of_ble_eq_true rfl) rfl (Nat.le_refl 0) (Nat.le_refl 0) H (fun r2 v1 H => ?_)
    refine AW_if_ne (tgt := 66) dX5_flat_60 (by decide) (fun c => ?_) (fun c => ?_)
    · replace H := H.1 c
      refine AW_aload_n dX5_flat_66 rfl rfl ?_
      refine AW_iload_n dX5_flat_67 rfl rfl ?_
      refine AW_iload_n dX5_flat_68 rfl rfl ?_
      refine AW_vV (as := [(.int l2), (.int l3)]) (st := []) dX5_flat_69 (bI_0 B) (by decide) rfl mv_X5_layPlan mi_X5_layPlan ml_X5_220 (Nat.le_of_ble_eq_true rfl) rfl (Nat.le_refl 0) (Nat.le_refl 0) H (fun v3 H => ?_)
      refine AW_aload_n dX5_flat_72 rfl rfl ?_
      refine AW_iload_n dX5_flat_73 rfl rfl ?_
      refine AW_aload_n dX5_flat_74 rfl rfl ?_
      refine AW_getR dX5_flat_75 (bI_0 B) fl_X5_47 (bR_0_5 B) ?_
      refine AW_getI dX5_flat_78 (bI_90 B) fl_X5_223 ?_
      refine AW_vI (as := [(.int l3), (.int (v3.1 90 6))]) (st := []) dX5_flat_81 (bI_0 B) (by decide) rfl mv_X5_tell mi_X5_tell ml_X5_90 (Nat.le_of_ble_eq_true rfl) rfl (Nat.le_refl 0) (Nat.le_refl 0) H (fun r5 v4 H => ?_)
      exact AW_rI dX5_flat_84 rfl rfl H
    · replace H := H.2 c
      refine AW_goto (tgt := 85) dX5_flat_63 (by decide) ?_
      refine AW_iinc (x' := l3 + 1) (L' := [some (.ref 0), some (.int l1), some (.int l2), some (.int (l3 + 1))]) dX5_flat_85 rfl rfl (by decide) rfl ?_
      refine AW_goto (tgt := 47) dX5_flat_88 (by decide) ?_
      exact H
set_option maxRecDepth 100000 in
set_option maxHeartbeats 4000000 in
theorem vc_X5_raise {G : xG} {d : Nat} {z : xZ} {v : xS} {Q : Int32 → xS → Prop} (B : Base z) {xa : Int32} {xb : Int32} {xc : Int32} {xd : Int32} 
    (H : (oX1_isSpot G d [(.ref 30), (.int xa)] z v (fun r2 v1 => ((r2 = 0 → Q (-1) v1) ∧ (¬ r2 = 0 → ((xb < 0 → Q (-1) v1) ∧ (¬ xb < 0 → ((xb ≤ 99 → ((xc < 0 → Q (-1) v1) ∧ (¬ xc < 0 → ((3 < xc → Q (-1) v1) ∧ (¬ 3 < xc → (oX4_names G d [(.ref 1), (.int xd)] z v1 (fun r4 v3 => ((¬ r4 = 0 → (oX2_aimHigh G d [(.ref 90), (.int xa), (.int xb)] z v3 (fun v5 => (oX2_isFound G d [(.ref 90), (.int xc)] z v5 (fun r7 v6 => ((¬ r7 = 0 → (oX5_layPlan G d [(.ref 0), (.int xd), (.int xc)] z v6 (fun v8 => Q (v8.1 90 6) v8))) ∧ (r7 = 0 → Q (-9) v6))))))) ∧ (r4 = 0 → Q (-1) v3))))))))) ∧ (¬ xb ≤ 99 → Q (-1) v1))))))))) :
    oX5_raise G (d + 1) [(.ref 0), (.int xa), (.int xb), (.int xc), (.int xd)] z v Q := by
  refine Ok_of (own := RX5) (by decide) rfl (Nat.le_of_ble_eq_true rfl) ?_
  show AW G (d + 1) 0 0 yX5_raise cX5_raise 5 (some .int) RX5 0 0 0 [some (.ref 0), some (.int xa), some (.int xb), some (.int xc), some (.int xd)] [] z v _
  refine AW_aload_n dX5_raise_0 rfl rfl ?_
  refine AW_getR dX5_raise_1 (bI_0 B) fl_X5_31 (bR_0_3 B) ?_
  refine AW_iload_n dX5_raise_4 rfl rfl ?_
  refine AW_vI (as := [(.int xa)]) (st := []) dX5_raise_5 (bI_30 B) (by decide) rfl mv_X1_isSpot mi_X1_isSpot ml_X5_130 (Nat.le_of_ble_eq_true rfl) rfl (Nat.le_refl 0) (Nat.le_refl 0) H (fun r2 v1 H => ?_)
  refine AW_if_eq (tgt := 21) dX5_raise_8 (by decide) (fun c => ?_) (fun c => ?_)
  · replace H := H.1 c
    refine AW_iconst (x := (-1)) dX5_raise_21 (by decide) ?_
    exact AW_rI dX5_raise_22 rfl rfl H
  · replace H := H.2 c
    refine AW_iload_n dX5_raise_11 rfl rfl ?_
    refine AW_if_lt (tgt := 21) dX5_raise_12 (by decide) (fun c => ?_) (fun c => ?_)
    · replace H := H.1 c
      refine AW_iconst (x := (-1)) dX5_raise_21 (by decide) ?_
      exact AW_rI dX5_raise_22 rfl rfl H
    · replace H := H.2 c
      refine AW_iload_n dX5_raise_15 rfl rfl ?_
      refine AW_bipush (x := 99) dX5_raise_16 (by decide) ?_
      refine AW_icmp_le (tgt := 23) dX5_raise_18 (by decide) (fun c => ?_) (fun c => ?_)
      · replace H := H.1 c
        refine AW_iload_n dX5_raise_23 rfl rfl ?_
        refine AW_if_lt (tgt := 44) dX5_raise_24 (by decide) (fun c => ?_) (fun c => ?_)
        · replace H := H.1 c
          refine AW_iconst (x := (-1)) dX5_raise_44 (by decide) ?_
          exact AW_rI dX5_raise_45 rfl rfl H
        · replace H := H.2 c
          refine AW_iload_n dX5_raise_27 rfl rfl ?_
          refine AW_iconst (x := 3) dX5_raise_28 (by decide) ?_
          refine AW_icmp_gt (tgt := 44) dX5_raise_29 (by decide) (fun c => ?_) (fun c => ?_)
          · replace H := H.1 c
            refine AW_iconst (x := (-1)) dX5_raise_44 (by decide) ?_
            exact AW_rI dX5_raise_45 rfl rfl H
          · replace H := H.2 c
            refine AW_aload_n dX5_raise_32 rfl rfl ?_
            refine AW_getR dX5_raise_33 (bI_0 B) fl_X5_14 (bR_0_0 B) ?_
            refine AW_iload dX5_raise_36 rfl ?_
            refine AW_vI (as := [(.int xd)]) (st := []) dX5_raise_38 (bI_1 B) (by decide) rfl mv_X4_names mi_X4_names ml_X5_74 (Nat.le_of_ble_eq_true rfl) rfl (Nat.le_refl 0) (Nat.le_refl 0) H (fun r4 v3 H => ?_)
            refine AW_if_ne (tgt := 46) dX5_raise_41 (by decide) (fun c => ?_) (fun c => ?_)
            · replace H := H.1 c
              refine AW_aload_n dX5_raise_46 rfl rfl ?_
              refine AW_getR dX5_raise_47 (bI_0 B) fl_X5_47 (bR_0_5 B) ?_
              refine AW_iload_n dX5_raise_50 rfl rfl ?_
              refine AW_iload_n dX5_raise_51 rfl rfl ?_
              refine AW_vV (as := [(.int xa), (.int xb)]) (st := []) dX5_raise_52 (bI_90 B) (by decide) rfl mv_X2_aimHigh mi_X2_aimHigh ml_X5_226 (Nat.le_of_ble_eq_true rfl) rfl (Nat.le_refl 0) (Nat.le_refl 0) H (fun v5 H => ?_)
              refine AW_aload_n dX5_raise_55 rfl rfl ?_
              refine AW_getR dX5_raise_56 (bI_0 B) fl_X5_47 (bR_0_5 B) ?_
              refine AW_iload_n dX5_raise_59 rfl rfl ?_
              refine AW_vI (as := [(.int xc)]) (st := []) dX5_raise_60 (bI_90 B) (by decide) rfl mv_X2_isFound mi_X2_isFound ml_X5_217 (Nat.le_of_ble_eq_true rfl) rfl (Nat.le_refl 0) (Nat.le_refl 0) H (fun r7 v6 H => ?_)
              refine AW_if_ne (tgt := 69) dX5_raise_63 (by decide) (fun c => ?_) (fun c => ?_)
              · replace H := H.1 c
                refine AW_aload_n dX5_raise_69 rfl rfl ?_
                refine AW_iload dX5_raise_70 rfl ?_
                refine AW_iload_n dX5_raise_72 rfl rfl ?_
                refine AW_vV (as := [(.int xd), (.int xc)]) (st := []) dX5_raise_73 (bI_0 B) (by decide) rfl mv_X5_layPlan mi_X5_layPlan ml_X5_220 (Nat.le_of_ble_eq_true rfl) rfl (Nat.le_refl 0) (Nat.le_refl 0) H (fun v8 H => ?_)
                refine AW_aload_n dX5_raise_76 rfl rfl ?_
                refine AW_getR dX5_raise_77 (bI_0 B) fl_X5_47 (bR_0_5 B) ?_
                refine AW_getI dX5_raise_80 (bI_90 B) fl_X5_223 ?_
                exact AW_rI dX5_raise_83 rfl rfl H
              · replace H := H.2 c
                refine AW_bipush (x := (-9)) dX5_raise_66 (by decide) ?_
                exact AW_rI dX5_raise_68 rfl rfl H
            · replace H := H.2 c
              refine AW_iconst (x := (-1)) dX5_raise_44 (by decide) ?_
              exact AW_rI dX5_raise_45 rfl rfl H
      · replace H := H.2 c
        refine AW_iconst (x := (-1)) dX5_raise_21 (by decide) ?_
        exact AW_rI dX5_raise_22 rfl rfl H
set_option maxRecDepth 100000 in
set_option maxHeartbeats 4000000 in
theorem vc_X5_keeps {G : xG} {d : Nat} {z : xZ} {v : xS} {Q : Int32 → xS → Prop} (B : Base z) {xa : Int32} 
    (H : (oX1_isSpot G d [(.ref 30), (.int xa)] z v (fun r2 v1 => ((¬ r2 = 0 → (oX0_loudestKeeping G d [(.ref 70), (.int xa)] z v1 (fun r4 v3 => (oX1_breathOf G d [(.ref 30), (.int r4)] z v3 (fun r6 v5 => (oX5_tell G d [(.ref 0), (.int r6), (.int r4)] z v5 (fun r8 v7 => Q r8 v7))))))) ∧ (r2 = 0 → Q (-1) v1))))) :
    oX5_keeps G (d + 1) [(.ref 0), (.int xa)] z v Q := by
  refine Ok_of (own := RX5) (by decide) rfl (Nat.le_of_ble_eq_true rfl) ?_
  show AW G (d + 1) 0 0 yX5_keeps cX5_keeps 3 (some .int) RX5 0 0 0 [some (.ref 0), some (.int xa), none] [] z v _
  refine AW_aload_n dX5_keeps_0 rfl rfl ?_
  refine AW_getR dX5_keeps_1 (bI_0 B) fl_X5_31 (bR_0_3 B) ?_
  refine AW_iload_n dX5_keeps_4 rfl rfl ?_
  refine AW_vI (as := [(.int xa)]) (st := []) dX5_keeps_5 (bI_30 B) (by decide) rfl mv_X1_isSpot mi_X1_isSpot ml_X5_130 (Nat.le_of_ble_eq_true rfl) rfl (Nat.le_refl 0) (Nat.le_refl 0) H (fun r2 v1 H => ?_)
  refine AW_if_ne (tgt := 13) dX5_keeps_8 (by decide) (fun c => ?_) (fun c => ?_)
  · replace H := H.1 c
    refine AW_aload_n dX5_keeps_13 rfl rfl ?_
    refine AW_getR dX5_keeps_14 (bI_0 B) fl_X5_40 (bR_0_4 B) ?_
    refine AW_iload_n dX5_keeps_17 rfl rfl ?_
    refine AW_vI (as := [(.int xa)]) (st := []) dX5_keeps_18 (bI_70 B) (by decide) rfl mv_X0_loudestKeeping mi_X0_loudestKeeping ml_X5_229 (Nat.le_of_ble_eq_true rfl) rfl (Nat.le_refl 0) (Nat.le_refl 0) H (fun r4 v3 H => ?_)
    refine AW_istore_n (L' := [some (.ref 0), some (.int xa), some (.int r4)]) dX5_keeps_21 rfl (by decide) rfl ?_
    refine AW_aload_n dX5_keeps_22 rfl rfl ?_
    refine AW_aload_n dX5_keeps_23 rfl rfl ?_
    refine AW_getR dX5_keeps_24 (bI_0 B) fl_X5_31 (bR_0_3 B) ?_
    refine AW_iload_n dX5_keeps_27 rfl rfl ?_
    refine AW_vI (as := [(.int r4)]) (st := [(.ref 0)]) dX5_keeps_28 (bI_30 B) (by decide) rfl mv_X1_breathOf mi_X1_breathOf ml_X5_179 (Nat.le_of_ble_eq_true rfl) rfl (Nat.le_refl 0) (Nat.le_refl 0) H (fun r6 v5 H => ?_)
    refine AW_iload_n dX5_keeps_31 rfl rfl ?_
    refine AW_vI (as := [(.int r6), (.int r4)]) (st := []) dX5_keeps_32 (bI_0 B) (by decide) rfl mv_X5_tell mi_X5_tell ml_X5_90 (Nat.le_of_ble_eq_true rfl) rfl (Nat.le_refl 0) (Nat.le_refl 0) H (fun r8 v7 H => ?_)
    exact AW_rI dX5_keeps_35 rfl rfl H
  · replace H := H.2 c
    refine AW_iconst (x := (-1)) dX5_keeps_11 (by decide) ?_
    exact AW_rI dX5_keeps_12 rfl rfl H
set_option maxRecDepth 100000 in
set_option maxHeartbeats 4000000 in
theorem vc_X5_rivals {G : xG} {d : Nat} {z : xZ} {v : xS} {Q : Int32 → xS → Prop} (B : Base z) {xa : Int32} {xb : Int32} {xc : Int32} {xd : Int32} 
    (H : (oX1_isBand G d [(.ref 30), (.int xa)] z v (fun r2 v1 => ((r2 = 0 → Q (-1) v1) ∧ (¬ r2 = 0 → (oX1_isBand G d [(.ref 30), (.int xb)] z v1 (fun r4 v3 => ((r4 = 0 → Q (-1) v3) ∧ (¬ r4 = 0 → ((¬ xa = xb → (oX1_isSpot G d [(.ref 30), (.int xc)] z v3 (fun r6 v5 => ((r6 = 0 → Q (-1) v5) ∧ (¬ r6 = 0 → ((xd < 0 → Q (-1) v5) ∧ (¬ xd < 0 → ((xd ≤ 6 → (oX0_duel G d [(.ref 70), (.int xa), (.int xb), (.int xc), (.int xd)] z v5 (fun r8 v7 => (oX5_tell G d [(.ref 0), (.int r8), (.int (v7.1 70 7))] z v7 (fun r10 v9 => Q r10 v9))))) ∧ (¬ xd ≤ 6 → Q (-1) v5))))))))) ∧ (xa = xb → Q (-1) v3))))))))))) :
    oX5_rivals G (d + 1) [(.ref 0), (.int xa), (.int xb), (.int xc), (.int xd)] z v Q := by
  refine Ok_of (own := RX5) (by decide) rfl (Nat.le_of_ble_eq_true rfl) ?_
  show AW G (d + 1) 0 0 yX5_rivals cX5_rivals 6 (some .int) RX5 0 0 0 [some (.ref 0), some (.int xa), some (.int xb), some (.int xc), some (.int xd), none] [] z v _
  refine AW_aload_n dX5_rivals_0 rfl rfl ?_
  refine AW_getR dX5_rivals_1 (bI_0 B) fl_X5_31 (bR_0_3 B) ?_
  refine AW_iload_n dX5_rivals_4 rfl rfl ?_
  refine AW_vI (as := [(.int xa)]) (st := []) dX5_rivals_5 (bI_30 B) (by decide) rfl mv_X1_isBand mi_X1_isBand ml_X5_139 (Nat.le_of_ble_eq_true rfl) rfl (Nat.le_refl 0) (Nat.le_refl 0) H (fun r2 v1 H => ?_)
  refine AW_if_eq (tgt := 27) dX5_rivals_8 (by decide) (fun c => ?_) (fun c => ?_)
  · replace H := H.1 c
    refine AW_iconst (x := (-1)) dX5_rivals_27 (by decide) ?_
    exact AW_rI dX5_rivals_28 rfl rfl H
  · replace H := H.2 c
    refine AW_aload_n dX5_rivals_11 rfl rfl ?_
    refine AW_getR dX5_rivals_12 (bI_0 B) fl_X5_31 (bR_0_3 B) ?_
    refine AW_iload_n dX5_rivals_15 rfl rfl ?_
    refine AW_vI (as := [(.int xb)]) (st := []) dX5_rivals_16 (bI_30 B) (by decide) rfl mv_X1_isBand mi_X1_isBand ml_X5_139 (Nat.le_of_ble_eq_true rfl) rfl (Nat.le_refl 0) (Nat.le_refl 0) H (fun r4 v3 H => ?_)
    refine AW_if_eq (tgt := 27) dX5_rivals_19 (by decide) (fun c => ?_) (fun c => ?_)
    · replace H := H.1 c
      refine AW_iconst (x := (-1)) dX5_rivals_27 (by decide) ?_
      exact AW_rI dX5_rivals_28 rfl rfl H
    · replace H := H.2 c
      refine AW_iload_n dX5_rivals_22 rfl rfl ?_
      refine AW_iload_n dX5_rivals_23 rfl rfl ?_
      refine AW_icmp_ne (tgt := 29) dX5_rivals_24 (by decide) (fun c => ?_) (fun c => ?_)
      · replace H := H.1 c
        refine AW_aload_n dX5_rivals_29 rfl rfl ?_
        refine AW_getR dX5_rivals_30 (bI_0 B) fl_X5_31 (bR_0_3 B) ?_
        refine AW_iload_n dX5_rivals_33 rfl rfl ?_
        refine AW_vI (as := [(.int xc)]) (st := []) dX5_rivals_34 (bI_30 B) (by decide) rfl mv_X1_isSpot mi_X1_isSpot ml_X5_130 (Nat.le_of_ble_eq_true rfl) rfl (Nat.le_refl 0) (Nat.le_refl 0) H (fun r6 v5 H => ?_)
        refine AW_if_eq (tgt := 52) dX5_rivals_37 (by decide) (fun c => ?_) (fun c => ?_)
        · replace H := H.1 c
          refine AW_iconst (x := (-1)) dX5_rivals_52 (by decide) ?_
          exact AW_rI dX5_rivals_53 rfl rfl H
        · replace H := H.2 c
          refine AW_iload dX5_rivals_40 rfl ?_
          refine AW_if_lt (tgt := 52) dX5_rivals_42 (by decide) (fun c => ?_) (fun c => ?_)
          · replace H := H.1 c
            refine AW_iconst (x := (-1)) dX5_rivals_52 (by decide) ?_
            exact AW_rI dX5_rivals_53 rfl rfl H
          · replace H := H.2 c
            refine AW_iload dX5_rivals_45 rfl ?_
            refine AW_bipush (x := 6) dX5_rivals_47 (by decide) ?_
            refine AW_icmp_le (tgt := 54) dX5_rivals_49 (by decide) (fun c => ?_) (fun c => ?_)
            · replace H := H.1 c
              refine AW_aload_n dX5_rivals_54 rfl rfl ?_
              refine AW_getR dX5_rivals_55 (bI_0 B) fl_X5_40 (bR_0_4 B) ?_
              refine AW_iload_n dX5_rivals_58 rfl rfl ?_
              refine AW_iload_n dX5_rivals_59 rfl rfl ?_
              refine AW_iload_n dX5_rivals_60 rfl rfl ?_
              refine AW_iload dX5_rivals_61 rfl ?_
              refine AW_vI (as := [(.int xa), (.int xb), (.int xc), (.int xd)]) (st := []) dX5_rivals_63 (bI_70 B) (by decide) rfl mv_X0_duel mi_X0_duel ml_X5_232 (Nat.le_of_ble_eq_true rfl) rfl (Nat.le_refl 0) (Nat.le_refl 0) H (fun r8 v7 H => ?_)
              refine AW_istore (L' := [some (.ref 0), some (.int xa), some (.int xb), some (.int xc), some (.int xd), some (.int r8)]) dX5_rivals_66 (by decide) rfl ?_
              refine AW_aload_n dX5_rivals_68 rfl rfl ?_
              refine AW_iload dX5_rivals_69 rfl ?_
              refine AW_aload_n dX5_rivals_71 rfl rfl ?_
              refine AW_getR dX5_rivals_72 (bI_0 B) fl_X5_40 (bR_0_4 B) ?_
              refine AW_getI dX5_rivals_75 (bI_70 B) fl_X5_236 ?_
              refine AW_vI (as := [(.int r8), (.int (v7.1 70 7))]) (st := []) dX5_rivals_78 (bI_0 B) (by decide) rfl mv_X5_tell mi_X5_tell ml_X5_90 (Nat.le_of_ble_eq_true rfl) rfl (Nat.le_refl 0) (Nat.le_refl 0) H (fun r10 v9 H => ?_)
              exact AW_rI dX5_rivals_81 rfl rfl H
            · replace H := H.2 c
              refine AW_iconst (x := (-1)) dX5_rivals_52 (by decide) ?_
              exact AW_rI dX5_rivals_53 rfl rfl H
      · replace H := H.2 c
        refine AW_iconst (x := (-1)) dX5_rivals_27 (by decide) ?_
        exact AW_rI dX5_rivals_28 rfl rfl H
set_option maxRecDepth 100000 in
set_option maxHeartbeats 4000000 in
theorem vc_X5_played {G : xG} {d : Nat} {z : xZ} {v : xS} {Q : Int32 → xS → Prop} (B : Base z) {xa : Int32} 
    (H : (oX5_groundRefusal G d [(.ref 0), (.int xa)] z v (fun r2 v1 => ((r2 = 0 → (oX1_programs G d [(.ref 30)] z v1 (fun r4 v3 => aX5_played G (d + 1) 30 [some (.ref 0), some (.int xa), some (.int r2), some (.int 0), some (.int (-9)), some (.int r4), some (.int 0)] [] z v3 Q))) ∧ (¬ r2 = 0 → Q r2 v1))))) :
    oX5_played G (d + 1) [(.ref 0), (.int xa)] z v Q := by
  refine Ok_of (own := RX5) (by decide) rfl (Nat.le_of_ble_eq_true rfl) ?_
  show AW G (d + 1) 0 0 yX5_played cX5_played 7 (some .int) RX5 0 0 0 [some (.ref 0), some (.int xa), none, none, none, none, none] [] z v _
  refine AW_aload_n dX5_played_0 rfl rfl ?_
  refine AW_iload_n dX5_played_1 rfl rfl ?_
  refine AW_vI (as := [(.int xa)]) (st := []) dX5_played_2 (bI_0 B) (by decide) rfl mv_X5_groundRefusal mi_X5_groundRefusal ml_X5_239 (Nat.le_of_ble_eq_true rfl) rfl (Nat.le_refl 0) (Nat.le_refl 0) H (fun r2 v1 H => ?_)
  refine AW_istore_n (L' := [some (.ref 0), some (.int xa), some (.int r2), none, none, none, none]) dX5_played_5 rfl (by decide) rfl ?_
  refine AW_iload_n dX5_played_6 rfl rfl ?_
  refine AW_if_eq (tgt := 12) dX5_played_7 (by decide) (fun c => ?_) (fun c => ?_)
  · replace H := H.1 c
    refine AW_iconst (x := 0) dX5_played_12 (by decide) ?_
    refine AW_istore_n (L' := [some (.ref 0), some (.int xa), some (.int r2), some (.int 0), none, none, none]) dX5_played_13 rfl (by decide) rfl ?_
    refine AW_bipush (x := (-9)) dX5_played_14 (by decide) ?_
    refine AW_istore (L' := [some (.ref 0), some (.int xa), some (.int r2), some (.int 0), some (.int (-9)), none, none]) dX5_played_16 (by decide) rfl ?_
    refine AW_aload_n dX5_played_18 rfl rfl ?_
    refine AW_getR dX5_played_19 (bI_0 B) fl_X5_31 (bR_0_3 B) ?_
    refine AW_vI (as := []) (st := []) dX5_played_22 (bI_30 B) (by decide) rfl mv_X1_programs mi_X1_programs ml_X5_242 (Nat.le_of_ble_eq_true rfl) rfl (Nat.le_refl 0) (Nat.le_refl 0) H (fun r4 v3 H => ?_)
    refine AW_istore (L' := [some (.ref 0), some (.int xa), some (.int r2), some (.int 0), some (.int (-9)), some (.int r4), none]) dX5_played_25 (by decide) rfl ?_
    refine AW_iconst (x := 0) dX5_played_27 (by decide) ?_
    refine AW_istore (L' := [some (.ref 0), some (.int xa), some (.int r2), some (.int 0), some (.int (-9)), some (.int r4), some (.int 0)]) dX5_played_28 (by decide) rfl ?_
    exact H
  · replace H := H.2 c
    refine AW_iload_n dX5_played_10 rfl rfl ?_
    exact AW_rI dX5_played_11 rfl rfl H
set_option maxRecDepth 100000 in
set_option maxHeartbeats 4000000 in
theorem vc_X5_played_30 {G : xG} {d : Nat} {z : xZ} {v : xS} {Q : Int32 → xS → Prop} (B : Base z)  {l1 : Int32} {l2 : Int32} {l3 : Int32} {l4 : Int32} {l5 : Int32} {l6 : Int32} 
    (H : ((l5 ≤ l6 → (oX5_tell G d [(.ref 0), (.int l3), (.int l4)] z v (fun r2 v1 => Q r2 v1))) ∧ (¬ l5 ≤ l6 → (oX0_repeat G d [(.ref 70), (.int l6), (.int 1)] z v (fun r4 v3 => (oX5_isGroundOf G d [(.ref 0), (.int l1), (.ref 71)] z v3 (fun r6 v5 => ((¬ r6 = 0 → ((¬ l3 = 0 → aX5_played G (d + 1) 30 [some (.ref 0), some (.int l1), some (.int l2), some (.int (l3 + 1)), some (.int l4), some (.int l5), some (.int (l6 + 1))] [] z v5 Q) ∧ (l3 = 0 → aX5_played G (d + 1) 30 [some (.ref 0), some (.int l1), some (.int l2), some (.int (l3 + 1)), some (.int l6), some (.int l5), some (.int (l6 + 1))] [] z v5 Q))) ∧ (r6 = 0 → aX5_played G (d + 1) 30 [some (.ref 0), some (.int l1), some (.int l2), some (.int l3), some (.int l4), some (.int l5), some (.int (l6 + 1))] [] z v5 Q))))))))) :
    aX5_played G (d + 1) 30 [some (.ref 0), some (.int l1), some (.int l2), some (.int l3), some (.int l4), some (.int l5), some (.int l6)] [] z v Q := by
  refine AW_iload dX5_played_30 rfl ?_
  refine AW_iload dX5_played_32 rfl ?_
  refine AW_icmp_ge (tgt := 83) dX5_played_34 (by decide) (fun c => ?_) (fun c => ?_)
  · replace H := H.1 c
    refine AW_aload_n dX5_played_83 rfl rfl ?_
    refine AW_iload_n dX5_played_84 rfl rfl ?_
    refine AW_iload dX5_played_85 rfl ?_
    refine AW_vI (as := [(.int l3), (.int l4)]) (st := []) dX5_played_87 (bI_0 B) (by decide) rfl mv_X5_tell mi_X5_tell ml_X5_90 (Nat.le_of_ble_eq_true rfl) rfl (Nat.le_refl 0) (Nat.le_refl 0) H (fun r2 v1 H => ?_)
    exact AW_rI dX5_played_90 rfl rfl H
  · replace H := H.2 c
    refine AW_aload_n dX5_played_37 rfl rfl ?_
    refine AW_getR dX5_played_38 (bI_0 B) fl_X5_40 (bR_0_4 B) ?_
    refine AW_iload dX5_played_41 rfl ?_
    refine AW_iconst (x := 1) dX5_played_43 (by decide) ?_
    refine AW_vI (as := [(.int l6), (.int 1)]) (st := []) dX5_played_44 (bI_70 B) (by decide) rfl mv_X0_repeat mi_X0_repeat ml_X5_195 (Nat.le_of_ble_eq_true rfl) rfl (Nat.le_refl 0) (Nat.le_refl 0) H (fun r4 v3 H => ?_)
    refine AW_pop dX5_played_47 rfl ?_
    refine AW_aload_n dX5_played_48 rfl rfl ?_
    refine AW_iload_n dX5_played_49 rfl rfl ?_
    refine AW_aload_n dX5_played_50 rfl rfl ?_
    refine AW_getR dX5_played_51 (bI_0 B) fl_X5_40 (bR_0_4 B) ?_
    refine AW_getR dX5_played_54 (bI_70 B) fl_X5_198 (bR_70_1 B) ?_
    refine AW_vI (as := [(.int l1), (.ref 71)]) (st := []) dX5_played_57 (bI_0 B) (by decide) rfl mv_X5_isGroundOf mi_X5_isGroundOf ml_X5_245 (Nat.le_of_ble_eq_true rfl) rfl (Nat.le_refl 0) (Nat.le_refl 0) H (fun r6 v5 H => ?_)
    refine AW_if_ne (tgt := 66) dX5_played_60 (by decide) (fun c => ?_) (fun c => ?_)
    · replace H := H.1 c
      refine AW_iload_n dX5_played_66 rfl rfl ?_
      refine AW_if_ne (tgt := 74) dX5_played_67 (by decide) (fun c => ?_) (fun c => ?_)
      · replace H := H.1 c
        refine AW_iinc (x' := l3 + 1) (L' := [some (.ref 0), some (.int l1), some (.int l2), some (.int (l3 + 1)), some (.int l4), some (.int l5), some (.int l6)]) dX5_played_74 rfl rfl (by decide) rfl ?_
        refine AW_iinc (x' := l6 + 1) (L' := [some (.ref 0), some (.int l1), some (.int l2), some (.int (l3 + 1)), some (.int l4), some (.int l5), some (.int (l6 + 1))]) dX5_played_77 rfl rfl (by decide) rfl ?_
        refine AW_goto (tgt := 30) dX5_played_80 (by decide) ?_
        exact H
      · replace H := H.2 c
        refine AW_iload dX5_played_70 rfl ?_
        refine AW_istore (L' := [some (.ref 0), some (.int l1), some (.int l2), some (.int l3), some (.int l6), some (.int l5), some (.int l6)]) dX5_played_72 (by decide) rfl ?_
        refine AW_iinc (x' := l3 + 1) (L' := [some (.ref 0), some (.int l1), some (.int l2), some (.int (l3 + 1)), some (.int l6), some (.int l5), some (.int l6)]) dX5_played_74 rfl rfl (by decide) rfl ?_
        refine AW_iinc (x' := l6 + 1) (L' := [some (.ref 0), some (.int l1), some (.int l2), some (.int (l3 + 1)), some (.int l6), some (.int l5), some (.int (l6 + 1))]) dX5_played_77 rfl rfl (by decide) rfl ?_
        refine AW_goto (tgt := 30) dX5_played_80 (by decide) ?_
        exact H
    · replace H := H.2 c
      refine AW_goto (tgt := 77) dX5_played_63 (by decide) ?_
      refine AW_iinc (x' := l6 + 1) (L' := [some (.ref 0), some (.int l1), some (.int l2), some (.int l3), some (.int l4), some (.int l5), some (.int (l6 + 1))]) dX5_played_77 rfl rfl (by decide) rfl ?_
      refine AW_goto (tgt := 30) dX5_played_80 (by decide) ?_
      exact H
set_option maxRecDepth 100000 in
set_option maxHeartbeats 4000000 in
theorem vc_X5_could {G : xG} {d : Nat} {z : xZ} {v : xS} {Q : Int32 → xS → Prop} (B : Base z) {xa : Int32} {xb : Int32} 
    (H : (oX1_isBand G d [(.ref 30), (.int xa)] z v (fun r2 v1 => ((r2 = 0 → Q (-1) v1) ∧ (¬ r2 = 0 → (oX4_names G d [(.ref 1), (.int xb)] z v1 (fun r4 v3 => ((¬ r4 = 0 → (oX5_fitRefusal G d [(.ref 0), (.int xb)] z v3 (fun r6 v5 => ((r6 = 0 → (oX1_programs G d [(.ref 30)] z v5 (fun r8 v7 => aX5_could G (d + 1) 51 [some (.ref 0), some (.int xa), some (.int xb), some (.int r6), some (.int 0), some (.int r8), some (.int 0)] [] z v7 Q))) ∧ (¬ r6 = 0 → Q r6 v5))))) ∧ (r4 = 0 → Q (-1) v3))))))))) :
    oX5_could G (d + 1) [(.ref 0), (.int xa), (.int xb)] z v Q := by
  refine Ok_of (own := RX5) (by decide) rfl (Nat.le_of_ble_eq_true rfl) ?_
  show AW G (d + 1) 0 0 yX5_could cX5_could 7 (some .int) RX5 0 0 0 [some (.ref 0), some (.int xa), some (.int xb), none, none, none, none] [] z v _
  refine AW_aload_n dX5_could_0 rfl rfl ?_
  refine AW_getR dX5_could_1 (bI_0 B) fl_X5_31 (bR_0_3 B) ?_
  refine AW_iload_n dX5_could_4 rfl rfl ?_
  refine AW_vI (as := [(.int xa)]) (st := []) dX5_could_5 (bI_30 B) (by decide) rfl mv_X1_isBand mi_X1_isBand ml_X5_139 (Nat.le_of_ble_eq_true rfl) rfl (Nat.le_refl 0) (Nat.le_refl 0) H (fun r2 v1 H => ?_)
  refine AW_if_eq (tgt := 22) dX5_could_8 (by decide) (fun c => ?_) (fun c => ?_)
  · replace H := H.1 c
    refine AW_iconst (x := (-1)) dX5_could_22 (by decide) ?_
    exact AW_rI dX5_could_23 rfl rfl H
  · replace H := H.2 c
    refine AW_aload_n dX5_could_11 rfl rfl ?_
    refine AW_getR dX5_could_12 (bI_0 B) fl_X5_14 (bR_0_0 B) ?_
    refine AW_iload_n dX5_could_15 rfl rfl ?_
    refine AW_vI (as := [(.int xb)]) (st := []) dX5_could_16 (bI_1 B) (by decide) rfl mv_X4_names mi_X4_names ml_X5_74 (Nat.le_of_ble_eq_true rfl) rfl (Nat.le_refl 0) (Nat.le_refl 0) H (fun r4 v3 H => ?_)
    refine AW_if_ne (tgt := 24) dX5_could_19 (by decide) (fun c => ?_) (fun c => ?_)
    · replace H := H.1 c
      refine AW_aload_n dX5_could_24 rfl rfl ?_
      refine AW_iload_n dX5_could_25 rfl rfl ?_
      refine AW_vI (as := [(.int xb)]) (st := []) dX5_could_26 (bI_0 B) (by decide) rfl mv_X5_fitRefusal mi_X5_fitRefusal ml_X5_249 (Nat.le_of_ble_eq_true rfl) rfl (Nat.le_refl 0) (Nat.le_refl 0) H (fun r6 v5 H => ?_)
      refine AW_istore_n (L' := [some (.ref 0), some (.int xa), some (.int xb), some (.int r6), none, none, none]) dX5_could_29 rfl (by decide) rfl ?_
      refine AW_iload_n dX5_could_30 rfl rfl ?_
      refine AW_if_eq (tgt := 36) dX5_could_31 (by decide) (fun c => ?_) (fun c => ?_)
      · replace H := H.1 c
        refine AW_iconst (x := 0) dX5_could_36 (by decide) ?_
        refine AW_istore (L' := [some (.ref 0), some (.int xa), some (.int xb), some (.int r6), some (.int 0), none, none]) dX5_could_37 (by decide) rfl ?_
        refine AW_aload_n dX5_could_39 rfl rfl ?_
        refine AW_getR dX5_could_40 (bI_0 B) fl_X5_31 (bR_0_3 B) ?_
        refine AW_vI (as := []) (st := []) dX5_could_43 (bI_30 B) (by decide) rfl mv_X1_programs mi_X1_programs ml_X5_242 (Nat.le_of_ble_eq_true rfl) rfl (Nat.le_refl 0) (Nat.le_refl 0) H (fun r8 v7 H => ?_)
        refine AW_istore (L' := [some (.ref 0), some (.int xa), some (.int xb), some (.int r6), some (.int 0), some (.int r8), none]) dX5_could_46 (by decide) rfl ?_
        refine AW_iconst (x := 0) dX5_could_48 (by decide) ?_
        refine AW_istore (L' := [some (.ref 0), some (.int xa), some (.int xb), some (.int r6), some (.int 0), some (.int r8), some (.int 0)]) dX5_could_49 (by decide) rfl ?_
        exact H
      · replace H := H.2 c
        refine AW_iload_n dX5_could_34 rfl rfl ?_
        exact AW_rI dX5_could_35 rfl rfl H
    · replace H := H.2 c
      refine AW_iconst (x := (-1)) dX5_could_22 (by decide) ?_
      exact AW_rI dX5_could_23 rfl rfl H
set_option maxRecDepth 100000 in
set_option maxHeartbeats 4000000 in
theorem vc_X5_could_51 {G : xG} {d : Nat} {z : xZ} {v : xS} {Q : Int32 → xS → Prop} (B : Base z)  {l1 : Int32} {l2 : Int32} {l3 : Int32} {l4 : Int32} {l5 : Int32} {l6 : Int32} 
    (H : ((l5 ≤ l6 → Q l4 v) ∧ (¬ l5 ≤ l6 → (oX0_repeat G d [(.ref 70), (.int l6), (.int 1)] z v (fun r2 v1 => (oX5_isGroundOf G d [(.ref 0), (.int l2), (.ref 71)] z v1 (fun r4 v3 => ((r4 = 0 → aX5_could G (d + 1) 51 [some (.ref 0), some (.int l1), some (.int l2), some (.int l3), some (.int l4), some (.int l5), some (.int (l6 + 1))] [] z v3 Q) ∧ (¬ r4 = 0 → (oX1_tuneOf G d [(.ref 30), (.int l6), (.int l1)] z v3 (fun r6 v5 => aX5_could G (d + 1) 51 [some (.ref 0), some (.int l1), some (.int l2), some (.int l3), some (.int (l4 ||| (1 <<< (r6 &&& 31)))), some (.int l5), some (.int (l6 + 1))] [] z v5 Q))))))))))) :
    aX5_could G (d + 1) 51 [some (.ref 0), some (.int l1), some (.int l2), some (.int l3), some (.int l4), some (.int l5), some (.int l6)] [] z v Q := by
  refine AW_iload dX5_could_51 rfl ?_
  refine AW_iload dX5_could_53 rfl ?_
  refine AW_icmp_ge (tgt := 107) dX5_could_55 (by decide) (fun c => ?_) (fun c => ?_)
  · replace H := H.1 c
    refine AW_iload dX5_could_107 rfl ?_
    exact AW_rI dX5_could_109 rfl rfl H
  · replace H := H.2 c
    refine AW_aload_n dX5_could_58 rfl rfl ?_
    refine AW_getR dX5_could_59 (bI_0 B) fl_X5_40 (bR_0_4 B) ?_
    refine AW_iload dX5_could_62 rfl ?_
    refine AW_iconst (x := 1) dX5_could_64 (by decide) ?_
    refine AW_vI (as := [(.int l6), (.int 1)]) (st := []) dX5_could_65 (bI_70 B) (by decide) rfl mv_X0_repeat mi_X0_repeat ml_X5_195 (Nat.le_of_ble_eq_true rfl) rfl (Nat.le_refl 0) (Nat.le_refl 0) H (fun r2 v1 H => ?_)
    refine AW_pop dX5_could_68 rfl ?_
    refine AW_aload_n dX5_could_69 rfl rfl ?_
    refine AW_iload_n dX5_could_70 rfl rfl ?_
    refine AW_aload_n dX5_could_71 rfl rfl ?_
    refine AW_getR dX5_could_72 (bI_0 B) fl_X5_40 (bR_0_4 B) ?_
    refine AW_getR dX5_could_75 (bI_70 B) fl_X5_198 (bR_70_1 B) ?_
    refine AW_vI (as := [(.int l2), (.ref 71)]) (st := []) dX5_could_78 (bI_0 B) (by decide) rfl mv_X5_isGroundOf mi_X5_isGroundOf ml_X5_245 (Nat.le_of_ble_eq_true rfl) rfl (Nat.le_refl 0) (Nat.le_refl 0) H (fun r4 v3 H => ?_)
    refine AW_if_eq (tgt := 101) dX5_could_81 (by decide) (fun c => ?_) (fun c => ?_)
    · replace H := H.1 c
      refine AW_iinc (x' := l6 + 1) (L' := [some (.ref 0), some (.int l1), some (.int l2), some (.int l3), some (.int l4), some (.int l5), some (.int (l6 + 1))]) dX5_could_101 rfl rfl (by decide) rfl ?_
      refine AW_goto (tgt := 51) dX5_could_104 (by decide) ?_
      exact H
    · replace H := H.2 c
      refine AW_iload dX5_could_84 rfl ?_
      refine AW_iconst (x := 1) dX5_could_86 (by decide) ?_
      refine AW_aload_n dX5_could_87 rfl rfl ?_
      refine AW_getR dX5_could_88 (bI_0 B) fl_X5_31 (bR_0_3 B) ?_
      refine AW_iload dX5_could_91 rfl ?_
      refine AW_iload_n dX5_could_93 rfl rfl ?_
      refine AW_vI (as := [(.int l6), (.int l1)]) (st := [(.int 1), (.int l4)]) dX5_could_94 (bI_30 B) (by decide) rfl mv_X1_tuneOf mi_X1_tuneOf ml_X5_252 (Nat.le_of_ble_eq_true rfl) rfl (Nat.le_refl 0) (Nat.le_refl 0) H (fun r6 v5 H => ?_)
      refine AW_ishl dX5_could_97 ?_
      refine AW_ior dX5_could_98 ?_
      refine AW_istore (L' := [some (.ref 0), some (.int l1), some (.int l2), some (.int l3), some (.int (l4 ||| (1 <<< (r6 &&& 31)))), some (.int l5), some (.int l6)]) dX5_could_99 (by decide) rfl ?_
      refine AW_iinc (x' := l6 + 1) (L' := [some (.ref 0), some (.int l1), some (.int l2), some (.int l3), some (.int (l4 ||| (1 <<< (r6 &&& 31)))), some (.int l5), some (.int (l6 + 1))]) dX5_could_101 rfl rfl (by decide) rfl ?_
      refine AW_goto (tgt := 51) dX5_could_104 (by decide) ?_
      exact H
set_option maxRecDepth 100000 in
set_option maxHeartbeats 4000000 in
theorem vc_X5_twice {G : xG} {d : Nat} {z : xZ} {v : xS} {Q : Int32 → xS → Prop} (B : Base z) {xa : Int32} 
    (H : (oX5_groundRefusal G d [(.ref 0), (.int xa)] z v (fun r2 v1 => ((r2 = 0 → (oX1_programs G d [(.ref 30)] z v1 (fun r4 v3 => aX5_twice G (d + 1) 30 [some (.ref 0), some (.int xa), some (.int r2), some (.int 0), some (.int (-9)), some (.int r4), some (.int 0), none] [] z v3 Q))) ∧ (¬ r2 = 0 → Q r2 v1))))) :
    oX5_twice G (d + 1) [(.ref 0), (.int xa)] z v Q := by
  refine Ok_of (own := RX5) (by decide) rfl (Nat.le_of_ble_eq_true rfl) ?_
  show AW G (d + 1) 0 0 yX5_twice cX5_twice 8 (some .int) RX5 0 0 0 [some (.ref 0), some (.int xa), none, none, none, none, none, none] [] z v _
  refine AW_aload_n dX5_twice_0 rfl rfl ?_
  refine AW_iload_n dX5_twice_1 rfl rfl ?_
  refine AW_vI (as := [(.int xa)]) (st := []) dX5_twice_2 (bI_0 B) (by decide) rfl mv_X5_groundRefusal mi_X5_groundRefusal ml_X5_239 (Nat.le_of_ble_eq_true rfl) rfl (Nat.le_refl 0) (Nat.le_refl 0) H (fun r2 v1 H => ?_)
  refine AW_istore_n (L' := [some (.ref 0), some (.int xa), some (.int r2), none, none, none, none, none]) dX5_twice_5 rfl (by decide) rfl ?_
  refine AW_iload_n dX5_twice_6 rfl rfl ?_
  refine AW_if_eq (tgt := 12) dX5_twice_7 (by decide) (fun c => ?_) (fun c => ?_)
  · replace H := H.1 c
    refine AW_iconst (x := 0) dX5_twice_12 (by decide) ?_
    refine AW_istore_n (L' := [some (.ref 0), some (.int xa), some (.int r2), some (.int 0), none, none, none, none]) dX5_twice_13 rfl (by decide) rfl ?_
    refine AW_bipush (x := (-9)) dX5_twice_14 (by decide) ?_
    refine AW_istore (L' := [some (.ref 0), some (.int xa), some (.int r2), some (.int 0), some (.int (-9)), none, none, none]) dX5_twice_16 (by decide) rfl ?_
    refine AW_aload_n dX5_twice_18 rfl rfl ?_
    refine AW_getR dX5_twice_19 (bI_0 B) fl_X5_31 (bR_0_3 B) ?_
    refine AW_vI (as := []) (st := []) dX5_twice_22 (bI_30 B) (by decide) rfl mv_X1_programs mi_X1_programs ml_X5_242 (Nat.le_of_ble_eq_true rfl) rfl (Nat.le_refl 0) (Nat.le_refl 0) H (fun r4 v3 H => ?_)
    refine AW_istore (L' := [some (.ref 0), some (.int xa), some (.int r2), some (.int 0), some (.int (-9)), some (.int r4), none, none]) dX5_twice_25 (by decide) rfl ?_
    refine AW_iconst (x := 0) dX5_twice_27 (by decide) ?_
    refine AW_istore (L' := [some (.ref 0), some (.int xa), some (.int r2), some (.int 0), some (.int (-9)), some (.int r4), some (.int 0), none]) dX5_twice_28 (by decide) rfl ?_
    exact H
  · replace H := H.2 c
    refine AW_iload_n dX5_twice_10 rfl rfl ?_
    exact AW_rI dX5_twice_11 rfl rfl H
set_option maxRecDepth 100000 in
set_option maxHeartbeats 4000000 in
theorem vc_X5_twice_30 {G : xG} {d : Nat} {z : xZ} {v : xS} {Q : Int32 → xS → Prop} (B : Base z)  {l1 : Int32} {l2 : Int32} {l3 : Int32} {l4 : Int32} {l5 : Int32} {l6 : Int32} 
    (H : ((l5 ≤ l6 → (oX5_tell G d [(.ref 0), (.int l3), (.int l4)] z v (fun r2 v1 => Q r2 v1))) ∧ (¬ l5 ≤ l6 → (oX0_repeat G d [(.ref 70), (.int l6), (.int 1)] z v (fun r4 v3 => aX5_twice G (d + 1) 51 [some (.ref 0), some (.int l1), some (.int l2), some (.int l3), some (.int l4), some (.int l5), some (.int l6), some (.int 0)] [] z v3 Q))))) :
    aX5_twice G (d + 1) 30 [some (.ref 0), some (.int l1), some (.int l2), some (.int l3), some (.int l4), some (.int l5), some (.int l6), none] [] z v Q := by
  refine AW_iload dX5_twice_30 rfl ?_
  refine AW_iload dX5_twice_32 rfl ?_
  refine AW_icmp_ge (tgt := 115) dX5_twice_34 (by decide) (fun c => ?_) (fun c => ?_)
  · replace H := H.1 c
    refine AW_aload_n dX5_twice_115 rfl rfl ?_
    refine AW_iload_n dX5_twice_116 rfl rfl ?_
    refine AW_iload dX5_twice_117 rfl ?_
    refine AW_vI (as := [(.int l3), (.int l4)]) (st := []) dX5_twice_119 (bI_0 B) (by decide) rfl mv_X5_tell mi_X5_tell ml_X5_90 (Nat.le_of_ble_eq_true rfl) rfl (Nat.le_refl 0) (Nat.le_refl 0) H (fun r2 v1 H => ?_)
    exact AW_rI dX5_twice_122 rfl rfl H
  · replace H := H.2 c
    refine AW_aload_n dX5_twice_37 rfl rfl ?_
    refine AW_getR dX5_twice_38 (bI_0 B) fl_X5_40 (bR_0_4 B) ?_
    refine AW_iload dX5_twice_41 rfl ?_
    refine AW_iconst (x := 1) dX5_twice_43 (by decide) ?_
    refine AW_vI (as := [(.int l6), (.int 1)]) (st := []) dX5_twice_44 (bI_70 B) (by decide) rfl mv_X0_repeat mi_X0_repeat ml_X5_195 (Nat.le_of_ble_eq_true rfl) rfl (Nat.le_refl 0) (Nat.le_refl 0) H (fun r4 v3 H => ?_)
    refine AW_pop dX5_twice_47 rfl ?_
    refine AW_iconst (x := 0) dX5_twice_48 (by decide) ?_
    refine AW_istore (L' := [some (.ref 0), some (.int l1), some (.int l2), some (.int l3), some (.int l4), some (.int l5), some (.int l6), some (.int 0)]) dX5_twice_49 (by decide) rfl ?_
    exact H
set_option maxRecDepth 100000 in
set_option maxHeartbeats 4000000 in
theorem vc_X5_twice_51 {G : xG} {d : Nat} {z : xZ} {v : xS} {Q : Int32 → xS → Prop} (B : Base z)  {l1 : Int32} {l2 : Int32} {l3 : Int32} {l4 : Int32} {l5 : Int32} {l6 : Int32} {l7 : Int32} 
    (H : ((l5 ≤ l7 → aX5_twice G (d + 1) 30 [some (.ref 0), some (.int l1), some (.int l2), some (.int l3), some (.int l4), some (.int l5), some (.int (l6 + 1)), none] [] z v Q) ∧ (¬ l5 ≤ l7 → (oX0_playBehind G d [(.ref 70), (.int l7)] z v (fun v1 => (oX5_isGroundOf G d [(.ref 0), (.int l1), (.ref 72)] z v1 (fun r3 v2 => ((¬ r3 = 0 → ((¬ l3 = 0 → aX5_twice G (d + 1) 51 [some (.ref 0), some (.int l1), some (.int l2), some (.int (l3 + 1)), some (.int l4), some (.int l5), some (.int l6), some (.int (l7 + 1))] [] z v2 Q) ∧ (l3 = 0 → aX5_twice G (d + 1) 51 [some (.ref 0), some (.int l1), some (.int l2), some (.int (l3 + 1)), some (.int ((1000 * l6) + l7)), some (.int l5), some (.int l6), some (.int (l7 + 1))] [] z v2 Q))) ∧ (r3 = 0 → aX5_twice G (d + 1) 51 [some (.ref 0), some (.int l1), some (.int l2), some (.int l3), some (.int l4), some (.int l5), some (.int l6), some (.int (l7 + 1))] [] z v2 Q))))))))) :
    aX5_twice G (d + 1) 51 [some (.ref 0), some (.int l1), some (.int l2), some (.int l3), some (.int l4), some (.int l5), some (.int l6), some (.int l7)] [] z v Q := by
  refine AW_iload dX5_twice_51 rfl ?_
  refine AW_iload dX5_twice_53 rfl ?_
  refine AW_icmp_ge (tgt := 109) dX5_twice_55 (by decide) (fun c => ?_) (fun c => ?_)
  · replace H := H.1 c
    refine AW_iinc (x' := l6 + 1) (L' := [some (.ref 0), some (.int l1), some (.int l2), some (.int l3), some (.int l4), some (.int l5), some (.int (l6 + 1)), some (.int l7)]) dX5_twice_109 rfl rfl (by decide) rfl ?_
    refine AW_goto (tgt := 30) dX5_twice_112 (by decide) ?_
    refine AW_sub (L' := [some (.ref 0), some (.int l1), some (.int l2), some (.int l3), some (.int l4), some (.int l5), some (.int (l6 + 1)), none]) (show xle _ _ from ⟨rfl, ⟨rfl, ⟨rfl, ⟨rfl, ⟨rfl, ⟨rfl, ⟨rfl, trivial⟩⟩⟩⟩⟩⟩⟩) ?_
    exact H
  · replace H := H.2 c
    refine AW_aload_n dX5_twice_58 rfl rfl ?_
    refine AW_getR dX5_twice_59 (bI_0 B) fl_X5_40 (bR_0_4 B) ?_
    refine AW_iload dX5_twice_62 rfl ?_
    refine AW_vV (as := [(.int l7)]) (st := []) dX5_twice_64 (bI_70 B) (by decide) rfl mv_X0_playBehind mi_X0_playBehind ml_X5_255 (Nat.le_of_ble_eq_true rfl) rfl (Nat.le_refl 0) (Nat.le_refl 0) H (fun v1 H => ?_)
    refine AW_aload_n dX5_twice_67 rfl rfl ?_
    refine AW_iload_n dX5_twice_68 rfl rfl ?_
    refine AW_aload_n dX5_twice_69 rfl rfl ?_
    refine AW_getR dX5_twice_70 (bI_0 B) fl_X5_40 (bR_0_4 B) ?_
    refine AW_getR dX5_twice_73 (bI_70 B) fl_X5_258 (bR_70_2 B) ?_
    refine AW_vI (as := [(.int l1), (.ref 72)]) (st := []) dX5_twice_76 (bI_0 B) (by decide) rfl mv_X5_isGroundOf mi_X5_isGroundOf ml_X5_245 (Nat.le_of_ble_eq_true rfl) rfl (Nat.le_refl 0) (Nat.le_refl 0) H (fun r3 v2 H => ?_)
    refine AW_if_ne (tgt := 85) dX5_twice_79 (by decide) (fun c => ?_) (fun c => ?_)
    · replace H := H.1 c
      refine AW_iload_n dX5_twice_85 rfl rfl ?_
      refine AW_if_ne (tgt := 100) dX5_twice_86 (by decide) (fun c => ?_) (fun c => ?_)
      · replace H := H.1 c
        refine AW_iinc (x' := l3 + 1) (L' := [some (.ref 0), some (.int l1), some (.int l2), some (.int (l3 + 1)), some (.int l4), some (.int l5), some (.int l6), some (.int l7)]) dX5_twice_100 rfl rfl (by decide) rfl ?_
        refine AW_iinc (x' := l7 + 1) (L' := [some (.ref 0), some (.int l1), some (.int l2), some (.int (l3 + 1)), some (.int l4), some (.int l5), some (.int l6), some (.int (l7 + 1))]) dX5_twice_103 rfl rfl (by decide) rfl ?_
        refine AW_goto (tgt := 51) dX5_twice_106 (by decide) ?_
        exact H
      · replace H := H.2 c
        refine AW_sipush (x := 1000) dX5_twice_89 (by decide) ?_
        refine AW_iload dX5_twice_92 rfl ?_
        refine AW_imul dX5_twice_94 ?_
        refine AW_iload dX5_twice_95 rfl ?_
        refine AW_iadd dX5_twice_97 ?_
        refine AW_istore (L' := [some (.ref 0), some (.int l1), some (.int l2), some (.int l3), some (.int ((1000 * l6) + l7)), some (.int l5), some (.int l6), some (.int l7)]) dX5_twice_98 (by decide) rfl ?_
        refine AW_iinc (x' := l3 + 1) (L' := [some (.ref 0), some (.int l1), some (.int l2), some (.int (l3 + 1)), some (.int ((1000 * l6) + l7)), some (.int l5), some (.int l6), some (.int l7)]) dX5_twice_100 rfl rfl (by decide) rfl ?_
        refine AW_iinc (x' := l7 + 1) (L' := [some (.ref 0), some (.int l1), some (.int l2), some (.int (l3 + 1)), some (.int ((1000 * l6) + l7)), some (.int l5), some (.int l6), some (.int (l7 + 1))]) dX5_twice_103 rfl rfl (by decide) rfl ?_
        refine AW_goto (tgt := 51) dX5_twice_106 (by decide) ?_
        exact H
    · replace H := H.2 c
      refine AW_goto (tgt := 103) dX5_twice_82 (by decide) ?_
      refine AW_iinc (x' := l7 + 1) (L' := [some (.ref 0), some (.int l1), some (.int l2), some (.int l3), some (.int l4), some (.int l5), some (.int l6), some (.int (l7 + 1))]) dX5_twice_103 rfl rfl (by decide) rfl ?_
      refine AW_goto (tgt := 51) dX5_twice_106 (by decide) ?_
      exact H
set_option maxRecDepth 100000 in
set_option maxHeartbeats 4000000 in
theorem vc_X5_valleys {G : xG} {d : Nat} {z : xZ} {v : xS} {Q : Int32 → xS → Prop} (B : Base z)  
    (H : aX5_valleys G (d + 1) 9 [some (.ref 0), some (.int 0), some (.int 0), some (.int 0), some (.int 0)] [] z v Q) :
    oX5_valleys G (d + 1) [(.ref 0)] z v Q := by
  refine Ok_of (own := RX5) (by decide) rfl (Nat.le_of_ble_eq_true rfl) ?_
  show AW G (d + 1) 0 0 yX5_valleys cX5_valleys 5 (some .int) RX5 0 0 0 [some (.ref 0), none, none, none, none] [] z v _
  refine AW_iconst (x := 0) dX5_valleys_0 (by decide) ?_
  refine AW_istore_n (L' := [some (.ref 0), some (.int 0), none, none, none]) dX5_valleys_1 rfl (by decide) rfl ?_
  refine AW_iconst (x := 0) dX5_valleys_2 (by decide) ?_
  refine AW_istore_n (L' := [some (.ref 0), some (.int 0), some (.int 0), none, none]) dX5_valleys_3 rfl (by decide) rfl ?_
  refine AW_iconst (x := 0) dX5_valleys_4 (by decide) ?_
  refine AW_istore_n (L' := [some (.ref 0), some (.int 0), some (.int 0), some (.int 0), none]) dX5_valleys_5 rfl (by decide) rfl ?_
  refine AW_iconst (x := 0) dX5_valleys_6 (by decide) ?_
  refine AW_istore (L' := [some (.ref 0), some (.int 0), some (.int 0), some (.int 0), some (.int 0)]) dX5_valleys_7 (by decide) rfl ?_
  exact H
set_option maxRecDepth 100000 in
set_option maxHeartbeats 4000000 in
theorem vc_X5_valleys_9 {G : xG} {d : Nat} {z : xZ} {v : xS} {Q : Int32 → xS → Prop} (B : Base z)  {l1 : Int32} {l2 : Int32} {l3 : Int32} {l4 : Int32} 
    (H : (((v.1 30 0) ≤ l4 → (oX5_tell G d [(.ref 0), (.int l1), (.int l3)] z v (fun r2 v1 => Q r2 v1))) ∧ (¬ (v.1 30 0) ≤ l4 → (vp_in l4 10 ∧ ((¬ (v.1 31 l4.toNatClampNeg) = 0 → aX5_valleys G (d + 1) 9 [some (.ref 0), some (.int l1), some (.int 0), some (.int (if l3 < 0 then 0 else l3)), some (.int (l4 + 1))] [] z v Q) ∧ ((v.1 31 l4.toNatClampNeg) = 0 → ((¬ (l2 + 1) = 1 → aX5_valleys G (d + 1) 9 [some (.ref 0), some (.int l1), some (.int (l2 + 1)), some (.int (if l3 < (l2 + 1) then (l2 + 1) else l3)), some (.int (l4 + 1))] [] z v Q) ∧ ((l2 + 1) = 1 → aX5_valleys G (d + 1) 9 [some (.ref 0), some (.int (l1 + 1)), some (.int (l2 + 1)), some (.int (if l3 < (l2 + 1) then (l2 + 1) else l3)), some (.int (l4 + 1))] [] z v Q)))))))) :
    aX5_valleys G (d + 1) 9 [some (.ref 0), some (.int l1), some (.int l2), some (.int l3), some (.int l4)] [] z v Q := by
  refine AW_iload dX5_valleys_9 rfl ?_
  refine AW_aload_n dX5_valleys_11 rfl rfl ?_
  refine AW_getR dX5_valleys_12 (bI_0 B) fl_X5_31 (bR_0_3 B) ?_
  refine AW_getI dX5_valleys_15 (bI_30 B) fl_X5_127 ?_
  refine AW_icmp_ge (tgt := 62) dX5_valleys_18 (by decide) (fun c => ?_) (fun c => ?_)
  · replace H := H.1 c
    refine AW_aload_n dX5_valleys_62 rfl rfl ?_
    refine AW_iload_n dX5_valleys_63 rfl rfl ?_
    refine AW_iload_n dX5_valleys_64 rfl rfl ?_
    refine AW_vI (as := [(.int l1), (.int l3)]) (st := []) dX5_valleys_65 (bI_0 B) (by decide) rfl mv_X5_tell mi_X5_tell ml_X5_90 (Nat.le_of_ble_eq_true rfl) rfl (Nat.le_refl 0) (Nat.le_refl 0) H (fun r2 v1 H => ?_)
    exact AW_rI dX5_valleys_68 rfl rfl H
  · replace H := H.2 c
    refine AW_aload_n dX5_valleys_21 rfl rfl ?_
    refine AW_getR dX5_valleys_22 (bI_0 B) fl_X5_31 (bR_0_3 B) ?_
    refine AW_getR dX5_valleys_25 (bI_30 B) fl_X5_136 (bR_30_4 B) ?_
    refine AW_iload dX5_valleys_28 rfl ?_
    have hi3 := H.1
    replace H := H.2
    refine AW_iald dX5_valleys_30 (bI_31 B) hi3 ?_
    refine AW_if_ne (tgt := 40) dX5_valleys_31 (by decide) (fun c => ?_) (fun c => ?_)
    · replace H := H.1 c
      refine AW_iconst (x := 0) dX5_valleys_40 (by decide) ?_
      refine AW_istore_n (L' := [some (.ref 0), some (.int l1), some (.int 0), some (.int l3), some (.int l4)]) dX5_valleys_41 rfl (by decide) rfl ?_
      refine AW_iload_n dX5_valleys_42 rfl rfl ?_
      refine AW_iconst (x := 1) dX5_valleys_43 (by decide) ?_
      refine AW_icmp_ne (tgt := 50) dX5_valleys_44 (by decide) (fun _ => ?_) (fun q => absurd q (by decide))
      refine AW_iload_n dX5_valleys_50 rfl rfl ?_
      refine AW_iload_n dX5_valleys_51 rfl rfl ?_
      refine AW_max dX5_valleys_52 ml_X5_261 w_max (Nat.succ_pos _) (Nat.le_of_ble_eq_true rfl) (Nat.le_refl 0) (Nat.le_refl 0) ?_
      refine AW_istore_n (L' := [some (.ref 0), some (.int l1), some (.int 0), some (.int (if l3 < 0 then 0 else l3)), some (.int l4)]) dX5_valleys_55 rfl (by decide) rfl ?_
      refine AW_iinc (x' := l4 + 1) (L' := [some (.ref 0), some (.int l1), some (.int 0), some (.int (if l3 < 0 then 0 else l3)), some (.int (l4 + 1))]) dX5_valleys_56 rfl rfl (by decide) rfl ?_
      refine AW_goto (tgt := 9) dX5_valleys_59 (by decide) ?_
      exact H
    · replace H := H.2 c
      refine AW_iload_n dX5_valleys_34 rfl rfl ?_
      refine AW_iconst (x := 1) dX5_valleys_35 (by decide) ?_
      refine AW_iadd dX5_valleys_36 ?_
      refine AW_goto (tgt := 41) dX5_valleys_37 (by decide) ?_
      refine AW_istore_n (L' := [some (.ref 0), some (.int l1), some (.int (l2 + 1)), some (.int l3), some (.int l4)]) dX5_valleys_41 rfl (by decide) rfl ?_
      refine AW_iload_n dX5_valleys_42 rfl rfl ?_
      refine AW_iconst (x := 1) dX5_valleys_43 (by decide) ?_
      refine AW_icmp_ne (tgt := 50) dX5_valleys_44 (by decide) (fun c => ?_) (fun c => ?_)
      · replace H := H.1 c
        refine AW_iload_n dX5_valleys_50 rfl rfl ?_
        refine AW_iload_n dX5_valleys_51 rfl rfl ?_
        refine AW_max dX5_valleys_52 ml_X5_261 w_max (Nat.succ_pos _) (Nat.le_of_ble_eq_true rfl) (Nat.le_refl 0) (Nat.le_refl 0) ?_
        refine AW_istore_n (L' := [some (.ref 0), some (.int l1), some (.int (l2 + 1)), some (.int (if l3 < (l2 + 1) then (l2 + 1) else l3)), some (.int l4)]) dX5_valleys_55 rfl (by decide) rfl ?_
        refine AW_iinc (x' := l4 + 1) (L' := [some (.ref 0), some (.int l1), some (.int (l2 + 1)), some (.int (if l3 < (l2 + 1) then (l2 + 1) else l3)), some (.int (l4 + 1))]) dX5_valleys_56 rfl rfl (by decide) rfl ?_
        refine AW_goto (tgt := 9) dX5_valleys_59 (by decide) ?_
        exact H
      · replace H := H.2 c
        refine AW_iinc (x' := l1 + 1) (L' := [some (.ref 0), some (.int (l1 + 1)), some (.int (l2 + 1)), some (.int l3), some (.int l4)]) dX5_valleys_47 rfl rfl (by decide) rfl ?_
        refine AW_iload_n dX5_valleys_50 rfl rfl ?_
        refine AW_iload_n dX5_valleys_51 rfl rfl ?_
        refine AW_max dX5_valleys_52 ml_X5_261 w_max (Nat.succ_pos _) (Nat.le_of_ble_eq_true rfl) (Nat.le_refl 0) (Nat.le_refl 0) ?_
        refine AW_istore_n (L' := [some (.ref 0), some (.int (l1 + 1)), some (.int (l2 + 1)), some (.int (if l3 < (l2 + 1) then (l2 + 1) else l3)), some (.int l4)]) dX5_valleys_55 rfl (by decide) rfl ?_
        refine AW_iinc (x' := l4 + 1) (L' := [some (.ref 0), some (.int (l1 + 1)), some (.int (l2 + 1)), some (.int (if l3 < (l2 + 1) then (l2 + 1) else l3)), some (.int (l4 + 1))]) dX5_valleys_56 rfl rfl (by decide) rfl ?_
        refine AW_goto (tgt := 9) dX5_valleys_59 (by decide) ?_
        exact H
set_option maxRecDepth 100000 in
set_option maxHeartbeats 4000000 in
theorem vc_X5_top {G : xG} {d : Nat} {z : xZ} {v : xS} {Q : Int32 → xS → Prop} (B : Base z)  
    (H : ((¬ (v.1 30 0) = 0 → (oX1_firstHighest G d [(.ref 30), (.ref 31), (.int 0), (.int ((v.1 30 0) - 1))] z v (fun r2 v1 => (vp_in r2 10 ∧ (oX5_tell G d [(.ref 0), (.int r2), (.int (v1.1 31 r2.toNatClampNeg))] z v1 (fun r5 v4 => Q r5 v4)))))) ∧ ((v.1 30 0) = 0 → Q (-4) v))) :
    oX5_top G (d + 1) [(.ref 0)] z v Q := by
  refine Ok_of (own := RX5) (by decide) rfl (Nat.le_of_ble_eq_true rfl) ?_
  show AW G (d + 1) 0 0 yX5_top cX5_top 2 (some .int) RX5 0 0 0 [some (.ref 0), none] [] z v _
  refine AW_aload_n dX5_top_0 rfl rfl ?_
  refine AW_getR dX5_top_1 (bI_0 B) fl_X5_31 (bR_0_3 B) ?_
  refine AW_getI dX5_top_4 (bI_30 B) fl_X5_127 ?_
  refine AW_if_ne (tgt := 13) dX5_top_7 (by decide) (fun c => ?_) (fun c => ?_)
  · replace H := H.1 c
    refine AW_aload_n dX5_top_13 rfl rfl ?_
    refine AW_getR dX5_top_14 (bI_0 B) fl_X5_31 (bR_0_3 B) ?_
    refine AW_aload_n dX5_top_17 rfl rfl ?_
    refine AW_getR dX5_top_18 (bI_0 B) fl_X5_31 (bR_0_3 B) ?_
    refine AW_getR dX5_top_21 (bI_30 B) fl_X5_136 (bR_30_4 B) ?_
    refine AW_iconst (x := 0) dX5_top_24 (by decide) ?_
    refine AW_aload_n dX5_top_25 rfl rfl ?_
    refine AW_getR dX5_top_26 (bI_0 B) fl_X5_31 (bR_0_3 B) ?_
    refine AW_getI dX5_top_29 (bI_30 B) fl_X5_127 ?_
    refine AW_iconst (x := 1) dX5_top_32 (by decide) ?_
    refine AW_isub dX5_top_33 ?_
    refine AW_vI (as := [(.ref 31), (.int 0), (.int ((v.1 30 0) - 1))]) (st := []) dX5_top_34 (bI_30 B) (by decide) rfl mv_X1_firstHighest mi_X1_firstHighest ml_X5_266 (Nat.le_of_ble_eq_true rfl) rfl (Nat.le_refl 0) (Nat.le_refl 0) H (fun r2 v1 H => ?_)
    refine AW_istore_n (L' := [some (.ref 0), some (.int r2)]) dX5_top_37 rfl (by decide) rfl ?_
    refine AW_aload_n dX5_top_38 rfl rfl ?_
    refine AW_iload_n dX5_top_39 rfl rfl ?_
    refine AW_aload_n dX5_top_40 rfl rfl ?_
    refine AW_getR dX5_top_41 (bI_0 B) fl_X5_31 (bR_0_3 B) ?_
    refine AW_getR dX5_top_44 (bI_30 B) fl_X5_136 (bR_30_4 B) ?_
    refine AW_iload_n dX5_top_47 rfl rfl ?_
    have hi3 := H.1
    replace H := H.2
    refine AW_iald dX5_top_48 (bI_31 B) hi3 ?_
    refine AW_vI (as := [(.int r2), (.int (v1.1 31 r2.toNatClampNeg))]) (st := []) dX5_top_49 (bI_0 B) (by decide) rfl mv_X5_tell mi_X5_tell ml_X5_90 (Nat.le_of_ble_eq_true rfl) rfl (Nat.le_refl 0) (Nat.le_refl 0) H (fun r5 v4 H => ?_)
    exact AW_rI dX5_top_52 rfl rfl H
  · replace H := H.2 c
    refine AW_bipush (x := (-4)) dX5_top_10 (by decide) ?_
    exact AW_rI dX5_top_12 rfl rfl H
set_option maxRecDepth 100000 in
set_option maxHeartbeats 4000000 in
theorem vc_X5_border {G : xG} {d : Nat} {z : xZ} {v : xS} {Q : Int32 → xS → Prop} (B : Base z) {xa : Int32} {xb : Int32} 
    (H : (oX5_isStretch G d [(.ref 0), (.int xa), (.int xb)] z v (fun r2 v1 => ((¬ r2 = 0 → (oX1_firstHighest G d [(.ref 30), (.ref 31), (.int xa), (.int xb)] z v1 (fun r4 v3 => (vp_in r4 10 ∧ (oX5_tell G d [(.ref 0), (.int r4), (.int (v3.1 31 r4.toNatClampNeg))] z v3 (fun r7 v6 => Q r7 v6)))))) ∧ (r2 = 0 → Q (-1) v1))))) :
    oX5_border G (d + 1) [(.ref 0), (.int xa), (.int xb)] z v Q := by
  refine Ok_of (own := RX5) (by decide) rfl (Nat.le_of_ble_eq_true rfl) ?_
  show AW G (d + 1) 0 0 yX5_border cX5_border 4 (some .int) RX5 0 0 0 [some (.ref 0), some (.int xa), some (.int xb), none] [] z v _
  refine AW_aload_n dX5_border_0 rfl rfl ?_
  refine AW_iload_n dX5_border_1 rfl rfl ?_
  refine AW_iload_n dX5_border_2 rfl rfl ?_
  refine AW_vI (as := [(.int xa), (.int xb)]) (st := []) dX5_border_3 (bI_0 B) (by decide) rfl mv_X5_isStretch mi_X5_isStretch ml_X5_270 (Nat.le_of_ble_eq_true rfl) rfl (Nat.le_refl 0) (Nat.le_refl 0) H (fun r2 v1 H => ?_)
  refine AW_if_ne (tgt := 11) dX5_border_6 (by decide) (fun c => ?_) (fun c => ?_)
  · replace H := H.1 c
    refine AW_aload_n dX5_border_11 rfl rfl ?_
    refine AW_getR dX5_border_12 (bI_0 B) fl_X5_31 (bR_0_3 B) ?_
    refine AW_aload_n dX5_border_15 rfl rfl ?_
    refine AW_getR dX5_border_16 (bI_0 B) fl_X5_31 (bR_0_3 B) ?_
    refine AW_getR dX5_border_19 (bI_30 B) fl_X5_136 (bR_30_4 B) ?_
    refine AW_iload_n dX5_border_22 rfl rfl ?_
    refine AW_iload_n dX5_border_23 rfl rfl ?_
    refine AW_vI (as := [(.ref 31), (.int xa), (.int xb)]) (st := []) dX5_border_24 (bI_30 B) (by decide) rfl mv_X1_firstHighest mi_X1_firstHighest ml_X5_266 (Nat.le_of_ble_eq_true rfl) rfl (Nat.le_refl 0) (Nat.le_refl 0) H (fun r4 v3 H => ?_)
    refine AW_istore_n (L' := [some (.ref 0), some (.int xa), some (.int xb), some (.int r4)]) dX5_border_27 rfl (by decide) rfl ?_
    refine AW_aload_n dX5_border_28 rfl rfl ?_
    refine AW_iload_n dX5_border_29 rfl rfl ?_
    refine AW_aload_n dX5_border_30 rfl rfl ?_
    refine AW_getR dX5_border_31 (bI_0 B) fl_X5_31 (bR_0_3 B) ?_
    refine AW_getR dX5_border_34 (bI_30 B) fl_X5_136 (bR_30_4 B) ?_
    refine AW_iload_n dX5_border_37 rfl rfl ?_
    have hi5 := H.1
    replace H := H.2
    refine AW_iald dX5_border_38 (bI_31 B) hi5 ?_
    refine AW_vI (as := [(.int r4), (.int (v3.1 31 r4.toNatClampNeg))]) (st := []) dX5_border_39 (bI_0 B) (by decide) rfl mv_X5_tell mi_X5_tell ml_X5_90 (Nat.le_of_ble_eq_true rfl) rfl (Nat.le_refl 0) (Nat.le_refl 0) H (fun r7 v6 H => ?_)
    exact AW_rI dX5_border_42 rfl rfl H
  · replace H := H.2 c
    refine AW_iconst (x := (-1)) dX5_border_9 (by decide) ?_
    exact AW_rI dX5_border_10 rfl rfl H
set_option maxRecDepth 100000 in
set_option maxHeartbeats 4000000 in
theorem vc_X5_shifts {G : xG} {d : Nat} {z : xZ} {v : xS} {Q : Int32 → xS → Prop} (B : Base z) {xa : Int32} {xb : Int32} 
    (H : (oX5_isStretch G d [(.ref 0), (.int xa), (.int xb)] z v (fun r2 v1 => ((¬ r2 = 0 → (oX1_firstHighest G d [(.ref 30), (.ref 31), (.int xa), (.int xb)] z v1 (fun r4 v3 => (oX1_programs G d [(.ref 30)] z v3 (fun r6 v5 => aX5_shifts G (d + 1) 47 [some (.ref 0), some (.int xa), some (.int xb), some (.int r4), some (.int 0), some (.int (-9)), some (.int r6), some (.int 0)] [] z v5 Q))))) ∧ (r2 = 0 → Q (-1) v1))))) :
    oX5_shifts G (d + 1) [(.ref 0), (.int xa), (.int xb)] z v Q := by
  refine Ok_of (own := RX5) (by decide) rfl (Nat.le_of_ble_eq_true rfl) ?_
  show AW G (d + 1) 0 0 yX5_shifts cX5_shifts 8 (some .int) RX5 0 0 0 [some (.ref 0), some (.int xa), some (.int xb), none, none, none, none, none] [] z v _
  refine AW_aload_n dX5_shifts_0 rfl rfl ?_
  refine AW_iload_n dX5_shifts_1 rfl rfl ?_
  refine AW_iload_n dX5_shifts_2 rfl rfl ?_
  refine AW_vI (as := [(.int xa), (.int xb)]) (st := []) dX5_shifts_3 (bI_0 B) (by decide) rfl mv_X5_isStretch mi_X5_isStretch ml_X5_270 (Nat.le_of_ble_eq_true rfl) rfl (Nat.le_refl 0) (Nat.le_refl 0) H (fun r2 v1 H => ?_)
  refine AW_if_ne (tgt := 11) dX5_shifts_6 (by decide) (fun c => ?_) (fun c => ?_)
  · replace H := H.1 c
    refine AW_aload_n dX5_shifts_11 rfl rfl ?_
    refine AW_getR dX5_shifts_12 (bI_0 B) fl_X5_31 (bR_0_3 B) ?_
    refine AW_aload_n dX5_shifts_15 rfl rfl ?_
    refine AW_getR dX5_shifts_16 (bI_0 B) fl_X5_31 (bR_0_3 B) ?_
    refine AW_getR dX5_shifts_19 (bI_30 B) fl_X5_136 (bR_30_4 B) ?_
    refine AW_iload_n dX5_shifts_22 rfl rfl ?_
    refine AW_iload_n dX5_shifts_23 rfl rfl ?_
    refine AW_vI (as := [(.ref 31), (.int xa), (.int xb)]) (st := []) dX5_shifts_24 (bI_30 B) (by decide) rfl mv_X1_firstHighest mi_X1_firstHighest ml_X5_266 (Nat.le_of_ble_eq_true rfl) rfl (Nat.le_refl 0) (Nat.le_refl 0) H (fun r4 v3 H => ?_)
    refine AW_istore_n (L' := [some (.ref 0), some (.int xa), some (.int xb), some (.int r4), none, none, none, none]) dX5_shifts_27 rfl (by decide) rfl ?_
    refine AW_iconst (x := 0) dX5_shifts_28 (by decide) ?_
    refine AW_istore (L' := [some (.ref 0), some (.int xa), some (.int xb), some (.int r4), some (.int 0), none, none, none]) dX5_shifts_29 (by decide) rfl ?_
    refine AW_bipush (x := (-9)) dX5_shifts_31 (by decide) ?_
    refine AW_istore (L' := [some (.ref 0), some (.int xa), some (.int xb), some (.int r4), some (.int 0), some (.int (-9)), none, none]) dX5_shifts_33 (by decide) rfl ?_
    refine AW_aload_n dX5_shifts_35 rfl rfl ?_
    refine AW_getR dX5_shifts_36 (bI_0 B) fl_X5_31 (bR_0_3 B) ?_
    refine AW_vI (as := []) (st := []) dX5_shifts_39 (bI_30 B) (by decide) rfl mv_X1_programs mi_X1_programs ml_X5_242 (Nat.le_of_ble_eq_true rfl) rfl (Nat.le_refl 0) (Nat.le_refl 0) H (fun r6 v5 H => ?_)
    refine AW_istore (L' := [some (.ref 0), some (.int xa), some (.int xb), some (.int r4), some (.int 0), some (.int (-9)), some (.int r6), none]) dX5_shifts_42 (by decide) rfl ?_
    refine AW_iconst (x := 0) dX5_shifts_44 (by decide) ?_
    refine AW_istore (L' := [some (.ref 0), some (.int xa), some (.int xb), some (.int r4), some (.int 0), some (.int (-9)), some (.int r6), some (.int 0)]) dX5_shifts_45 (by decide) rfl ?_
    exact H
  · replace H := H.2 c
    refine AW_iconst (x := (-1)) dX5_shifts_9 (by decide) ?_
    exact AW_rI dX5_shifts_10 rfl rfl H
set_option maxRecDepth 100000 in
set_option maxHeartbeats 4000000 in
theorem vc_X5_shifts_47 {G : xG} {d : Nat} {z : xZ} {v : xS} {Q : Int32 → xS → Prop} (B : Base z)  {l1 : Int32} {l2 : Int32} {l3 : Int32} {l4 : Int32} {l5 : Int32} {l6 : Int32} {l7 : Int32} 
    (H : ((l6 ≤ l7 → (oX5_tell G d [(.ref 0), (.int l4), (.int l5)] z v (fun r2 v1 => Q r2 v1))) ∧ (¬ l6 ≤ l7 → (oX0_repeat G d [(.ref 70), (.int l7), (.int 1)] z v (fun r4 v3 => (oX1_firstHighest G d [(.ref 30), (.ref 71), (.int l1), (.int l2)] z v3 (fun r6 v5 => ((¬ r6 = l3 → ((¬ l4 = 0 → aX5_shifts G (d + 1) 47 [some (.ref 0), some (.int l1), some (.int l2), some (.int l3), some (.int (l4 + 1)), some (.int l5), some (.int l6), some (.int (l7 + 1))] [] z v5 Q) ∧ (l4 = 0 → aX5_shifts G (d + 1) 47 [some (.ref 0), some (.int l1), some (.int l2), some (.int l3), some (.int (l4 + 1)), some (.int l7), some (.int l6), some (.int (l7 + 1))] [] z v5 Q))) ∧ (r6 = l3 → aX5_shifts G (d + 1) 47 [some (.ref 0), some (.int l1), some (.int l2), some (.int l3), some (.int l4), some (.int l5), some (.int l6), some (.int (l7 + 1))] [] z v5 Q))))))))) :
    aX5_shifts G (d + 1) 47 [some (.ref 0), some (.int l1), some (.int l2), some (.int l3), some (.int l4), some (.int l5), some (.int l6), some (.int l7)] [] z v Q := by
  refine AW_iload dX5_shifts_47 rfl ?_
  refine AW_iload dX5_shifts_49 rfl ?_
  refine AW_icmp_ge (tgt := 106) dX5_shifts_51 (by decide) (fun c => ?_) (fun c => ?_)
  · replace H := H.1 c
    refine AW_aload_n dX5_shifts_106 rfl rfl ?_
    refine AW_iload dX5_shifts_107 rfl ?_
    refine AW_iload dX5_shifts_109 rfl ?_
    refine AW_vI (as := [(.int l4), (.int l5)]) (st := []) dX5_shifts_111 (bI_0 B) (by decide) rfl mv_X5_tell mi_X5_tell ml_X5_90 (Nat.le_of_ble_eq_true rfl) rfl (Nat.le_refl 0) (Nat.le_refl 0) H (fun r2 v1 H => ?_)
    exact AW_rI dX5_shifts_114 rfl rfl H
  · replace H := H.2 c
    refine AW_aload_n dX5_shifts_54 rfl rfl ?_
    refine AW_getR dX5_shifts_55 (bI_0 B) fl_X5_40 (bR_0_4 B) ?_
    refine AW_iload dX5_shifts_58 rfl ?_
    refine AW_iconst (x := 1) dX5_shifts_60 (by decide) ?_
    refine AW_vI (as := [(.int l7), (.int 1)]) (st := []) dX5_shifts_61 (bI_70 B) (by decide) rfl mv_X0_repeat mi_X0_repeat ml_X5_195 (Nat.le_of_ble_eq_true rfl) rfl (Nat.le_refl 0) (Nat.le_refl 0) H (fun r4 v3 H => ?_)
    refine AW_pop dX5_shifts_64 rfl ?_
    refine AW_aload_n dX5_shifts_65 rfl rfl ?_
    refine AW_getR dX5_shifts_66 (bI_0 B) fl_X5_31 (bR_0_3 B) ?_
    refine AW_aload_n dX5_shifts_69 rfl rfl ?_
    refine AW_getR dX5_shifts_70 (bI_0 B) fl_X5_40 (bR_0_4 B) ?_
    refine AW_getR dX5_shifts_73 (bI_70 B) fl_X5_198 (bR_70_1 B) ?_
    refine AW_iload_n dX5_shifts_76 rfl rfl ?_
    refine AW_iload_n dX5_shifts_77 rfl rfl ?_
    refine AW_vI (as := [(.ref 71), (.int l1), (.int l2)]) (st := []) dX5_shifts_78 (bI_30 B) (by decide) rfl mv_X1_firstHighest mi_X1_firstHighest ml_X5_266 (Nat.le_of_ble_eq_true rfl) rfl (Nat.le_refl 0) (Nat.le_refl 0) H (fun r6 v5 H => ?_)
    refine AW_iload_n dX5_shifts_81 rfl rfl ?_
    refine AW_icmp_ne (tgt := 88) dX5_shifts_82 (by decide) (fun c => ?_) (fun c => ?_)
    · replace H := H.1 c
      refine AW_iload dX5_shifts_88 rfl ?_
      refine AW_if_ne (tgt := 97) dX5_shifts_90 (by decide) (fun c => ?_) (fun c => ?_)
      · replace H := H.1 c
        refine AW_iinc (x' := l4 + 1) (L' := [some (.ref 0), some (.int l1), some (.int l2), some (.int l3), some (.int (l4 + 1)), some (.int l5), some (.int l6), some (.int l7)]) dX5_shifts_97 rfl rfl (by decide) rfl ?_
        refine AW_iinc (x' := l7 + 1) (L' := [some (.ref 0), some (.int l1), some (.int l2), some (.int l3), some (.int (l4 + 1)), some (.int l5), some (.int l6), some (.int (l7 + 1))]) dX5_shifts_100 rfl rfl (by decide) rfl ?_
        refine AW_goto (tgt := 47) dX5_shifts_103 (by decide) ?_
        exact H
      · replace H := H.2 c
        refine AW_iload dX5_shifts_93 rfl ?_
        refine AW_istore (L' := [some (.ref 0), some (.int l1), some (.int l2), some (.int l3), some (.int l4), some (.int l7), some (.int l6), some (.int l7)]) dX5_shifts_95 (by decide) rfl ?_
        refine AW_iinc (x' := l4 + 1) (L' := [some (.ref 0), some (.int l1), some (.int l2), some (.int l3), some (.int (l4 + 1)), some (.int l7), some (.int l6), some (.int l7)]) dX5_shifts_97 rfl rfl (by decide) rfl ?_
        refine AW_iinc (x' := l7 + 1) (L' := [some (.ref 0), some (.int l1), some (.int l2), some (.int l3), some (.int (l4 + 1)), some (.int l7), some (.int l6), some (.int (l7 + 1))]) dX5_shifts_100 rfl rfl (by decide) rfl ?_
        refine AW_goto (tgt := 47) dX5_shifts_103 (by decide) ?_
        exact H
    · replace H := H.2 c
      refine AW_goto (tgt := 100) dX5_shifts_85 (by decide) ?_
      refine AW_iinc (x' := l7 + 1) (L' := [some (.ref 0), some (.int l1), some (.int l2), some (.int l3), some (.int l4), some (.int l5), some (.int l6), some (.int (l7 + 1))]) dX5_shifts_100 rfl rfl (by decide) rfl ?_
      refine AW_goto (tgt := 47) dX5_shifts_103 (by decide) ?_
      exact H
set_option maxRecDepth 100000 in
set_option maxHeartbeats 4000000 in
theorem vc_X5_far {G : xG} {d : Nat} {z : xZ} {v : xS} {Q : Int32 → xS → Prop} (B : Base z) {xa : Int32} 
    (H : (oX5_groundRefusal G d [(.ref 0), (.int xa)] z v (fun r2 v1 => ((r2 = 0 → aX5_far G (d + 1) 14 [some (.ref 0), some (.int xa), some (.int r2), some (.int 0), none, none] [] z v1 Q) ∧ (¬ r2 = 0 → Q r2 v1))))) :
    oX5_far G (d + 1) [(.ref 0), (.int xa)] z v Q := by
  refine Ok_of (own := RX5) (by decide) rfl (Nat.le_of_ble_eq_true rfl) ?_
  show AW G (d + 1) 0 0 yX5_far cX5_far 6 (some .int) RX5 0 0 0 [some (.ref 0), some (.int xa), none, none, none, none] [] z v _
  refine AW_aload_n dX5_far_0 rfl rfl ?_
  refine AW_iload_n dX5_far_1 rfl rfl ?_
  refine AW_vI (as := [(.int xa)]) (st := []) dX5_far_2 (bI_0 B) (by decide) rfl mv_X5_groundRefusal mi_X5_groundRefusal ml_X5_239 (Nat.le_of_ble_eq_true rfl) rfl (Nat.le_refl 0) (Nat.le_refl 0) H (fun r2 v1 H => ?_)
  refine AW_istore_n (L' := [some (.ref 0), some (.int xa), some (.int r2), none, none, none]) dX5_far_5 rfl (by decide) rfl ?_
  refine AW_iload_n dX5_far_6 rfl rfl ?_
  refine AW_if_eq (tgt := 12) dX5_far_7 (by decide) (fun c => ?_) (fun c => ?_)
  · replace H := H.1 c
    refine AW_iconst (x := 0) dX5_far_12 (by decide) ?_
    refine AW_istore_n (L' := [some (.ref 0), some (.int xa), some (.int r2), some (.int 0), none, none]) dX5_far_13 rfl (by decide) rfl ?_
    exact H
  · replace H := H.2 c
    refine AW_iload_n dX5_far_10 rfl rfl ?_
    exact AW_rI dX5_far_11 rfl rfl H
set_option maxRecDepth 100000 in
set_option maxHeartbeats 4000000 in
theorem vc_X5_far_14 {G : xG} {d : Nat} {z : xZ} {v : xS} {Q : Int32 → xS → Prop} (B : Base z)  {l1 : Int32} {l2 : Int32} {l3 : Int32} 
    (H : (((v.1 30 0) ≤ l3 → (oX4_sumOf G d [(.ref 1), (.int l1)] z v (fun r2 v1 => (oX1_allInches G d [(.ref 30)] z v1 (fun r4 v3 => (((lg_cmp r2 r4.toInt64) = 0 → aX5_far G (d + 1) 83 [some (.ref 0), some (.int l1), some (.int l2), some (.int 0), some (.int 0), some (.int 0)] [] z v3 Q) ∧ (¬ (lg_cmp r2 r4.toInt64) = 0 → (oX5_find G d [(.ref 0), (.int 4)] z v3 (fun r6 v5 => Q r6 v5))))))))) ∧ (¬ (v.1 30 0) ≤ l3 → (oX4_get G d [(.ref 1), (.int l1), (.int l3)] z v (fun r8 v7 => ((0 ≤ r8 → aX5_far G (d + 1) 14 [some (.ref 0), some (.int l1), some (.int l2), some (.int (l3 + 1)), none, none] [] z v7 Q) ∧ (¬ 0 ≤ r8 → (oX5_find G d [(.ref 0), (.int 3)] z v7 (fun r10 v9 => Q r10 v9))))))))) :
    aX5_far G (d + 1) 14 [some (.ref 0), some (.int l1), some (.int l2), some (.int l3), none, none] [] z v Q := by
  refine AW_iload_n dX5_far_14 rfl rfl ?_
  refine AW_aload_n dX5_far_15 rfl rfl ?_
  refine AW_getR dX5_far_16 (bI_0 B) fl_X5_31 (bR_0_3 B) ?_
  refine AW_getI dX5_far_19 (bI_30 B) fl_X5_127 ?_
  refine AW_icmp_ge (tgt := 49) dX5_far_22 (by decide) (fun c => ?_) (fun c => ?_)
  · replace H := H.1 c
    refine AW_aload_n dX5_far_49 rfl rfl ?_
    refine AW_getR dX5_far_50 (bI_0 B) fl_X5_14 (bR_0_0 B) ?_
    refine AW_iload_n dX5_far_53 rfl rfl ?_
    refine AW_vL (as := [(.int l1)]) (st := []) dX5_far_54 (bI_1 B) (by decide) rfl mv_X4_sumOf mi_X4_sumOf ml_X5_115 (Nat.le_of_ble_eq_true rfl) rfl (Nat.le_refl 0) (Nat.le_refl 0) H (fun r2 v1 H => ?_)
    refine AW_aload_n dX5_far_57 rfl rfl ?_
    refine AW_getR dX5_far_58 (bI_0 B) fl_X5_31 (bR_0_3 B) ?_
    refine AW_vI (as := []) (st := [(.long r2)]) dX5_far_61 (bI_30 B) (by decide) rfl mv_X1_allInches mi_X1_allInches ml_X5_188 (Nat.le_of_ble_eq_true rfl) rfl (Nat.le_refl 0) (Nat.le_refl 0) H (fun r4 v3 H => ?_)
    refine AW_i2l dX5_far_64 ?_
    refine AW_lcmp dX5_far_65 ?_
    refine AW_if_eq (tgt := 75) dX5_far_66 (by decide) (fun c => ?_) (fun c => ?_)
    · replace H := H.1 c
      refine AW_iconst (x := 0) dX5_far_75 (by decide) ?_
      refine AW_istore_n (L' := [some (.ref 0), some (.int l1), some (.int l2), some (.int 0), none, none]) dX5_far_76 rfl (by decide) rfl ?_
      refine AW_iconst (x := 0) dX5_far_77 (by decide) ?_
      refine AW_istore (L' := [some (.ref 0), some (.int l1), some (.int l2), some (.int 0), some (.int 0), none]) dX5_far_78 (by decide) rfl ?_
      refine AW_iconst (x := 0) dX5_far_80 (by decide) ?_
      refine AW_istore (L' := [some (.ref 0), some (.int l1), some (.int l2), some (.int 0), some (.int 0), some (.int 0)]) dX5_far_81 (by decide) rfl ?_
      exact H
    · replace H := H.2 c
      refine AW_aload_n dX5_far_69 rfl rfl ?_
      refine AW_iconst (x := 4) dX5_far_70 (by decide) ?_
      refine AW_vI (as := [(.int 4)]) (st := []) dX5_far_71 (bI_0 B) (by decide) rfl mv_X5_find mi_X5_find ml_X5_96 (Nat.le_of_ble_eq_true rfl) rfl (Nat.le_refl 0) (Nat.le_refl 0) H (fun r6 v5 H => ?_)
      exact AW_rI dX5_far_74 rfl rfl H
  · replace H := H.2 c
    refine AW_aload_n dX5_far_25 rfl rfl ?_
    refine AW_getR dX5_far_26 (bI_0 B) fl_X5_14 (bR_0_0 B) ?_
    refine AW_iload_n dX5_far_29 rfl rfl ?_
    refine AW_iload_n dX5_far_30 rfl rfl ?_
    refine AW_vI (as := [(.int l1), (.int l3)]) (st := []) dX5_far_31 (bI_1 B) (by decide) rfl mv_X4_get mi_X4_get ml_X5_82 (Nat.le_of_ble_eq_true rfl) rfl (Nat.le_refl 0) (Nat.le_refl 0) H (fun r8 v7 H => ?_)
    refine AW_if_ge (tgt := 43) dX5_far_34 (by decide) (fun c => ?_) (fun c => ?_)
    · replace H := H.1 c
      refine AW_iinc (x' := l3 + 1) (L' := [some (.ref 0), some (.int l1), some (.int l2), some (.int (l3 + 1)), none, none]) dX5_far_43 rfl rfl (by decide) rfl ?_
      refine AW_goto (tgt := 14) dX5_far_46 (by decide) ?_
      exact H
    · replace H := H.2 c
      refine AW_aload_n dX5_far_37 rfl rfl ?_
      refine AW_iconst (x := 3) dX5_far_38 (by decide) ?_
      refine AW_vI (as := [(.int 3)]) (st := []) dX5_far_39 (bI_0 B) (by decide) rfl mv_X5_find mi_X5_find ml_X5_96 (Nat.le_of_ble_eq_true rfl) rfl (Nat.le_refl 0) (Nat.le_refl 0) H (fun r10 v9 H => ?_)
      exact AW_rI dX5_far_42 rfl rfl H
set_option maxRecDepth 100000 in
set_option maxHeartbeats 4000000 in
theorem vc_X5_far_83 {G : xG} {d : Nat} {z : xZ} {v : xS} {Q : Int32 → xS → Prop} (B : Base z)  {l1 : Int32} {l2 : Int32} {l3 : Int32} {l4 : Int32} {l5 : Int32} 
    (H : (((v.1 30 0) ≤ l5 → Q l4 v) ∧ (¬ (v.1 30 0) ≤ l5 → (vp_in l5 10 ∧ (oX4_get G d [(.ref 1), (.int l1), (.int l5)] z v (fun r3 v2 => aX5_far G (d + 1) 83 [some (.ref 0), some (.int l1), some (.int l2), some (.int (l3 + ((v.1 31 l5.toNatClampNeg) - r3))), some (.int (l4 + (if 0 ≤ (l3 + ((v.1 31 l5.toNatClampNeg) - r3)) then (l3 + ((v.1 31 l5.toNatClampNeg) - r3)) else 0 - (l3 + ((v.1 31 l5.toNatClampNeg) - r3))))), some (.int (l5 + 1))] [] z v2 Q)))))) :
    aX5_far G (d + 1) 83 [some (.ref 0), some (.int l1), some (.int l2), some (.int l3), some (.int l4), some (.int l5)] [] z v Q := by
  refine AW_iload dX5_far_83 rfl ?_
  refine AW_aload_n dX5_far_85 rfl rfl ?_
  refine AW_getR dX5_far_86 (bI_0 B) fl_X5_31 (bR_0_3 B) ?_
  refine AW_getI dX5_far_89 (bI_30 B) fl_X5_127 ?_
  refine AW_icmp_ge (tgt := 134) dX5_far_92 (by decide) (fun c => ?_) (fun c => ?_)
  · replace H := H.1 c
    refine AW_iload dX5_far_134 rfl ?_
    exact AW_rI dX5_far_136 rfl rfl H
  · replace H := H.2 c
    refine AW_iload_n dX5_far_95 rfl rfl ?_
    refine AW_aload_n dX5_far_96 rfl rfl ?_
    refine AW_getR dX5_far_97 (bI_0 B) fl_X5_31 (bR_0_3 B) ?_
    refine AW_getR dX5_far_100 (bI_30 B) fl_X5_136 (bR_30_4 B) ?_
    refine AW_iload dX5_far_103 rfl ?_
    have hi1 := H.1
    replace H := H.2
    refine AW_iald dX5_far_105 (bI_31 B) hi1 ?_
    refine AW_aload_n dX5_far_106 rfl rfl ?_
    refine AW_getR dX5_far_107 (bI_0 B) fl_X5_14 (bR_0_0 B) ?_
    refine AW_iload_n dX5_far_110 rfl rfl ?_
    refine AW_iload dX5_far_111 rfl ?_
    refine AW_vI (as := [(.int l1), (.int l5)]) (st := [(.int (v.1 31 l5.toNatClampNeg)), (.int l3)]) dX5_far_113 (bI_1 B) (by decide) rfl mv_X4_get mi_X4_get ml_X5_82 (Nat.le_of_ble_eq_true rfl) rfl (Nat.le_refl 0) (Nat.le_refl 0) H (fun r3 v2 H => ?_)
    refine AW_isub dX5_far_116 ?_
    refine AW_iadd dX5_far_117 ?_
    refine AW_istore_n (L' := [some (.ref 0), some (.int l1), some (.int l2), some (.int (l3 + ((v.1 31 l5.toNatClampNeg) - r3))), some (.int l4), some (.int l5)]) dX5_far_118 rfl (by decide) rfl ?_
    refine AW_iload dX5_far_119 rfl ?_
    refine AW_iload_n dX5_far_121 rfl rfl ?_
    refine AW_abs dX5_far_122 ml_X5_273 w_abs (Nat.succ_pos _) (Nat.le_of_ble_eq_true rfl) (Nat.le_refl 0) (Nat.le_refl 0) ?_
    refine AW_iadd dX5_far_125 ?_
    refine AW_istore (L' := [some (.ref 0), some (.int l1), some (.int l2), some (.int (l3 + ((v.1 31 l5.toNatClampNeg) - r3))), some (.int (l4 + (if 0 ≤ (l3 + ((v.1 31 l5.toNatClampNeg) - r3)) then (l3 + ((v.1 31 l5.toNatClampNeg) - r3)) else 0 - (l3 + ((v.1 31 l5.toNatClampNeg) - r3))))), some (.int l5)]) dX5_far_126 (by decide) rfl ?_
    refine AW_iinc (x' := l5 + 1) (L' := [some (.ref 0), some (.int l1), some (.int l2), some (.int (l3 + ((v.1 31 l5.toNatClampNeg) - r3))), some (.int (l4 + (if 0 ≤ (l3 + ((v.1 31 l5.toNatClampNeg) - r3)) then (l3 + ((v.1 31 l5.toNatClampNeg) - r3)) else 0 - (l3 + ((v.1 31 l5.toNatClampNeg) - r3))))), some (.int (l5 + 1))]) dX5_far_128 rfl rfl (by decide) rfl ?_
    refine AW_goto (tgt := 83) dX5_far_131 (by decide) ?_
    exact H
set_option maxRecDepth 100000 in
set_option maxHeartbeats 4000000 in
theorem vc_X5_season {G : xG} {d : Nat} {z : xZ} {v : xS} {Q : Int32 → xS → Prop} (B : Base z) {xa : Int32} {xb : Int32} 
    (H : ((xa < 1 → Q (-1) v) ∧ (¬ xa < 1 → ((40 < xa → Q (-1) v) ∧ (¬ 40 < xa → ((xb < 1 → Q (-1) v) ∧ (¬ xb < 1 → ((xb ≤ 2147483646 → (oX1_programs G d [(.ref 30)] z v (fun r2 v1 => (((v1.1 30 0) = 0 → Q (-4) v1) ∧ (¬ (v1.1 30 0) = 0 → ((1 ≤ r2 → ((((v1.1 30 3) + xa) ≤ 60 → aX5_season G (d + 1) 78 [some (.ref 0), some (.int xa), some (.int xb), some (.int r2), some (.long xb.toInt64), none, some (.int 0), some (.int 0)] [] z v1 Q) ∧ (¬ ((v1.1 30 3) + xa) ≤ 60 → Q (-2) v1))) ∧ (¬ 1 ≤ r2 → Q (-4) v1))))))) ∧ (¬ xb ≤ 2147483646 → Q (-1) v))))))))) :
    oX5_season G (d + 1) [(.ref 0), (.int xa), (.int xb)] z v Q := by
  refine Ok_of (own := RX5) (by decide) rfl (Nat.le_of_ble_eq_true rfl) ?_
  show AW G (d + 1) 0 0 yX5_season cX5_season 8 (some .int) RX5 0 0 0 [some (.ref 0), some (.int xa), some (.int xb), none, none, none, none, none] [] z v _
  refine AW_iload_n dX5_season_0 rfl rfl ?_
  refine AW_iconst (x := 1) dX5_season_1 (by decide) ?_
  refine AW_icmp_lt (tgt := 23) dX5_season_2 (by decide) (fun c => ?_) (fun c => ?_)
  · replace H := H.1 c
    refine AW_iconst (x := (-1)) dX5_season_23 (by decide) ?_
    exact AW_rI dX5_season_24 rfl rfl H
  · replace H := H.2 c
    refine AW_iload_n dX5_season_5 rfl rfl ?_
    refine AW_bipush (x := 40) dX5_season_6 (by decide) ?_
    refine AW_icmp_gt (tgt := 23) dX5_season_8 (by decide) (fun c => ?_) (fun c => ?_)
    · replace H := H.1 c
      refine AW_iconst (x := (-1)) dX5_season_23 (by decide) ?_
      exact AW_rI dX5_season_24 rfl rfl H
    · replace H := H.2 c
      refine AW_iload_n dX5_season_11 rfl rfl ?_
      refine AW_iconst (x := 1) dX5_season_12 (by decide) ?_
      refine AW_icmp_lt (tgt := 23) dX5_season_13 (by decide) (fun c => ?_) (fun c => ?_)
      · replace H := H.1 c
        refine AW_iconst (x := (-1)) dX5_season_23 (by decide) ?_
        exact AW_rI dX5_season_24 rfl rfl H
      · replace H := H.2 c
        refine AW_iload_n dX5_season_16 rfl rfl ?_
        refine AW_ldcw dX5_season_17 ki_X5_276 ?_
        refine AW_icmp_le (tgt := 25) dX5_season_20 (by decide) (fun c => ?_) (fun c => ?_)
        · replace H := H.1 c
          refine AW_aload_n dX5_season_25 rfl rfl ?_
          refine AW_getR dX5_season_26 (bI_0 B) fl_X5_31 (bR_0_3 B) ?_
          refine AW_vI (as := []) (st := []) dX5_season_29 (bI_30 B) (by decide) rfl mv_X1_programs mi_X1_programs ml_X5_242 (Nat.le_of_ble_eq_true rfl) rfl (Nat.le_refl 0) (Nat.le_refl 0) H (fun r2 v1 H => ?_)
          refine AW_istore_n (L' := [some (.ref 0), some (.int xa), some (.int xb), some (.int r2), none, none, none, none]) dX5_season_32 rfl (by decide) rfl ?_
          refine AW_aload_n dX5_season_33 rfl rfl ?_
          refine AW_getR dX5_season_34 (bI_0 B) fl_X5_31 (bR_0_3 B) ?_
          refine AW_getI dX5_season_37 (bI_30 B) fl_X5_127 ?_
          refine AW_if_eq (tgt := 48) dX5_season_40 (by decide) (fun c => ?_) (fun c => ?_)
          · replace H := H.1 c
            refine AW_bipush (x := (-4)) dX5_season_48 (by decide) ?_
            exact AW_rI dX5_season_50 rfl rfl H
          · replace H := H.2 c
            refine AW_iload_n dX5_season_43 rfl rfl ?_
            refine AW_iconst (x := 1) dX5_season_44 (by decide) ?_
            refine AW_icmp_ge (tgt := 51) dX5_season_45 (by decide) (fun c => ?_) (fun c => ?_)
            · replace H := H.1 c
              refine AW_aload_n dX5_season_51 rfl rfl ?_
              refine AW_getR dX5_season_52 (bI_0 B) fl_X5_31 (bR_0_3 B) ?_
              refine AW_getI dX5_season_55 (bI_30 B) fl_X5_173 ?_
              refine AW_iload_n dX5_season_58 rfl rfl ?_
              refine AW_iadd dX5_season_59 ?_
              refine AW_bipush (x := 60) dX5_season_60 (by decide) ?_
              refine AW_icmp_le (tgt := 68) dX5_season_62 (by decide) (fun c => ?_) (fun c => ?_)
              · replace H := H.1 c
                refine AW_iload_n dX5_season_68 rfl rfl ?_
                refine AW_i2l dX5_season_69 ?_
                refine AW_lstore (L' := [some (.ref 0), some (.int xa), some (.int xb), some (.int r2), some (.long xb.toInt64), none, none, none]) dX5_season_70 (by decide) rfl ?_
                refine AW_iconst (x := 0) dX5_season_72 (by decide) ?_
                refine AW_istore (L' := [some (.ref 0), some (.int xa), some (.int xb), some (.int r2), some (.long xb.toInt64), none, some (.int 0), none]) dX5_season_73 (by decide) rfl ?_
                refine AW_iconst (x := 0) dX5_season_75 (by decide) ?_
                refine AW_istore (L' := [some (.ref 0), some (.int xa), some (.int xb), some (.int r2), some (.long xb.toInt64), none, some (.int 0), some (.int 0)]) dX5_season_76 (by decide) rfl ?_
                exact H
              · replace H := H.2 c
                refine AW_bipush (x := (-2)) dX5_season_65 (by decide) ?_
                exact AW_rI dX5_season_67 rfl rfl H
            · replace H := H.2 c
              refine AW_bipush (x := (-4)) dX5_season_48 (by decide) ?_
              exact AW_rI dX5_season_50 rfl rfl H
        · replace H := H.2 c
          refine AW_iconst (x := (-1)) dX5_season_23 (by decide) ?_
          exact AW_rI dX5_season_24 rfl rfl H
set_option maxRecDepth 100000 in
set_option maxHeartbeats 4000000 in
theorem vc_X5_season_78 {G : xG} {d : Nat} {z : xZ} {v : xS} {Q : Int32 → xS → Prop} (B : Base z)  {l1 : Int32} {l2 : Int32} {l3 : Int32} {l4 : Int64} {l6 : Int32} {l7 : Int32} 
    (H : ((l1 ≤ l7 → Q l6 v) ∧ (¬ l1 ≤ l7 → (oX5_frostByLot G d [(.ref 0), (.long ((48271 * l4) - (48271 * l4) / 2147483647 * 2147483647))] z v (fun r2 v1 => (∀ v3 : xS, v3 = wV v1 30 2 r2 → (¬ l3.toInt64 = 0 ∧ (oX1_playTruly G d [(.ref 30), (.int ((((48271 * l4) - (48271 * l4) / 2147483647 * 2147483647) - ((48271 * l4) - (48271 * l4) / 2147483647 * 2147483647) / l3.toInt64 * l3.toInt64).toInt32))] z v3 (fun r5 v4 => aX5_season G (d + 1) 78 [some (.ref 0), some (.int l1), some (.int l2), some (.int l3), some (.long ((48271 * l4) - (48271 * l4) / 2147483647 * 2147483647)), none, some (.int (l6 + r5)), some (.int (l7 + 1))] [] z v4 Q))))))))) :
    aX5_season G (d + 1) 78 [some (.ref 0), some (.int l1), some (.int l2), some (.int l3), some (.long l4), none, some (.int l6), some (.int l7)] [] z v Q := by
  refine AW_iload dX5_season_78 rfl ?_
  refine AW_iload_n dX5_season_80 rfl rfl ?_
  refine AW_icmp_ge (tgt := 133) dX5_season_81 (by decide) (fun c => ?_) (fun c => ?_)
  · replace H := H.1 c
    refine AW_iload dX5_season_133 rfl ?_
    exact AW_rI dX5_season_135 rfl rfl H
  · replace H := H.2 c
    refine AW_ldc2 dX5_season_84 kl_X5_277 ?_
    refine AW_lload dX5_season_87 rfl ?_
    refine AW_lmul dX5_season_89 ?_
    refine AW_ldc2 dX5_season_90 kl_X5_279 ?_
    refine AW_lrem dX5_season_93 (by decide) ?_
    refine AW_lstore (L' := [some (.ref 0), some (.int l1), some (.int l2), some (.int l3), some (.long ((48271 * l4) - (48271 * l4) / 2147483647 * 2147483647)), none, some (.int l6), some (.int l7)]) dX5_season_94 (by decide) rfl ?_
    refine AW_aload_n dX5_season_96 rfl rfl ?_
    refine AW_getR dX5_season_97 (bI_0 B) fl_X5_31 (bR_0_3 B) ?_
    refine AW_aload_n dX5_season_100 rfl rfl ?_
    refine AW_lload dX5_season_101 rfl ?_
    refine AW_vI (as := [(.long ((48271 * l4) - (48271 * l4) / 2147483647 * 2147483647))]) (st := [(.ref 30)]) dX5_season_103 (bI_0 B) (by decide) rfl mv_X5_frostByLot mi_X5_frostByLot ml_X5_281 (Nat.le_of_ble_eq_true rfl) rfl (Nat.le_refl 0) (Nat.le_refl 0) H (fun r2 v1 H => ?_)
    refine AW_putIN dX5_season_106 (bI_30 B) fl_X5_167 rfl rfl rfl (fun v3 hv3 => ?_)
    replace H := H v3 hv3
    refine AW_iload dX5_season_109 rfl ?_
    refine AW_aload_n dX5_season_111 rfl rfl ?_
    refine AW_getR dX5_season_112 (bI_0 B) fl_X5_31 (bR_0_3 B) ?_
    refine AW_lload dX5_season_115 rfl ?_
    refine AW_iload_n dX5_season_117 rfl rfl ?_
    refine AW_i2l dX5_season_118 ?_
    refine AW_lrem dX5_season_119 H.1 ?_
    replace H := H.2
    refine AW_l2i dX5_season_120 ?_
    refine AW_vI (as := [(.int ((((48271 * l4) - (48271 * l4) / 2147483647 * 2147483647) - ((48271 * l4) - (48271 * l4) / 2147483647 * 2147483647) / l3.toInt64 * l3.toInt64).toInt32))]) (st := [(.int l6)]) dX5_season_121 (bI_30 B) (by decide) rfl mv_X1_playTruly mi_X1_playTruly ml_X5_176 (Nat.le_of_ble_eq_true rfl) rfl (Nat.le_refl 0) (Nat.le_refl 0) H (fun r5 v4 H => ?_)
    refine AW_iadd dX5_season_124 ?_
    refine AW_istore (L' := [some (.ref 0), some (.int l1), some (.int l2), some (.int l3), some (.long ((48271 * l4) - (48271 * l4) / 2147483647 * 2147483647)), none, some (.int (l6 + r5)), some (.int l7)]) dX5_season_125 (by decide) rfl ?_
    refine AW_iinc (x' := l7 + 1) (L' := [some (.ref 0), some (.int l1), some (.int l2), some (.int l3), some (.long ((48271 * l4) - (48271 * l4) / 2147483647 * 2147483647)), none, some (.int (l6 + r5)), some (.int (l7 + 1))]) dX5_season_127 rfl rfl (by decide) rfl ?_
    refine AW_goto (tgt := 78) dX5_season_130 (by decide) ?_
    exact H
set_option maxRecDepth 100000 in
set_option maxHeartbeats 4000000 in
theorem vc_X5_asked {G : xG} {d : Nat} {z : xZ} {v : xS} {Q : Int32 → xS → Prop} (B : Base z)  
    (H : Q (v.1 0 10) v) :
    oX5_asked G (d + 1) [(.ref 0)] z v Q := by
  refine Ok_of (own := RX5) (by decide) rfl (Nat.le_of_ble_eq_true rfl) ?_
  show AW G (d + 1) 0 0 yX5_asked cX5_asked 1 (some .int) RX5 0 0 0 [some (.ref 0)] [] z v _
  refine AW_aload_n dX5_asked_0 rfl rfl ?_
  refine AW_getI dX5_asked_1 (bI_0 B) fl_X5_67 ?_
  exact AW_rI dX5_asked_4 rfl rfl H
set_option maxRecDepth 100000 in
set_option maxHeartbeats 4000000 in
theorem vc_X5_upper {G : xG} {d : Nat} {z : xZ} {v : xS} {Q : Int64 → xS → Prop} (B : Base z)  
    (H : (oX1_allInches G d [(.ref 30)] z v (fun r2 v1 => ((¬ r2 = 0 → (oX1_highestOf G d [(.ref 30), (.ref 31)] z v1 (fun r4 v3 => (oX5_commonDivisor G d [(.int r4), (.int r2)] z v3 (fun r6 v5 => (¬ r6 = 0 ∧ Q ((r4 / r6).toInt64) v5)))))) ∧ (r2 = 0 → Q 0 v1))))) :
    oX5_upper G (d + 1) [(.ref 0)] z v Q := by
  refine Ok_of (own := RX5) (by decide) rfl (Nat.le_of_ble_eq_true rfl) ?_
  show AW G (d + 1) 0 0 yX5_upper cX5_upper 3 (some .long) RX5 0 0 0 [some (.ref 0), none, none] [] z v _
  refine AW_aload_n dX5_upper_0 rfl rfl ?_
  refine AW_getR dX5_upper_1 (bI_0 B) fl_X5_31 (bR_0_3 B) ?_
  refine AW_vI (as := []) (st := []) dX5_upper_4 (bI_30 B) (by decide) rfl mv_X1_allInches mi_X1_allInches ml_X5_188 (Nat.le_of_ble_eq_true rfl) rfl (Nat.le_refl 0) (Nat.le_refl 0) H (fun r2 v1 H => ?_)
  refine AW_istore_n (L' := [some (.ref 0), some (.int r2), none]) dX5_upper_7 rfl (by decide) rfl ?_
  refine AW_iload_n dX5_upper_8 rfl rfl ?_
  refine AW_if_ne (tgt := 14) dX5_upper_9 (by decide) (fun c => ?_) (fun c => ?_)
  · replace H := H.1 c
    refine AW_aload_n dX5_upper_14 rfl rfl ?_
    refine AW_getR dX5_upper_15 (bI_0 B) fl_X5_31 (bR_0_3 B) ?_
    refine AW_aload_n dX5_upper_18 rfl rfl ?_
    refine AW_getR dX5_upper_19 (bI_0 B) fl_X5_31 (bR_0_3 B) ?_
    refine AW_getR dX5_upper_22 (bI_30 B) fl_X5_136 (bR_30_4 B) ?_
    refine AW_vI (as := [(.ref 31)]) (st := []) dX5_upper_25 (bI_30 B) (by decide) rfl mv_X1_highestOf mi_X1_highestOf ml_X5_204 (Nat.le_of_ble_eq_true rfl) rfl (Nat.le_refl 0) (Nat.le_refl 0) H (fun r4 v3 H => ?_)
    refine AW_istore_n (L' := [some (.ref 0), some (.int r2), some (.int r4)]) dX5_upper_28 rfl (by decide) rfl ?_
    refine AW_iload_n dX5_upper_29 rfl rfl ?_
    refine AW_iload_n dX5_upper_30 rfl rfl ?_
    refine AW_iload_n dX5_upper_31 rfl rfl ?_
    refine AW_sI (as := [(.int r4), (.int r2)]) (st := [(.int r4)]) dX5_upper_32 mv_X5_commonDivisor ms_X5_commonDivisor ml_X5_285 (Nat.le_of_ble_eq_true rfl) rfl (Nat.le_refl 0) (Nat.le_refl 0) H (fun r6 v5 H => ?_)
    refine AW_idiv dX5_upper_35 H.1 ?_
    replace H := H.2
    refine AW_i2l dX5_upper_36 ?_
    exact AW_rL dX5_upper_37 rfl H
  · replace H := H.2 c
    refine AW_lconst (x := 0) dX5_upper_12 (by decide) ?_
    exact AW_rL dX5_upper_13 rfl H
set_option maxRecDepth 100000 in
set_option maxHeartbeats 4000000 in
theorem vc_X5_lower {G : xG} {d : Nat} {z : xZ} {v : xS} {Q : Int64 → xS → Prop} (B : Base z)  
    (H : (oX1_allInches G d [(.ref 30)] z v (fun r2 v1 => ((¬ r2 = 0 → (oX1_highestOf G d [(.ref 30), (.ref 31)] z v1 (fun r4 v3 => (oX5_commonDivisor G d [(.int r4), (.int r2)] z v3 (fun r6 v5 => (¬ r6 = 0 ∧ Q ((r2 / r6).toInt64) v5)))))) ∧ (r2 = 0 → Q 1 v1))))) :
    oX5_lower G (d + 1) [(.ref 0)] z v Q := by
  refine Ok_of (own := RX5) (by decide) rfl (Nat.le_of_ble_eq_true rfl) ?_
  show AW G (d + 1) 0 0 yX5_lower cX5_lower 2 (some .long) RX5 0 0 0 [some (.ref 0), none] [] z v _
  refine AW_aload_n dX5_lower_0 rfl rfl ?_
  refine AW_getR dX5_lower_1 (bI_0 B) fl_X5_31 (bR_0_3 B) ?_
  refine AW_vI (as := []) (st := []) dX5_lower_4 (bI_30 B) (by decide) rfl mv_X1_allInches mi_X1_allInches ml_X5_188 (Nat.le_of_ble_eq_true rfl) rfl (Nat.le_refl 0) (Nat.le_refl 0) H (fun r2 v1 H => ?_)
  refine AW_istore_n (L' := [some (.ref 0), some (.int r2)]) dX5_lower_7 rfl (by decide) rfl ?_
  refine AW_iload_n dX5_lower_8 rfl rfl ?_
  refine AW_if_ne (tgt := 14) dX5_lower_9 (by decide) (fun c => ?_) (fun c => ?_)
  · replace H := H.1 c
    refine AW_iload_n dX5_lower_14 rfl rfl ?_
    refine AW_aload_n dX5_lower_15 rfl rfl ?_
    refine AW_getR dX5_lower_16 (bI_0 B) fl_X5_31 (bR_0_3 B) ?_
    refine AW_aload_n dX5_lower_19 rfl rfl ?_
    refine AW_getR dX5_lower_20 (bI_0 B) fl_X5_31 (bR_0_3 B) ?_
    refine AW_getR dX5_lower_23 (bI_30 B) fl_X5_136 (bR_30_4 B) ?_
    refine AW_vI (as := [(.ref 31)]) (st := [(.int r2)]) dX5_lower_26 (bI_30 B) (by decide) rfl mv_X1_highestOf mi_X1_highestOf ml_X5_204 (Nat.le_of_ble_eq_true rfl) rfl (Nat.le_refl 0) (Nat.le_refl 0) H (fun r4 v3 H => ?_)
    refine AW_iload_n dX5_lower_29 rfl rfl ?_
    refine AW_sI (as := [(.int r4), (.int r2)]) (st := [(.int r2)]) dX5_lower_30 mv_X5_commonDivisor ms_X5_commonDivisor ml_X5_285 (Nat.le_of_ble_eq_true rfl) rfl (Nat.le_refl 0) (Nat.le_refl 0) H (fun r6 v5 H => ?_)
    refine AW_idiv dX5_lower_33 H.1 ?_
    replace H := H.2
    refine AW_i2l dX5_lower_34 ?_
    exact AW_rL dX5_lower_35 rfl H
  · replace H := H.2 c
    refine AW_lconst (x := 1) dX5_lower_12 (by decide) ?_
    exact AW_rL dX5_lower_13 rfl H
set_option maxRecDepth 100000 in
set_option maxHeartbeats 4000000 in
theorem vc_X5_count {G : xG} {d : Nat} {z : xZ} {v : xS} {Q : Int32 → xS → Prop} (B : Base z) {xa : Int32} 
    (H : (((xa.toInt < 0 ∨ 8 < xa.toInt) → Q (-1) v) ∧ (xa = 0 → Q (v.1 30 0) v) ∧ (xa = 1 → Q (v.1 30 1) v) ∧ (xa = 2 → Q (v.1 30 3) v) ∧ (xa = 3 → ((¬ (v.1 30 0) = 0 → (oX1_programs G d [(.ref 30)] z v (fun r2 v1 => Q r2 v1))) ∧ ((v.1 30 0) = 0 → Q 0 v))) ∧ (xa = 4 → (oJ6_bitCount_0f7a4 G d [(.int (v.1 30 2))] z v (fun r4 v3 => Q r4 v3))) ∧ (xa = 5 → (oX1_drums G d [(.ref 30)] z v (fun r6 v5 => Q r6 v5))) ∧ (xa = 6 → (oX4_held G d [(.ref 1)] z v (fun r8 v7 => Q r8 v7))) ∧ (xa = 7 → (oX4_held G d [(.ref 10)] z v (fun r10 v9 => Q r10 v9))) ∧ (xa = 8 → (oX5_keptNow G d [(.ref 0)] z v (fun r12 v11 => Q r12 v11))))) :
    oX5_count G (d + 1) [(.ref 0), (.int xa)] z v Q := by
  refine Ok_of (own := RX5) (by decide) rfl (Nat.le_of_ble_eq_true rfl) ?_
  show AW G (d + 1) 0 0 yX5_count cX5_count 2 (some .int) RX5 0 0 0 [some (.ref 0), some (.int xa)] [] z v _
  refine AW_iload_n dX5_count_0 rfl rfl ?_
  by_cases cz : xa.toInt < 0 ∨ 8 < xa.toInt
  · refine AW_tableOut (tgt := 138) dX5_count_1 cz (by decide) ?_
    replace H := H.1 cz
    refine AW_iconst (x := (-1)) dX5_count_138 (by decide) ?_
    exact AW_rI dX5_count_139 rfl rfl H
  · have cy : xa = 0 ∨ xa = 1 ∨ xa = 2 ∨ xa = 3 ∨ xa = 4 ∨ xa = 5 ∨ xa = 6 ∨ xa = 7 ∨ xa = 8 := xsw_0_8 cz
    replace H := H.2
    rcases cy with cy | cy
    · replace H := H.1 cy
      refine AW_tableIn (off := 51) (tgt := 52) dX5_count_1 (by rw [cy]; decide) (by rw [cy]; decide) (by rw [cy]; decide) (by decide) ?_
      refine AW_aload_n dX5_count_52 rfl rfl ?_
      refine AW_getR dX5_count_53 (bI_0 B) fl_X5_31 (bR_0_3 B) ?_
      refine AW_getI dX5_count_56 (bI_30 B) fl_X5_127 ?_
      exact AW_rI dX5_count_59 rfl rfl H
    rcases cy with cy | cy
    · replace H := H.2.1 cy
      refine AW_tableIn (off := 59) (tgt := 60) dX5_count_1 (by rw [cy]; decide) (by rw [cy]; decide) (by rw [cy]; decide) (by decide) ?_
      refine AW_aload_n dX5_count_60 rfl rfl ?_
      refine AW_getR dX5_count_61 (bI_0 B) fl_X5_31 (bR_0_3 B) ?_
      refine AW_getI dX5_count_64 (bI_30 B) fl_X5_288 ?_
      exact AW_rI dX5_count_67 rfl rfl H
    rcases cy with cy | cy
    · replace H := H.2.2.1 cy
      refine AW_tableIn (off := 67) (tgt := 68) dX5_count_1 (by rw [cy]; decide) (by rw [cy]; decide) (by rw [cy]; decide) (by decide) ?_
      refine AW_aload_n dX5_count_68 rfl rfl ?_
      refine AW_getR dX5_count_69 (bI_0 B) fl_X5_31 (bR_0_3 B) ?_
      refine AW_getI dX5_count_72 (bI_30 B) fl_X5_173 ?_
      exact AW_rI dX5_count_75 rfl rfl H
    rcases cy with cy | cy
    · replace H := H.2.2.2.1 cy
      refine AW_tableIn (off := 75) (tgt := 76) dX5_count_1 (by rw [cy]; decide) (by rw [cy]; decide) (by rw [cy]; decide) (by decide) ?_
      refine AW_aload_n dX5_count_76 rfl rfl ?_
      refine AW_getR dX5_count_77 (bI_0 B) fl_X5_31 (bR_0_3 B) ?_
      refine AW_getI dX5_count_80 (bI_30 B) fl_X5_127 ?_
      refine AW_if_ne (tgt := 90) dX5_count_83 (by decide) (fun c => ?_) (fun c => ?_)
      · replace H := H.1 c
        refine AW_aload_n dX5_count_90 rfl rfl ?_
        refine AW_getR dX5_count_91 (bI_0 B) fl_X5_31 (bR_0_3 B) ?_
        refine AW_vI (as := []) (st := []) dX5_count_94 (bI_30 B) (by decide) rfl mv_X1_programs mi_X1_programs ml_X5_242 (Nat.le_of_ble_eq_true rfl) rfl (Nat.le_refl 0) (Nat.le_refl 0) H (fun r2 v1 H => ?_)
        exact AW_rI dX5_count_97 rfl rfl H
      · replace H := H.2 c
        refine AW_iconst (x := 0) dX5_count_86 (by decide) ?_
        refine AW_goto (tgt := 97) dX5_count_87 (by decide) ?_
        exact AW_rI dX5_count_97 rfl rfl H
    rcases cy with cy | cy
    · replace H := H.2.2.2.2.1 cy
      refine AW_tableIn (off := 97) (tgt := 98) dX5_count_1 (by rw [cy]; decide) (by rw [cy]; decide) (by rw [cy]; decide) (by decide) ?_
      refine AW_aload_n dX5_count_98 rfl rfl ?_
      refine AW_getR dX5_count_99 (bI_0 B) fl_X5_31 (bR_0_3 B) ?_
      refine AW_getI dX5_count_102 (bI_30 B) fl_X5_167 ?_
      refine AW_sI (as := [(.int (v.1 30 2))]) (st := []) dX5_count_105 mv_J6_bitCount_0f7a4 ms_J6_bitCount_0f7a4 ml_X5_291 (Nat.le_of_ble_eq_true rfl) rfl (Nat.le_refl 0) (Nat.le_refl 0) H (fun r4 v3 H => ?_)
      exact AW_rI dX5_count_108 rfl rfl H
    rcases cy with cy | cy
    · replace H := H.2.2.2.2.2.1 cy
      refine AW_tableIn (off := 108) (tgt := 109) dX5_count_1 (by rw [cy]; decide) (by rw [cy]; decide) (by rw [cy]; decide) (by decide) ?_
      refine AW_aload_n dX5_count_109 rfl rfl ?_
      refine AW_getR dX5_count_110 (bI_0 B) fl_X5_31 (bR_0_3 B) ?_
      refine AW_vI (as := []) (st := []) dX5_count_113 (bI_30 B) (by decide) rfl mv_X1_drums mi_X1_drums ml_X5_296 (Nat.le_of_ble_eq_true rfl) rfl (Nat.le_refl 0) (Nat.le_refl 0) H (fun r6 v5 H => ?_)
      exact AW_rI dX5_count_116 rfl rfl H
    rcases cy with cy | cy
    · replace H := H.2.2.2.2.2.2.1 cy
      refine AW_tableIn (off := 116) (tgt := 117) dX5_count_1 (by rw [cy]; decide) (by rw [cy]; decide) (by rw [cy]; decide) (by decide) ?_
      refine AW_aload_n dX5_count_117 rfl rfl ?_
      refine AW_getR dX5_count_118 (bI_0 B) fl_X5_14 (bR_0_0 B) ?_
      refine AW_vI (as := []) (st := []) dX5_count_121 (bI_1 B) (by decide) rfl mv_X4_held mi_X4_held ml_X5_299 (Nat.le_of_ble_eq_true rfl) rfl (Nat.le_refl 0) (Nat.le_refl 0) H (fun r8 v7 H => ?_)
      exact AW_rI dX5_count_124 rfl rfl H
    rcases cy with cy | cy
    · replace H := H.2.2.2.2.2.2.2.1 cy
      refine AW_tableIn (off := 124) (tgt := 125) dX5_count_1 (by rw [cy]; decide) (by rw [cy]; decide) (by rw [cy]; decide) (by decide) ?_
      refine AW_aload_n dX5_count_125 rfl rfl ?_
      refine AW_getR dX5_count_126 (bI_0 B) fl_X5_18 (bR_0_1 B) ?_
      refine AW_vI (as := []) (st := []) dX5_count_129 (bI_10 B) (by decide) rfl mv_X4_held mi_X4_held ml_X5_299 (Nat.le_of_ble_eq_true rfl) rfl (Nat.le_refl 0) (Nat.le_refl 0) H (fun r10 v9 H => ?_)
      exact AW_rI dX5_count_132 rfl rfl H
    · replace H := H.2.2.2.2.2.2.2.2 cy
      refine AW_tableIn (off := 132) (tgt := 133) dX5_count_1 (by rw [cy]; decide) (by rw [cy]; decide) (by rw [cy]; decide) (by decide) ?_
      refine AW_aload_n dX5_count_133 rfl rfl ?_
      refine AW_vI (as := []) (st := []) dX5_count_134 (bI_0 B) (by decide) rfl mv_X5_keptNow mi_X5_keptNow ml_X5_302 (Nat.le_of_ble_eq_true rfl) rfl (Nat.le_refl 0) (Nat.le_refl 0) H (fun r12 v11 H => ?_)
      exact AW_rI dX5_count_137 rfl rfl H
set_option maxRecDepth 100000 in
set_option maxHeartbeats 4000000 in
theorem vc_X5_finding {G : xG} {d : Nat} {z : xZ} {v : xS} {Q : Int32 → xS → Prop} (B : Base z)  
    (H : Q (v.1 0 9) v) :
    oX5_finding G (d + 1) [(.ref 0)] z v Q := by
  refine Ok_of (own := RX5) (by decide) rfl (Nat.le_of_ble_eq_true rfl) ?_
  show AW G (d + 1) 0 0 yX5_finding cX5_finding 1 (some .int) RX5 0 0 0 [some (.ref 0)] [] z v _
  refine AW_aload_n dX5_finding_0 rfl rfl ?_
  refine AW_getI dX5_finding_1 (bI_0 B) fl_X5_63 ?_
  exact AW_rI dX5_finding_4 rfl rfl H
set_option maxRecDepth 100000 in
set_option maxHeartbeats 4000000 in
theorem vc_X5_findings {G : xG} {d : Nat} {z : xZ} {v : xS} {Q : Int32 → xS → Prop} (B : Base z) {xa : Int32} 
    (H : ((xa < 1 → Q (-1) v) ∧ (¬ xa < 1 → ((xa ≤ 5 → (vp_in xa 6 ∧ Q (v.1 102 xa.toNatClampNeg) v)) ∧ (¬ xa ≤ 5 → Q (-1) v))))) :
    oX5_findings G (d + 1) [(.ref 0), (.int xa)] z v Q := by
  refine Ok_of (own := RX5) (by decide) rfl (Nat.le_of_ble_eq_true rfl) ?_
  show AW G (d + 1) 0 0 yX5_findings cX5_findings 2 (some .int) RX5 0 0 0 [some (.ref 0), some (.int xa)] [] z v _
  refine AW_iload_n dX5_findings_0 rfl rfl ?_
  refine AW_iconst (x := 1) dX5_findings_1 (by decide) ?_
  refine AW_icmp_lt (tgt := 10) dX5_findings_2 (by decide) (fun c => ?_) (fun c => ?_)
  · replace H := H.1 c
    refine AW_iconst (x := (-1)) dX5_findings_10 (by decide) ?_
    exact AW_rI dX5_findings_11 rfl rfl H
  · replace H := H.2 c
    refine AW_iload_n dX5_findings_5 rfl rfl ?_
    refine AW_iconst (x := 5) dX5_findings_6 (by decide) ?_
    refine AW_icmp_le (tgt := 12) dX5_findings_7 (by decide) (fun c => ?_) (fun c => ?_)
    · replace H := H.1 c
      refine AW_aload_n dX5_findings_12 rfl rfl ?_
      refine AW_getR dX5_findings_13 (bI_0 B) fl_X5_59 (bR_0_8 B) ?_
      refine AW_iload_n dX5_findings_16 rfl rfl ?_
      have hi1 := H.1
      replace H := H.2
      refine AW_iald dX5_findings_17 (bI_102 B) hi1 ?_
      exact AW_rI dX5_findings_18 rfl rfl H
    · replace H := H.2 c
      refine AW_iconst (x := (-1)) dX5_findings_10 (by decide) ?_
      exact AW_rI dX5_findings_11 rfl rfl H
set_option maxRecDepth 100000 in
set_option maxHeartbeats 4000000 in
theorem vc_X5_digest {G : xG} {d : Nat} {z : xZ} {v : xS} {Q : Int64 → xS → Prop} (B : Base z)  
    (H : aX5_digest G (d + 1) 6 [some (.ref 0), some (.long 17), none, some (.int 0)] [] z v Q) :
    oX5_digest G (d + 1) [(.ref 0)] z v Q := by
  refine Ok_of (own := RX5) (by decide) rfl (Nat.le_of_ble_eq_true rfl) ?_
  show AW G (d + 1) 0 0 yX5_digest cX5_digest 4 (some .long) RX5 0 0 0 [some (.ref 0), none, none, none] [] z v _
  refine AW_ldc2 dX5_digest_0 kl_X5_305 ?_
  refine AW_lstore_n (L' := [some (.ref 0), some (.long 17), none, none]) dX5_digest_3 rfl (by decide) rfl ?_
  refine AW_iconst (x := 0) dX5_digest_4 (by decide) ?_
  refine AW_istore_n (L' := [some (.ref 0), some (.long 17), none, some (.int 0)]) dX5_digest_5 rfl (by decide) rfl ?_
  exact H
set_option maxRecDepth 100000 in
set_option maxHeartbeats 4000000 in
theorem vc_X5_digest_6 {G : xG} {d : Nat} {z : xZ} {v : xS} {Q : Int64 → xS → Prop} (B : Base z)  {l1 : Int64} {l3 : Int32} 
    (H : ((9 ≤ l3 → (oX1_mixedInto G d [(.ref 30), (.long l1)] z v (fun r2 v1 => aX5_digest G (d + 1) 42 [some (.ref 0), some (.long r2), none, some (.int 0)] [] z v1 Q))) ∧ (¬ 9 ≤ l3 → (oX5_count G d [(.ref 0), (.int l3)] z v (fun r4 v3 => aX5_digest G (d + 1) 6 [some (.ref 0), some (.long ((31 * l1) + r4.toInt64)), none, some (.int (l3 + 1))] [] z v3 Q))))) :
    aX5_digest G (d + 1) 6 [some (.ref 0), some (.long l1), none, some (.int l3)] [] z v Q := by
  refine AW_iload_n dX5_digest_6 rfl rfl ?_
  refine AW_bipush (x := 9) dX5_digest_7 (by decide) ?_
  refine AW_icmp_ge (tgt := 31) dX5_digest_9 (by decide) (fun c => ?_) (fun c => ?_)
  · replace H := H.1 c
    refine AW_aload_n dX5_digest_31 rfl rfl ?_
    refine AW_getR dX5_digest_32 (bI_0 B) fl_X5_31 (bR_0_3 B) ?_
    refine AW_lload_n dX5_digest_35 rfl rfl ?_
    refine AW_vL (as := [(.long l1)]) (st := []) dX5_digest_36 (bI_30 B) (by decide) rfl mv_X1_mixedInto mi_X1_mixedInto ml_X5_312 (Nat.le_of_ble_eq_true rfl) rfl (Nat.le_refl 0) (Nat.le_refl 0) H (fun r2 v1 H => ?_)
    refine AW_lstore_n (L' := [some (.ref 0), some (.long r2), none, some (.int l3)]) dX5_digest_39 rfl (by decide) rfl ?_
    refine AW_iconst (x := 0) dX5_digest_40 (by decide) ?_
    refine AW_istore_n (L' := [some (.ref 0), some (.long r2), none, some (.int 0)]) dX5_digest_41 rfl (by decide) rfl ?_
    exact H
  · replace H := H.2 c
    refine AW_ldc2 dX5_digest_12 kl_X5_307 ?_
    refine AW_lload_n dX5_digest_15 rfl rfl ?_
    refine AW_lmul dX5_digest_16 ?_
    refine AW_aload_n dX5_digest_17 rfl rfl ?_
    refine AW_iload_n dX5_digest_18 rfl rfl ?_
    refine AW_vI (as := [(.int l3)]) (st := [(.long (31 * l1))]) dX5_digest_19 (bI_0 B) (by decide) rfl mv_X5_count mi_X5_count ml_X5_309 (Nat.le_of_ble_eq_true rfl) rfl (Nat.le_refl 0) (Nat.le_refl 0) H (fun r4 v3 H => ?_)
    refine AW_i2l dX5_digest_22 ?_
    refine AW_ladd dX5_digest_23 ?_
    refine AW_lstore_n (L' := [some (.ref 0), some (.long ((31 * l1) + r4.toInt64)), none, some (.int l3)]) dX5_digest_24 rfl (by decide) rfl ?_
    refine AW_iinc (x' := l3 + 1) (L' := [some (.ref 0), some (.long ((31 * l1) + r4.toInt64)), none, some (.int (l3 + 1))]) dX5_digest_25 rfl rfl (by decide) rfl ?_
    refine AW_goto (tgt := 6) dX5_digest_28 (by decide) ?_
    exact H
set_option maxRecDepth 100000 in
set_option maxHeartbeats 4000000 in
theorem vc_X5_digest_42 {G : xG} {d : Nat} {z : xZ} {v : xS} {Q : Int64 → xS → Prop} (B : Base z)  {l1 : Int64} {l3 : Int32} 
    (H : ((3 ≤ l3 → (oX4_mixedInto G d [(.ref 1), (.long l1)] z v (fun r2 v1 => (oX4_mixedInto G d [(.ref 10), (.long r2)] z v1 (fun r4 v3 => Q r4 v3))))) ∧ (¬ 3 ≤ l3 → (oX5_keptEvenings G d [(.ref 0), (.int l3)] z v (fun r6 v5 => aX5_digest G (d + 1) 42 [some (.ref 0), some (.long ((31 * l1) + r6.toInt64)), none, some (.int (l3 + 1))] [] z v5 Q))))) :
    aX5_digest G (d + 1) 42 [some (.ref 0), some (.long l1), none, some (.int l3)] [] z v Q := by
  refine AW_iload_n dX5_digest_42 rfl rfl ?_
  refine AW_iconst (x := 3) dX5_digest_43 (by decide) ?_
  refine AW_icmp_ge (tgt := 66) dX5_digest_44 (by decide) (fun c => ?_) (fun c => ?_)
  · replace H := H.1 c
    refine AW_aload_n dX5_digest_66 rfl rfl ?_
    refine AW_getR dX5_digest_67 (bI_0 B) fl_X5_18 (bR_0_1 B) ?_
    refine AW_aload_n dX5_digest_70 rfl rfl ?_
    refine AW_getR dX5_digest_71 (bI_0 B) fl_X5_14 (bR_0_0 B) ?_
    refine AW_lload_n dX5_digest_74 rfl rfl ?_
    refine AW_vL (as := [(.long l1)]) (st := [(.ref 10)]) dX5_digest_75 (bI_1 B) (by decide) rfl mv_X4_mixedInto mi_X4_mixedInto ml_X5_319 (Nat.le_of_ble_eq_true rfl) rfl (Nat.le_refl 0) (Nat.le_refl 0) H (fun r2 v1 H => ?_)
    refine AW_vL (as := [(.long r2)]) (st := []) dX5_digest_78 (bI_10 B) (by decide) rfl mv_X4_mixedInto mi_X4_mixedInto ml_X5_319 (Nat.le_of_ble_eq_true rfl) rfl (Nat.le_refl 0) (Nat.le_refl 0) H (fun r4 v3 H => ?_)
    exact AW_rL dX5_digest_81 rfl H
  · replace H := H.2 c
    refine AW_ldc2 dX5_digest_47 kl_X5_307 ?_
    refine AW_lload_n dX5_digest_50 rfl rfl ?_
    refine AW_lmul dX5_digest_51 ?_
    refine AW_aload_n dX5_digest_52 rfl rfl ?_
    refine AW_iload_n dX5_digest_53 rfl rfl ?_
    refine AW_vI (as := [(.int l3)]) (st := [(.long (31 * l1))]) dX5_digest_54 (bI_0 B) (by decide) rfl mv_X5_keptEvenings mi_X5_keptEvenings ml_X5_316 (Nat.le_of_ble_eq_true rfl) rfl (Nat.le_refl 0) (Nat.le_refl 0) H (fun r6 v5 H => ?_)
    refine AW_i2l dX5_digest_57 ?_
    refine AW_ladd dX5_digest_58 ?_
    refine AW_lstore_n (L' := [some (.ref 0), some (.long ((31 * l1) + r6.toInt64)), none, some (.int l3)]) dX5_digest_59 rfl (by decide) rfl ?_
    refine AW_iinc (x' := l3 + 1) (L' := [some (.ref 0), some (.long ((31 * l1) + r6.toInt64)), none, some (.int (l3 + 1))]) dX5_digest_60 rfl rfl (by decide) rfl ?_
    refine AW_goto (tgt := 42) dX5_digest_63 (by decide) ?_
    exact H
set_option maxRecDepth 100000 in
set_option maxHeartbeats 4000000 in
theorem vc_X5_tell {G : xG} {d : Nat} {z : xZ} {v : xS} {Q : Int32 → xS → Prop} (B : Base z) {xa : Int32} {xb : Int32} 
    (H : (∀ v1 : xS, v1 = wV v 0 10 xb → Q xa v1)) :
    oX5_tell G (d + 1) [(.ref 0), (.int xa), (.int xb)] z v Q := by
  refine Ok_of (own := RX5) (by decide) rfl (Nat.le_of_ble_eq_true rfl) ?_
  show AW G (d + 1) 0 0 yX5_tell cX5_tell 3 (some .int) RX5 0 0 0 [some (.ref 0), some (.int xa), some (.int xb)] [] z v _
  refine AW_aload_n dX5_tell_0 rfl rfl ?_
  refine AW_iload_n dX5_tell_1 rfl rfl ?_
  refine AW_putIN dX5_tell_2 (bI_0 B) fl_X5_67 rfl rfl rfl (fun v1 hv1 => ?_)
  replace H := H v1 hv1
  refine AW_iload_n dX5_tell_5 rfl rfl ?_
  exact AW_rI dX5_tell_6 rfl rfl H
set_option maxRecDepth 100000 in
set_option maxHeartbeats 4000000 in
theorem vc_X5_find {G : xG} {d : Nat} {z : xZ} {v : xS} {Q : Int32 → xS → Prop} (B : Base z) {xa : Int32} 
    (H : ((xa < 1 → Q (-3) v) ∧ (¬ xa < 1 → ((5 < xa → Q (-3) v) ∧ (¬ 5 < xa → (∀ v1 : xS, v1 = wV v 0 9 xa → (vp_in xa 6 ∧ (vp_in xa 6 ∧ (∀ v4 : xS, v4 = wV v1 102 xa.toNatClampNeg ((v1.1 102 xa.toNatClampNeg) + 1) → Q (-3) v4))))))))) :
    oX5_find G (d + 1) [(.ref 0), (.int xa)] z v Q := by
  refine Ok_of (own := RX5) (by decide) rfl (Nat.le_of_ble_eq_true rfl) ?_
  show AW G (d + 1) 0 0 yX5_find cX5_find 2 (some .int) RX5 0 0 0 [some (.ref 0), some (.int xa)] [] z v _
  refine AW_iload_n dX5_find_0 rfl rfl ?_
  refine AW_iconst (x := 1) dX5_find_1 (by decide) ?_
  refine AW_icmp_lt (tgt := 25) dX5_find_2 (by decide) (fun c => ?_) (fun c => ?_)
  · replace H := H.1 c
    refine AW_bipush (x := (-3)) dX5_find_25 (by decide) ?_
    exact AW_rI dX5_find_27 rfl rfl H
  · replace H := H.2 c
    refine AW_iload_n dX5_find_5 rfl rfl ?_
    refine AW_iconst (x := 5) dX5_find_6 (by decide) ?_
    refine AW_icmp_gt (tgt := 25) dX5_find_7 (by decide) (fun c => ?_) (fun c => ?_)
    · replace H := H.1 c
      refine AW_bipush (x := (-3)) dX5_find_25 (by decide) ?_
      exact AW_rI dX5_find_27 rfl rfl H
    · replace H := H.2 c
      refine AW_aload_n dX5_find_10 rfl rfl ?_
      refine AW_iload_n dX5_find_11 rfl rfl ?_
      refine AW_putIN dX5_find_12 (bI_0 B) fl_X5_63 rfl rfl rfl (fun v1 hv1 => ?_)
      replace H := H v1 hv1
      refine AW_aload_n dX5_find_15 rfl rfl ?_
      refine AW_getR dX5_find_16 (bI_0 B) fl_X5_59 (bR_0_8 B) ?_
      refine AW_iload_n dX5_find_19 rfl rfl ?_
      refine AW_dup2 dX5_find_20 rfl rfl ?_
      have hi2 := H.1
      replace H := H.2
      refine AW_iald dX5_find_21 (bI_102 B) hi2 ?_
      refine AW_iconst (x := 1) dX5_find_22 (by decide) ?_
      refine AW_iadd dX5_find_23 ?_
      have hi3 := H.1
      replace H := H.2
      refine AW_iastN dX5_find_24 (bI_102 B) hi3 (fun v4 hv4 => ?_)
      replace H := H v4 hv4
      refine AW_bipush (x := (-3)) dX5_find_25 (by decide) ?_
      exact AW_rI dX5_find_27 rfl rfl H
set_option maxRecDepth 100000 in
set_option maxHeartbeats 4000000 in
theorem vc_X5_opened {G : xG} {d : Nat} {z : xZ} {v : xS} {Q : Int32 → xS → Prop} (B : Base z) {s p m : Nat} {xa : Int32} {xb : Int32} {xc : Int32} (hs : xShelf z s p m)
    (H : (oX4_names G d [(.ref s), (.int xa)] z v (fun r2 v1 => ((r2 = 0 → Q (-1) v1) ∧ (¬ r2 = 0 → ((xb ≤ (v1.1 s 0) → ((0 ≤ xb → (oX4_open G d [(.ref s), (.int xa), (.int xb), (.int xc)] z v1 (fun v3 => Q xb v3))) ∧ (¬ 0 ≤ xb → (oX5_find G d [(.ref 0), (.int 5)] z v1 (fun r5 v4 => Q r5 v4))))) ∧ (¬ xb ≤ (v1.1 s 0) → Q (-1) v1))))))) :
    oX5_opened G (d + 1) [(.ref 0), (.ref s), (.int xa), (.int xb), (.int xc)] z v Q := by
  refine Ok_of (own := RX5) (by decide) rfl (Nat.le_of_ble_eq_true rfl) ?_
  show AW G (d + 1) 0 0 yX5_opened cX5_opened 5 (some .int) RX5 0 0 0 [some (.ref 0), some (.ref s), some (.int xa), some (.int xb), some (.int xc)] [] z v _
  refine AW_aload_n dX5_opened_0 rfl rfl ?_
  refine AW_iload_n dX5_opened_1 rfl rfl ?_
  refine AW_vI (as := [(.int xa)]) (st := []) dX5_opened_2 hs.1 (by decide) rfl mv_X4_names mi_X4_names ml_X5_74 (Nat.le_of_ble_eq_true rfl) rfl (Nat.le_refl 0) (Nat.le_refl 0) H (fun r2 v1 H => ?_)
  refine AW_if_eq (tgt := 16) dX5_opened_5 (by decide) (fun c => ?_) (fun c => ?_)
  · replace H := H.1 c
    refine AW_iconst (x := (-1)) dX5_opened_16 (by decide) ?_
    exact AW_rI dX5_opened_17 rfl rfl H
  · replace H := H.2 c
    refine AW_iload_n dX5_opened_8 rfl rfl ?_
    refine AW_aload_n dX5_opened_9 rfl rfl ?_
    refine AW_getI dX5_opened_10 hs.1 fl_X5_320 ?_
    refine AW_icmp_le (tgt := 18) dX5_opened_13 (by decide) (fun c => ?_) (fun c => ?_)
    · replace H := H.1 c
      refine AW_iload_n dX5_opened_18 rfl rfl ?_
      refine AW_if_ge (tgt := 28) dX5_opened_19 (by decide) (fun c => ?_) (fun c => ?_)
      · replace H := H.1 c
        refine AW_aload_n dX5_opened_28 rfl rfl ?_
        refine AW_iload_n dX5_opened_29 rfl rfl ?_
        refine AW_iload_n dX5_opened_30 rfl rfl ?_
        refine AW_iload dX5_opened_31 rfl ?_
        refine AW_vV (as := [(.int xa), (.int xb), (.int xc)]) (st := []) dX5_opened_33 hs.1 (by decide) rfl mv_X4_open mi_X4_open ml_X5_185 (Nat.le_of_ble_eq_true rfl) rfl (Nat.le_refl 0) (Nat.le_refl 0) H (fun v3 H => ?_)
        refine AW_iload_n dX5_opened_36 rfl rfl ?_
        exact AW_rI dX5_opened_37 rfl rfl H
      · replace H := H.2 c
        refine AW_aload_n dX5_opened_22 rfl rfl ?_
        refine AW_iconst (x := 5) dX5_opened_23 (by decide) ?_
        refine AW_vI (as := [(.int 5)]) (st := []) dX5_opened_24 (bI_0 B) (by decide) rfl mv_X5_find mi_X5_find ml_X5_96 (Nat.le_of_ble_eq_true rfl) rfl (Nat.le_refl 0) (Nat.le_refl 0) H (fun r5 v4 H => ?_)
        exact AW_rI dX5_opened_27 rfl rfl H
    · replace H := H.2 c
      refine AW_iconst (x := (-1)) dX5_opened_16 (by decide) ?_
      exact AW_rI dX5_opened_17 rfl rfl H
set_option maxRecDepth 100000 in
set_option maxHeartbeats 4000000 in
theorem vc_X5_placeRefusal {G : xG} {d : Nat} {z : xZ} {v : xS} {Q : Int32 → xS → Prop} (B : Base z) {s p m : Nat} {xa : Int32} {xb : Int32} (hs : xShelf z s p m)
    (H : (oX4_holds G d [(.ref s), (.int xa)] z v (fun r2 v1 => ((¬ r2 = 0 → (oX4_reaches G d [(.ref s), (.int xa), (.int xb)] z v1 (fun r4 v3 => ((r4 = 0 → (oX5_find G d [(.ref 0), (.int 2)] z v3 (fun r6 v5 => Q r6 v5))) ∧ (¬ r4 = 0 → Q 0 v3))))) ∧ (r2 = 0 → (oX5_find G d [(.ref 0), (.int 1)] z v1 (fun r8 v7 => Q r8 v7))))))) :
    oX5_placeRefusal G (d + 1) [(.ref 0), (.ref s), (.int xa), (.int xb)] z v Q := by
  refine Ok_of (own := RX5) (by decide) rfl (Nat.le_of_ble_eq_true rfl) ?_
  show AW G (d + 1) 0 0 yX5_placeRefusal cX5_placeRefusal 4 (some .int) RX5 0 0 0 [some (.ref 0), some (.ref s), some (.int xa), some (.int xb)] [] z v _
  refine AW_aload_n dX5_placeRefusal_0 rfl rfl ?_
  refine AW_iload_n dX5_placeRefusal_1 rfl rfl ?_
  refine AW_vI (as := [(.int xa)]) (st := []) dX5_placeRefusal_2 hs.1 (by decide) rfl mv_X4_holds mi_X4_holds ml_X5_93 (Nat.le_of_ble_eq_true rfl) rfl (Nat.le_refl 0) (Nat.le_refl 0) H (fun r2 v1 H => ?_)
  refine AW_if_ne (tgt := 14) dX5_placeRefusal_5 (by decide) (fun c => ?_) (fun c => ?_)
  · replace H := H.1 c
    refine AW_aload_n dX5_placeRefusal_14 rfl rfl ?_
    refine AW_iload_n dX5_placeRefusal_15 rfl rfl ?_
    refine AW_iload_n dX5_placeRefusal_16 rfl rfl ?_
    refine AW_vI (as := [(.int xa), (.int xb)]) (st := []) dX5_placeRefusal_17 hs.1 (by decide) rfl mv_X4_reaches mi_X4_reaches ml_X5_323 (Nat.le_of_ble_eq_true rfl) rfl (Nat.le_refl 0) (Nat.le_refl 0) H (fun r4 v3 H => ?_)
    refine AW_if_eq (tgt := 27) dX5_placeRefusal_20 (by decide) (fun c => ?_) (fun c => ?_)
    · replace H := H.1 c
      refine AW_aload_n dX5_placeRefusal_27 rfl rfl ?_
      refine AW_iconst (x := 2) dX5_placeRefusal_28 (by decide) ?_
      refine AW_vI (as := [(.int 2)]) (st := []) dX5_placeRefusal_29 (bI_0 B) (by decide) rfl mv_X5_find mi_X5_find ml_X5_96 (Nat.le_of_ble_eq_true rfl) rfl (Nat.le_refl 0) (Nat.le_refl 0) H (fun r6 v5 H => ?_)
      exact AW_rI dX5_placeRefusal_32 rfl rfl H
    · replace H := H.2 c
      refine AW_iconst (x := 0) dX5_placeRefusal_23 (by decide) ?_
      refine AW_goto (tgt := 32) dX5_placeRefusal_24 (by decide) ?_
      exact AW_rI dX5_placeRefusal_32 rfl rfl H
  · replace H := H.2 c
    refine AW_aload_n dX5_placeRefusal_8 rfl rfl ?_
    refine AW_iconst (x := 1) dX5_placeRefusal_9 (by decide) ?_
    refine AW_vI (as := [(.int 1)]) (st := []) dX5_placeRefusal_10 (bI_0 B) (by decide) rfl mv_X5_find mi_X5_find ml_X5_96 (Nat.le_of_ble_eq_true rfl) rfl (Nat.le_refl 0) (Nat.le_refl 0) H (fun r8 v7 H => ?_)
    exact AW_rI dX5_placeRefusal_13 rfl rfl H
set_option maxRecDepth 100000 in
set_option maxHeartbeats 4000000 in
theorem vc_X5_groundRefusal {G : xG} {d : Nat} {z : xZ} {v : xS} {Q : Int32 → xS → Prop} (B : Base z) {xa : Int32} 
    (H : (oX4_names G d [(.ref 1), (.int xa)] z v (fun r2 v1 => ((¬ r2 = 0 → ((¬ (v1.1 30 0) = 0 → (oX5_fitRefusal G d [(.ref 0), (.int xa)] z v1 (fun r4 v3 => Q r4 v3))) ∧ ((v1.1 30 0) = 0 → Q (-4) v1))) ∧ (r2 = 0 → Q (-1) v1))))) :
    oX5_groundRefusal G (d + 1) [(.ref 0), (.int xa)] z v Q := by
  refine Ok_of (own := RX5) (by decide) rfl (Nat.le_of_ble_eq_true rfl) ?_
  show AW G (d + 1) 0 0 yX5_groundRefusal cX5_groundRefusal 2 (some .int) RX5 0 0 0 [some (.ref 0), some (.int xa)] [] z v _
  refine AW_aload_n dX5_groundRefusal_0 rfl rfl ?_
  refine AW_getR dX5_groundRefusal_1 (bI_0 B) fl_X5_14 (bR_0_0 B) ?_
  refine AW_iload_n dX5_groundRefusal_4 rfl rfl ?_
  refine AW_vI (as := [(.int xa)]) (st := []) dX5_groundRefusal_5 (bI_1 B) (by decide) rfl mv_X4_names mi_X4_names ml_X5_74 (Nat.le_of_ble_eq_true rfl) rfl (Nat.le_refl 0) (Nat.le_refl 0) H (fun r2 v1 H => ?_)
  refine AW_if_ne (tgt := 13) dX5_groundRefusal_8 (by decide) (fun c => ?_) (fun c => ?_)
  · replace H := H.1 c
    refine AW_aload_n dX5_groundRefusal_13 rfl rfl ?_
    refine AW_getR dX5_groundRefusal_14 (bI_0 B) fl_X5_31 (bR_0_3 B) ?_
    refine AW_getI dX5_groundRefusal_17 (bI_30 B) fl_X5_127 ?_
    refine AW_if_ne (tgt := 28) dX5_groundRefusal_20 (by decide) (fun c => ?_) (fun c => ?_)
    · replace H := H.1 c
      refine AW_aload_n dX5_groundRefusal_28 rfl rfl ?_
      refine AW_iload_n dX5_groundRefusal_29 rfl rfl ?_
      refine AW_vI (as := [(.int xa)]) (st := []) dX5_groundRefusal_30 (bI_0 B) (by decide) rfl mv_X5_fitRefusal mi_X5_fitRefusal ml_X5_249 (Nat.le_of_ble_eq_true rfl) rfl (Nat.le_refl 0) (Nat.le_refl 0) H (fun r4 v3 H => ?_)
      exact AW_rI dX5_groundRefusal_33 rfl rfl H
    · replace H := H.2 c
      refine AW_bipush (x := (-4)) dX5_groundRefusal_23 (by decide) ?_
      refine AW_goto (tgt := 33) dX5_groundRefusal_25 (by decide) ?_
      exact AW_rI dX5_groundRefusal_33 rfl rfl H
  · replace H := H.2 c
    refine AW_iconst (x := (-1)) dX5_groundRefusal_11 (by decide) ?_
    exact AW_rI dX5_groundRefusal_12 rfl rfl H
set_option maxRecDepth 100000 in
set_option maxHeartbeats 4000000 in
theorem vc_X5_fitRefusal {G : xG} {d : Nat} {z : xZ} {v : xS} {Q : Int32 → xS → Prop} (B : Base z) {xa : Int32} 
    (H : (oX4_holds G d [(.ref 1), (.int xa)] z v (fun r2 v1 => ((¬ r2 = 0 → (oX4_sizeOf G d [(.ref 1), (.int xa)] z v1 (fun r4 v3 => ((¬ r4 = (v3.1 30 0) → (oX5_find G d [(.ref 0), (.int 5)] z v3 (fun r6 v5 => Q r6 v5))) ∧ (r4 = (v3.1 30 0) → Q 0 v3))))) ∧ (r2 = 0 → (oX5_find G d [(.ref 0), (.int 1)] z v1 (fun r8 v7 => Q r8 v7))))))) :
    oX5_fitRefusal G (d + 1) [(.ref 0), (.int xa)] z v Q := by
  refine Ok_of (own := RX5) (by decide) rfl (Nat.le_of_ble_eq_true rfl) ?_
  show AW G (d + 1) 0 0 yX5_fitRefusal cX5_fitRefusal 2 (some .int) RX5 0 0 0 [some (.ref 0), some (.int xa)] [] z v _
  refine AW_aload_n dX5_fitRefusal_0 rfl rfl ?_
  refine AW_getR dX5_fitRefusal_1 (bI_0 B) fl_X5_14 (bR_0_0 B) ?_
  refine AW_iload_n dX5_fitRefusal_4 rfl rfl ?_
  refine AW_vI (as := [(.int xa)]) (st := []) dX5_fitRefusal_5 (bI_1 B) (by decide) rfl mv_X4_holds mi_X4_holds ml_X5_93 (Nat.le_of_ble_eq_true rfl) rfl (Nat.le_refl 0) (Nat.le_refl 0) H (fun r2 v1 H => ?_)
  refine AW_if_ne (tgt := 17) dX5_fitRefusal_8 (by decide) (fun c => ?_) (fun c => ?_)
  · replace H := H.1 c
    refine AW_aload_n dX5_fitRefusal_17 rfl rfl ?_
    refine AW_getR dX5_fitRefusal_18 (bI_0 B) fl_X5_14 (bR_0_0 B) ?_
    refine AW_iload_n dX5_fitRefusal_21 rfl rfl ?_
    refine AW_vI (as := [(.int xa)]) (st := []) dX5_fitRefusal_22 (bI_1 B) (by decide) rfl mv_X4_sizeOf mi_X4_sizeOf ml_X5_112 (Nat.le_of_ble_eq_true rfl) rfl (Nat.le_refl 0) (Nat.le_refl 0) H (fun r4 v3 H => ?_)
    refine AW_aload_n dX5_fitRefusal_25 rfl rfl ?_
    refine AW_getR dX5_fitRefusal_26 (bI_0 B) fl_X5_31 (bR_0_3 B) ?_
    refine AW_getI dX5_fitRefusal_29 (bI_30 B) fl_X5_127 ?_
    refine AW_icmp_ne (tgt := 39) dX5_fitRefusal_32 (by decide) (fun c => ?_) (fun c => ?_)
    · replace H := H.1 c
      refine AW_aload_n dX5_fitRefusal_39 rfl rfl ?_
      refine AW_iconst (x := 5) dX5_fitRefusal_40 (by decide) ?_
      refine AW_vI (as := [(.int 5)]) (st := []) dX5_fitRefusal_41 (bI_0 B) (by decide) rfl mv_X5_find mi_X5_find ml_X5_96 (Nat.le_of_ble_eq_true rfl) rfl (Nat.le_refl 0) (Nat.le_refl 0) H (fun r6 v5 H => ?_)
      exact AW_rI dX5_fitRefusal_44 rfl rfl H
    · replace H := H.2 c
      refine AW_iconst (x := 0) dX5_fitRefusal_35 (by decide) ?_
      refine AW_goto (tgt := 44) dX5_fitRefusal_36 (by decide) ?_
      exact AW_rI dX5_fitRefusal_44 rfl rfl H
  · replace H := H.2 c
    refine AW_aload_n dX5_fitRefusal_11 rfl rfl ?_
    refine AW_iconst (x := 1) dX5_fitRefusal_12 (by decide) ?_
    refine AW_vI (as := [(.int 1)]) (st := []) dX5_fitRefusal_13 (bI_0 B) (by decide) rfl mv_X5_find mi_X5_find ml_X5_96 (Nat.le_of_ble_eq_true rfl) rfl (Nat.le_refl 0) (Nat.le_refl 0) H (fun r8 v7 H => ?_)
    exact AW_rI dX5_fitRefusal_16 rfl rfl H
set_option maxRecDepth 100000 in
set_option maxHeartbeats 4000000 in
theorem vc_X5_isGroundOf {G : xG} {d : Nat} {z : xZ} {v : xS} {Q : Int32 → xS → Prop} (B : Base z) {xa : Int32} {g : Nat} (hg : xin z g 10 10)
    (H : aX5_isGroundOf G (d + 1) 2 [some (.ref 0), some (.int xa), some (.ref g), some (.int 0)] [] z v Q) :
    oX5_isGroundOf G (d + 1) [(.ref 0), (.int xa), (.ref g)] z v Q := by
  refine Ok_of (own := RX5) (by decide) rfl (Nat.le_of_ble_eq_true rfl) ?_
  show AW G (d + 1) 0 0 yX5_isGroundOf cX5_isGroundOf 4 (some .boolean) RX5 0 0 0 [some (.ref 0), some (.int xa), some (.ref g), none] [] z v _
  refine AW_iconst (x := 0) dX5_isGroundOf_0 (by decide) ?_
  refine AW_istore_n (L' := [some (.ref 0), some (.int xa), some (.ref g), some (.int 0)]) dX5_isGroundOf_1 rfl (by decide) rfl ?_
  exact H
set_option maxRecDepth 100000 in
set_option maxHeartbeats 4000000 in
theorem vc_X5_isGroundOf_2 {G : xG} {d : Nat} {z : xZ} {v : xS} {Q : Int32 → xS → Prop} (B : Base z) {g : Nat} {l1 : Int32} {l3 : Int32} (hg : xin z g 10 10)
    (H : (((v.1 30 0) ≤ l3 → Q 1 v) ∧ (¬ (v.1 30 0) ≤ l3 → (oX4_get G d [(.ref 1), (.int l1), (.int l3)] z v (fun r2 v1 => (vp_in l3 10 ∧ ((r2 = (v1.1 g l3.toNatClampNeg) → aX5_isGroundOf G (d + 1) 2 [some (.ref 0), some (.int l1), some (.ref g), some (.int (l3 + 1))] [] z v1 Q) ∧ (¬ r2 = (v1.1 g l3.toNatClampNeg) → Q 0 v1)))))))) :
    aX5_isGroundOf G (d + 1) 2 [some (.ref 0), some (.int l1), some (.ref g), some (.int l3)] [] z v Q := by
  refine AW_iload_n dX5_isGroundOf_2 rfl rfl ?_
  refine AW_aload_n dX5_isGroundOf_3 rfl rfl ?_
  refine AW_getR dX5_isGroundOf_4 (bI_0 B) fl_X5_31 (bR_0_3 B) ?_
  refine AW_getI dX5_isGroundOf_7 (bI_30 B) fl_X5_127 ?_
  refine AW_icmp_ge (tgt := 36) dX5_isGroundOf_10 (by decide) (fun c => ?_) (fun c => ?_)
  · replace H := H.1 c
    refine AW_iconst (x := 1) dX5_isGroundOf_36 (by decide) ?_
    exact AW_rI dX5_isGroundOf_37 rfl (by decide) H
  · replace H := H.2 c
    refine AW_aload_n dX5_isGroundOf_13 rfl rfl ?_
    refine AW_getR dX5_isGroundOf_14 (bI_0 B) fl_X5_14 (bR_0_0 B) ?_
    refine AW_iload_n dX5_isGroundOf_17 rfl rfl ?_
    refine AW_iload_n dX5_isGroundOf_18 rfl rfl ?_
    refine AW_vI (as := [(.int l1), (.int l3)]) (st := []) dX5_isGroundOf_19 (bI_1 B) (by decide) rfl mv_X4_get mi_X4_get ml_X5_82 (Nat.le_of_ble_eq_true rfl) rfl (Nat.le_refl 0) (Nat.le_refl 0) H (fun r2 v1 H => ?_)
    refine AW_aload_n dX5_isGroundOf_22 rfl rfl ?_
    refine AW_iload_n dX5_isGroundOf_23 rfl rfl ?_
    have hi3 := H.1
    replace H := H.2
    refine AW_iald dX5_isGroundOf_24 hg hi3 ?_
    refine AW_icmp_eq (tgt := 30) dX5_isGroundOf_25 (by decide) (fun c => ?_) (fun c => ?_)
    · replace H := H.1 c
      refine AW_iinc (x' := l3 + 1) (L' := [some (.ref 0), some (.int l1), some (.ref g), some (.int (l3 + 1))]) dX5_isGroundOf_30 rfl rfl (by decide) rfl ?_
      refine AW_goto (tgt := 2) dX5_isGroundOf_33 (by decide) ?_
      exact H
    · replace H := H.2 c
      refine AW_iconst (x := 0) dX5_isGroundOf_28 (by decide) ?_
      exact AW_rI dX5_isGroundOf_29 rfl (by decide) H
set_option maxRecDepth 100000 in
set_option maxHeartbeats 4000000 in
theorem vc_X5_isStretch {G : xG} {d : Nat} {z : xZ} {v : xS} {Q : Int32 → xS → Prop} (B : Base z) {xa : Int32} {xb : Int32} 
    (H : (oX1_isSpot G d [(.ref 30), (.int xa)] z v (fun r2 v1 => ((r2 = 0 → Q 0 v1) ∧ (¬ r2 = 0 → (oX1_isSpot G d [(.ref 30), (.int xb)] z v1 (fun r4 v3 => ((r4 = 0 → Q 0 v3) ∧ (¬ r4 = 0 → ((xb ≤ xa → Q 0 v3) ∧ (¬ xb ≤ xa → Q 1 v3))))))))))) :
    oX5_isStretch G (d + 1) [(.ref 0), (.int xa), (.int xb)] z v Q := by
  refine Ok_of (own := RX5) (by decide) rfl (Nat.le_of_ble_eq_true rfl) ?_
  show AW G (d + 1) 0 0 yX5_isStretch cX5_isStretch 3 (some .boolean) RX5 0 0 0 [some (.ref 0), some (.int xa), some (.int xb)] [] z v _
  refine AW_aload_n dX5_isStretch_0 rfl rfl ?_
  refine AW_getR dX5_isStretch_1 (bI_0 B) fl_X5_31 (bR_0_3 B) ?_
  refine AW_iload_n dX5_isStretch_4 rfl rfl ?_
  refine AW_vI (as := [(.int xa)]) (st := []) dX5_isStretch_5 (bI_30 B) (by decide) rfl mv_X1_isSpot mi_X1_isSpot ml_X5_130 (Nat.le_of_ble_eq_true rfl) rfl (Nat.le_refl 0) (Nat.le_refl 0) H (fun r2 v1 H => ?_)
  refine AW_if_eq (tgt := 31) dX5_isStretch_8 (by decide) (fun c => ?_) (fun c => ?_)
  · replace H := H.1 c
    refine AW_iconst (x := 0) dX5_isStretch_31 (by decide) ?_
    exact AW_rI dX5_isStretch_32 rfl (by decide) H
  · replace H := H.2 c
    refine AW_aload_n dX5_isStretch_11 rfl rfl ?_
    refine AW_getR dX5_isStretch_12 (bI_0 B) fl_X5_31 (bR_0_3 B) ?_
    refine AW_iload_n dX5_isStretch_15 rfl rfl ?_
    refine AW_vI (as := [(.int xb)]) (st := []) dX5_isStretch_16 (bI_30 B) (by decide) rfl mv_X1_isSpot mi_X1_isSpot ml_X5_130 (Nat.le_of_ble_eq_true rfl) rfl (Nat.le_refl 0) (Nat.le_refl 0) H (fun r4 v3 H => ?_)
    refine AW_if_eq (tgt := 31) dX5_isStretch_19 (by decide) (fun c => ?_) (fun c => ?_)
    · replace H := H.1 c
      refine AW_iconst (x := 0) dX5_isStretch_31 (by decide) ?_
      exact AW_rI dX5_isStretch_32 rfl (by decide) H
    · replace H := H.2 c
      refine AW_iload_n dX5_isStretch_22 rfl rfl ?_
      refine AW_iload_n dX5_isStretch_23 rfl rfl ?_
      refine AW_icmp_ge (tgt := 31) dX5_isStretch_24 (by decide) (fun c => ?_) (fun c => ?_)
      · replace H := H.1 c
        refine AW_iconst (x := 0) dX5_isStretch_31 (by decide) ?_
        exact AW_rI dX5_isStretch_32 rfl (by decide) H
      · replace H := H.2 c
        refine AW_iconst (x := 1) dX5_isStretch_27 (by decide) ?_
        refine AW_goto (tgt := 32) dX5_isStretch_28 (by decide) ?_
        exact AW_rI dX5_isStretch_32 rfl (by decide) H
set_option maxRecDepth 100000 in
set_option maxHeartbeats 4000000 in
theorem vc_X5_extreme {G : xG} {d : Nat} {z : xZ} {v : xS} {Q : Int32 → xS → Prop} (B : Base z) {xa : Int32} {xb : Int32} 
    (H : (vp_in xa 10 ∧ (oX1_programs G d [(.ref 30)] z v (fun r3 v2 => aX5_extreme G (d + 1) 25 [some (.ref 0), some (.int xa), some (.int xb), some (.int 0), some (.int (v.1 31 xa.toNatClampNeg)), some (.int r3), some (.int 1)] [] z v2 Q)))) :
    oX5_extreme G (d + 1) [(.ref 0), (.int xa), (.int xb)] z v Q := by
  refine Ok_of (own := RX5) (by decide) rfl (Nat.le_of_ble_eq_true rfl) ?_
  show AW G (d + 1) 0 0 yX5_extreme cX5_extreme 7 (some .int) RX5 0 0 0 [some (.ref 0), some (.int xa), some (.int xb), none, none, none, none] [] z v _
  refine AW_iconst (x := 0) dX5_extreme_0 (by decide) ?_
  refine AW_istore_n (L' := [some (.ref 0), some (.int xa), some (.int xb), some (.int 0), none, none, none]) dX5_extreme_1 rfl (by decide) rfl ?_
  refine AW_aload_n dX5_extreme_2 rfl rfl ?_
  refine AW_getR dX5_extreme_3 (bI_0 B) fl_X5_31 (bR_0_3 B) ?_
  refine AW_getR dX5_extreme_6 (bI_30 B) fl_X5_136 (bR_30_4 B) ?_
  refine AW_iload_n dX5_extreme_9 rfl rfl ?_
  have hi1 := H.1
  replace H := H.2
  refine AW_iald dX5_extreme_10 (bI_31 B) hi1 ?_
  refine AW_istore (L' := [some (.ref 0), some (.int xa), some (.int xb), some (.int 0), some (.int (v.1 31 xa.toNatClampNeg)), none, none]) dX5_extreme_11 (by decide) rfl ?_
  refine AW_aload_n dX5_extreme_13 rfl rfl ?_
  refine AW_getR dX5_extreme_14 (bI_0 B) fl_X5_31 (bR_0_3 B) ?_
  refine AW_vI (as := []) (st := []) dX5_extreme_17 (bI_30 B) (by decide) rfl mv_X1_programs mi_X1_programs ml_X5_242 (Nat.le_of_ble_eq_true rfl) rfl (Nat.le_refl 0) (Nat.le_refl 0) H (fun r3 v2 H => ?_)
  refine AW_istore (L' := [some (.ref 0), some (.int xa), some (.int xb), some (.int 0), some (.int (v.1 31 xa.toNatClampNeg)), some (.int r3), none]) dX5_extreme_20 (by decide) rfl ?_
  refine AW_iconst (x := 1) dX5_extreme_22 (by decide) ?_
  refine AW_istore (L' := [some (.ref 0), some (.int xa), some (.int xb), some (.int 0), some (.int (v.1 31 xa.toNatClampNeg)), some (.int r3), some (.int 1)]) dX5_extreme_23 (by decide) rfl ?_
  exact H
set_option maxRecDepth 100000 in
set_option maxHeartbeats 4000000 in
theorem vc_X5_extreme_25 {G : xG} {d : Nat} {z : xZ} {v : xS} {Q : Int32 → xS → Prop} (B : Base z)  {l1 : Int32} {l2 : Int32} {l3 : Int32} {l4 : Int32} {l5 : Int32} {l6 : Int32} 
    (H : ((l5 ≤ l6 → (oX5_tell G d [(.ref 0), (.int l3), (.int l4)] z v (fun r2 v1 => Q r2 v1))) ∧ (¬ l5 ≤ l6 → (oX0_repeat G d [(.ref 70), (.int l6), (.int 1)] z v (fun r4 v3 => (vp_in l1 10 ∧ (((l2 * l4) < (l2 * (v3.1 71 l1.toNatClampNeg)) → (vp_in l1 10 ∧ aX5_extreme G (d + 1) 25 [some (.ref 0), some (.int l1), some (.int l2), some (.int l6), some (.int (v3.1 71 l1.toNatClampNeg)), some (.int l5), some (.int (l6 + 1))] [] z v3 Q)) ∧ (¬ (l2 * l4) < (l2 * (v3.1 71 l1.toNatClampNeg)) → aX5_extreme G (d + 1) 25 [some (.ref 0), some (.int l1), some (.int l2), some (.int l3), some (.int l4), some (.int l5), some (.int (l6 + 1))] [] z v3 Q)))))))) :
    aX5_extreme G (d + 1) 25 [some (.ref 0), some (.int l1), some (.int l2), some (.int l3), some (.int l4), some (.int l5), some (.int l6)] [] z v Q := by
  refine AW_iload dX5_extreme_25 rfl ?_
  refine AW_iload dX5_extreme_27 rfl ?_
  refine AW_icmp_ge (tgt := 84) dX5_extreme_29 (by decide) (fun c => ?_) (fun c => ?_)
  · replace H := H.1 c
    refine AW_aload_n dX5_extreme_84 rfl rfl ?_
    refine AW_iload_n dX5_extreme_85 rfl rfl ?_
    refine AW_iload dX5_extreme_86 rfl ?_
    refine AW_vI (as := [(.int l3), (.int l4)]) (st := []) dX5_extreme_88 (bI_0 B) (by decide) rfl mv_X5_tell mi_X5_tell ml_X5_90 (Nat.le_of_ble_eq_true rfl) rfl (Nat.le_refl 0) (Nat.le_refl 0) H (fun r2 v1 H => ?_)
    exact AW_rI dX5_extreme_91 rfl rfl H
  · replace H := H.2 c
    refine AW_aload_n dX5_extreme_32 rfl rfl ?_
    refine AW_getR dX5_extreme_33 (bI_0 B) fl_X5_40 (bR_0_4 B) ?_
    refine AW_iload dX5_extreme_36 rfl ?_
    refine AW_iconst (x := 1) dX5_extreme_38 (by decide) ?_
    refine AW_vI (as := [(.int l6), (.int 1)]) (st := []) dX5_extreme_39 (bI_70 B) (by decide) rfl mv_X0_repeat mi_X0_repeat ml_X5_195 (Nat.le_of_ble_eq_true rfl) rfl (Nat.le_refl 0) (Nat.le_refl 0) H (fun r4 v3 H => ?_)
    refine AW_pop dX5_extreme_42 rfl ?_
    refine AW_iload_n dX5_extreme_43 rfl rfl ?_
    refine AW_aload_n dX5_extreme_44 rfl rfl ?_
    refine AW_getR dX5_extreme_45 (bI_0 B) fl_X5_40 (bR_0_4 B) ?_
    refine AW_getR dX5_extreme_48 (bI_70 B) fl_X5_198 (bR_70_1 B) ?_
    refine AW_iload_n dX5_extreme_51 rfl rfl ?_
    have hi5 := H.1
    replace H := H.2
    refine AW_iald dX5_extreme_52 (bI_71 B) hi5 ?_
    refine AW_imul dX5_extreme_53 ?_
    refine AW_iload_n dX5_extreme_54 rfl rfl ?_
    refine AW_iload dX5_extreme_55 rfl ?_
    refine AW_imul dX5_extreme_57 ?_
    refine AW_icmp_gt (tgt := 64) dX5_extreme_58 (by decide) (fun c => ?_) (fun c => ?_)
    · replace H := H.1 c
      refine AW_iload dX5_extreme_64 rfl ?_
      refine AW_istore_n (L' := [some (.ref 0), some (.int l1), some (.int l2), some (.int l6), some (.int l4), some (.int l5), some (.int l6)]) dX5_extreme_66 rfl (by decide) rfl ?_
      refine AW_aload_n dX5_extreme_67 rfl rfl ?_
      refine AW_getR dX5_extreme_68 (bI_0 B) fl_X5_40 (bR_0_4 B) ?_
      refine AW_getR dX5_extreme_71 (bI_70 B) fl_X5_198 (bR_70_1 B) ?_
      refine AW_iload_n dX5_extreme_74 rfl rfl ?_
      have hi6 := H.1
      replace H := H.2
      refine AW_iald dX5_extreme_75 (bI_71 B) hi6 ?_
      refine AW_istore (L' := [some (.ref 0), some (.int l1), some (.int l2), some (.int l6), some (.int (v3.1 71 l1.toNatClampNeg)), some (.int l5), some (.int l6)]) dX5_extreme_76 (by decide) rfl ?_
      refine AW_iinc (x' := l6 + 1) (L' := [some (.ref 0), some (.int l1), some (.int l2), some (.int l6), some (.int (v3.1 71 l1.toNatClampNeg)), some (.int l5), some (.int (l6 + 1))]) dX5_extreme_78 rfl rfl (by decide) rfl ?_
      refine AW_goto (tgt := 25) dX5_extreme_81 (by decide) ?_
      exact H
    · replace H := H.2 c
      refine AW_goto (tgt := 78) dX5_extreme_61 (by decide) ?_
      refine AW_iinc (x' := l6 + 1) (L' := [some (.ref 0), some (.int l1), some (.int l2), some (.int l3), some (.int l4), some (.int l5), some (.int (l6 + 1))]) dX5_extreme_78 rfl rfl (by decide) rfl ?_
      refine AW_goto (tgt := 25) dX5_extreme_81 (by decide) ?_
      exact H
set_option maxRecDepth 100000 in
set_option maxHeartbeats 4000000 in
theorem vc_X5_layPlan {G : xG} {d : Nat} {z : xZ} {v : xS} {Q : xS → Prop} (B : Base z) {xa : Int32} {xb : Int32} 
    (H : (oX4_open G d [(.ref 1), (.int xa), (.int xb), (.int 0)] z v (fun v1 => aX5_layPlan G (d + 1) 12 [some (.ref 0), some (.int xa), some (.int xb), some (.int 0)] [] z v1 Q))) :
    oX5_layPlan G (d + 1) [(.ref 0), (.int xa), (.int xb)] z v Q := by
  refine Ok_of (own := RX5) (by decide) rfl (Nat.le_of_ble_eq_true rfl) ?_
  show AW G (d + 1) 0 0 yX5_layPlan cX5_layPlan 4 none RX5 0 0 0 [some (.ref 0), some (.int xa), some (.int xb), none] [] z v _
  refine AW_aload_n dX5_layPlan_0 rfl rfl ?_
  refine AW_getR dX5_layPlan_1 (bI_0 B) fl_X5_14 (bR_0_0 B) ?_
  refine AW_iload_n dX5_layPlan_4 rfl rfl ?_
  refine AW_iload_n dX5_layPlan_5 rfl rfl ?_
  refine AW_iconst (x := 0) dX5_layPlan_6 (by decide) ?_
  refine AW_vV (as := [(.int xa), (.int xb), (.int 0)]) (st := []) dX5_layPlan_7 (bI_1 B) (by decide) rfl mv_X4_open mi_X4_open ml_X5_185 (Nat.le_of_ble_eq_true rfl) rfl (Nat.le_refl 0) (Nat.le_refl 0) H (fun v1 H => ?_)
  refine AW_iconst (x := 0) dX5_layPlan_10 (by decide) ?_
  refine AW_istore_n (L' := [some (.ref 0), some (.int xa), some (.int xb), some (.int 0)]) dX5_layPlan_11 rfl (by decide) rfl ?_
  exact H
set_option maxRecDepth 100000 in
set_option maxHeartbeats 4000000 in
theorem vc_X5_layPlan_12 {G : xG} {d : Nat} {z : xZ} {v : xS} {Q : xS → Prop} (B : Base z)  {l1 : Int32} {l2 : Int32} {l3 : Int32} 
    (H : ((l2 ≤ l3 → Q v) ∧ (¬ l2 ≤ l3 → ((3 ≤ l3 → Q v) ∧ (¬ 3 ≤ l3 → (vp_in l3 3 ∧ (oX4_set G d [(.ref 1), (.int l1), (.int l3), (.int (v.1 99 l3.toNatClampNeg))] z v (fun v2 => aX5_layPlan G (d + 1) 12 [some (.ref 0), some (.int l1), some (.int l2), some (.int (l3 + 1))] [] z v2 Q)))))))) :
    aX5_layPlan G (d + 1) 12 [some (.ref 0), some (.int l1), some (.int l2), some (.int l3)] [] z v Q := by
  refine AW_iload_n dX5_layPlan_12 rfl rfl ?_
  refine AW_iload_n dX5_layPlan_13 rfl rfl ?_
  refine AW_icmp_ge (tgt := 46) dX5_layPlan_14 (by decide) (fun c => ?_) (fun c => ?_)
  · replace H := H.1 c
    exact AW_rV dX5_layPlan_46 rfl H
  · replace H := H.2 c
    refine AW_iload_n dX5_layPlan_17 rfl rfl ?_
    refine AW_iconst (x := 3) dX5_layPlan_18 (by decide) ?_
    refine AW_icmp_ge (tgt := 46) dX5_layPlan_19 (by decide) (fun c => ?_) (fun c => ?_)
    · replace H := H.1 c
      exact AW_rV dX5_layPlan_46 rfl H
    · replace H := H.2 c
      refine AW_aload_n dX5_layPlan_22 rfl rfl ?_
      refine AW_getR dX5_layPlan_23 (bI_0 B) fl_X5_14 (bR_0_0 B) ?_
      refine AW_iload_n dX5_layPlan_26 rfl rfl ?_
      refine AW_iload_n dX5_layPlan_27 rfl rfl ?_
      refine AW_aload_n dX5_layPlan_28 rfl rfl ?_
      refine AW_getR dX5_layPlan_29 (bI_0 B) fl_X5_47 (bR_0_5 B) ?_
      refine AW_getR dX5_layPlan_32 (bI_90 B) fl_X5_326 (bR_90_5 B) ?_
      refine AW_iload_n dX5_layPlan_35 rfl rfl ?_
      have hi1 := H.1
      replace H := H.2
      refine AW_iald dX5_layPlan_36 (bI_99 B) hi1 ?_
      refine AW_vV (as := [(.int l1), (.int l3), (.int (v.1 99 l3.toNatClampNeg))]) (st := []) dX5_layPlan_37 (bI_1 B) (by decide) rfl mv_X4_set mi_X4_set ml_X5_86 (Nat.le_of_ble_eq_true rfl) rfl (Nat.le_refl 0) (Nat.le_refl 0) H (fun v2 H => ?_)
      refine AW_iinc (x' := l3 + 1) (L' := [some (.ref 0), some (.int l1), some (.int l2), some (.int (l3 + 1))]) dX5_layPlan_40 rfl rfl (by decide) rfl ?_
      refine AW_goto (tgt := 12) dX5_layPlan_43 (by decide) ?_
      exact H
set_option maxRecDepth 100000 in
set_option maxHeartbeats 4000000 in
theorem vc_X5_frostByLot {G : xG} {d : Nat} {z : xZ} {v : xS} {Q : Int32 → xS → Prop} (B : Base z) {xa : Int64} 
    (H : (((v.1 30 0) = 0 → Q 0 v) ∧ (¬ (v.1 30 0) = 0 → ((¬ (lg_cmp ((xa / 128) - (xa / 128) / 2 * 2) 0) = 0 → (¬ ((v.1 30 0).toInt64) = 0 ∧ Q (1 <<< ((((xa / 256) - (xa / 256) / ((v.1 30 0).toInt64) * ((v.1 30 0).toInt64)).toInt32) &&& 31)) v)) ∧ ((lg_cmp ((xa / 128) - (xa / 128) / 2 * 2) 0) = 0 → Q 0 v))))) :
    oX5_frostByLot G (d + 1) [(.ref 0), (.long xa)] z v Q := by
  refine Ok_of (own := RX5) (by decide) rfl (Nat.le_of_ble_eq_true rfl) ?_
  show AW G (d + 1) 0 0 yX5_frostByLot cX5_frostByLot 3 (some .int) RX5 0 0 0 [some (.ref 0), some (.long xa), none] [] z v _
  refine AW_aload_n dX5_frostByLot_0 rfl rfl ?_
  refine AW_getR dX5_frostByLot_1 (bI_0 B) fl_X5_31 (bR_0_3 B) ?_
  refine AW_getI dX5_frostByLot_4 (bI_30 B) fl_X5_127 ?_
  refine AW_if_eq (tgt := 24) dX5_frostByLot_7 (by decide) (fun c => ?_) (fun c => ?_)
  · replace H := H.1 c
    refine AW_iconst (x := 0) dX5_frostByLot_24 (by decide) ?_
    exact AW_rI dX5_frostByLot_25 rfl rfl H
  · replace H := H.2 c
    refine AW_lload_n dX5_frostByLot_10 rfl rfl ?_
    refine AW_ldc2 dX5_frostByLot_11 kl_X5_329 ?_
    refine AW_ldiv dX5_frostByLot_14 (by decide) ?_
    refine AW_ldc2 dX5_frostByLot_15 kl_X5_331 ?_
    refine AW_lrem dX5_frostByLot_18 (by decide) ?_
    refine AW_lconst (x := 0) dX5_frostByLot_19 (by decide) ?_
    refine AW_lcmp dX5_frostByLot_20 ?_
    refine AW_if_ne (tgt := 26) dX5_frostByLot_21 (by decide) (fun c => ?_) (fun c => ?_)
    · replace H := H.1 c
      refine AW_iconst (x := 1) dX5_frostByLot_26 (by decide) ?_
      refine AW_lload_n dX5_frostByLot_27 rfl rfl ?_
      refine AW_ldc2 dX5_frostByLot_28 kl_X5_333 ?_
      refine AW_ldiv dX5_frostByLot_31 (by decide) ?_
      refine AW_aload_n dX5_frostByLot_32 rfl rfl ?_
      refine AW_getR dX5_frostByLot_33 (bI_0 B) fl_X5_31 (bR_0_3 B) ?_
      refine AW_getI dX5_frostByLot_36 (bI_30 B) fl_X5_127 ?_
      refine AW_i2l dX5_frostByLot_39 ?_
      refine AW_lrem dX5_frostByLot_40 H.1 ?_
      replace H := H.2
      refine AW_l2i dX5_frostByLot_41 ?_
      refine AW_ishl dX5_frostByLot_42 ?_
      exact AW_rI dX5_frostByLot_43 rfl rfl H
    · replace H := H.2 c
      refine AW_iconst (x := 0) dX5_frostByLot_24 (by decide) ?_
      exact AW_rI dX5_frostByLot_25 rfl rfl H
set_option maxRecDepth 100000 in
set_option maxHeartbeats 4000000 in
theorem vc_X5_keptNow {G : xG} {d : Nat} {z : xZ} {v : xS} {Q : Int32 → xS → Prop} (B : Base z)  
    (H : aX5_keptNow G (d + 1) 4 [some (.ref 0), some (.int 0), some (.int 0)] [] z v Q) :
    oX5_keptNow G (d + 1) [(.ref 0)] z v Q := by
  refine Ok_of (own := RX5) (by decide) rfl (Nat.le_of_ble_eq_true rfl) ?_
  show AW G (d + 1) 0 0 yX5_keptNow cX5_keptNow 3 (some .int) RX5 0 0 0 [some (.ref 0), none, none] [] z v _
  refine AW_iconst (x := 0) dX5_keptNow_0 (by decide) ?_
  refine AW_istore_n (L' := [some (.ref 0), some (.int 0), none]) dX5_keptNow_1 rfl (by decide) rfl ?_
  refine AW_iconst (x := 0) dX5_keptNow_2 (by decide) ?_
  refine AW_istore_n (L' := [some (.ref 0), some (.int 0), some (.int 0)]) dX5_keptNow_3 rfl (by decide) rfl ?_
  exact H
set_option maxRecDepth 100000 in
set_option maxHeartbeats 4000000 in
theorem vc_X5_keptNow_4 {G : xG} {d : Nat} {z : xZ} {v : xS} {Q : Int32 → xS → Prop} (B : Base z)  {l1 : Int32} {l2 : Int32} 
    (H : ((3 ≤ l2 → Q l1 v) ∧ (¬ 3 ≤ l2 → (vp_in l2 3 ∧ (((v.1 101 l2.toNatClampNeg) = 0 → aX5_keptNow G (d + 1) 4 [some (.ref 0), some (.int l1), some (.int (l2 + 1))] [] z v Q) ∧ (¬ (v.1 101 l2.toNatClampNeg) = 0 → aX5_keptNow G (d + 1) 4 [some (.ref 0), some (.int (l1 + 1)), some (.int (l2 + 1))] [] z v Q)))))) :
    aX5_keptNow G (d + 1) 4 [some (.ref 0), some (.int l1), some (.int l2)] [] z v Q := by
  refine AW_iload_n dX5_keptNow_4 rfl rfl ?_
  refine AW_iconst (x := 3) dX5_keptNow_5 (by decide) ?_
  refine AW_icmp_ge (tgt := 27) dX5_keptNow_6 (by decide) (fun c => ?_) (fun c => ?_)
  · replace H := H.1 c
    refine AW_iload_n dX5_keptNow_27 rfl rfl ?_
    exact AW_rI dX5_keptNow_28 rfl rfl H
  · replace H := H.2 c
    refine AW_aload_n dX5_keptNow_9 rfl rfl ?_
    refine AW_getR dX5_keptNow_10 (bI_0 B) fl_X5_55 (bR_0_7 B) ?_
    refine AW_iload_n dX5_keptNow_13 rfl rfl ?_
    have hi1 := H.1
    replace H := H.2
    refine AW_zald dX5_keptNow_14 (bI_101 B) hi1 ?_
    refine AW_if_eq (tgt := 21) dX5_keptNow_15 (by decide) (fun c => ?_) (fun c => ?_)
    · replace H := H.1 c
      refine AW_iinc (x' := l2 + 1) (L' := [some (.ref 0), some (.int l1), some (.int (l2 + 1))]) dX5_keptNow_21 rfl rfl (by decide) rfl ?_
      refine AW_goto (tgt := 4) dX5_keptNow_24 (by decide) ?_
      exact H
    · replace H := H.2 c
      refine AW_iinc (x' := l1 + 1) (L' := [some (.ref 0), some (.int (l1 + 1)), some (.int l2)]) dX5_keptNow_18 rfl rfl (by decide) rfl ?_
      refine AW_iinc (x' := l2 + 1) (L' := [some (.ref 0), some (.int (l1 + 1)), some (.int (l2 + 1))]) dX5_keptNow_21 rfl rfl (by decide) rfl ?_
      refine AW_goto (tgt := 4) dX5_keptNow_24 (by decide) ?_
      exact H
set_option maxRecDepth 100000 in
set_option maxHeartbeats 4000000 in
theorem vc_X5_keptEvenings {G : xG} {d : Nat} {z : xZ} {v : xS} {Q : Int32 → xS → Prop} (B : Base z) {xa : Int32} 
    (H : ((xa < 0 → Q (-1) v) ∧ (¬ xa < 0 → ((3 ≤ xa → Q (-1) v) ∧ (¬ 3 ≤ xa → (vp_in xa 3 ∧ ((¬ (v.1 101 xa.toNatClampNeg) = 0 → (vp_in xa 3 ∧ ((z.2 100 xa.toNatClampNeg = none → Q (-1) v) ∧ (∀ b3 : Nat, z.2 100 xa.toNatClampNeg = some b3 → (xin z b3 1 12 ∧ Q (v.1 b3 3) v))))) ∧ ((v.1 101 xa.toNatClampNeg) = 0 → Q (-1) v)))))))) :
    oX5_keptEvenings G (d + 1) [(.ref 0), (.int xa)] z v Q := by
  refine Ok_of (own := RX5) (by decide) rfl (Nat.le_of_ble_eq_true rfl) ?_
  show AW G (d + 1) 0 0 yX5_keptEvenings cX5_keptEvenings 3 (some .int) RX5 0 0 0 [some (.ref 0), some (.int xa), none] [] z v _
  refine AW_iload_n dX5_keptEvenings_0 rfl rfl ?_
  refine AW_if_lt (tgt := 18) dX5_keptEvenings_1 (by decide) (fun c => ?_) (fun c => ?_)
  · replace H := H.1 c
    refine AW_iconst (x := (-1)) dX5_keptEvenings_18 (by decide) ?_
    exact AW_rI dX5_keptEvenings_19 rfl rfl H
  · replace H := H.2 c
    refine AW_iload_n dX5_keptEvenings_4 rfl rfl ?_
    refine AW_iconst (x := 3) dX5_keptEvenings_5 (by decide) ?_
    refine AW_icmp_ge (tgt := 18) dX5_keptEvenings_6 (by decide) (fun c => ?_) (fun c => ?_)
    · replace H := H.1 c
      refine AW_iconst (x := (-1)) dX5_keptEvenings_18 (by decide) ?_
      exact AW_rI dX5_keptEvenings_19 rfl rfl H
    · replace H := H.2 c
      refine AW_aload_n dX5_keptEvenings_9 rfl rfl ?_
      refine AW_getR dX5_keptEvenings_10 (bI_0 B) fl_X5_55 (bR_0_7 B) ?_
      refine AW_iload_n dX5_keptEvenings_13 rfl rfl ?_
      have hi1 := H.1
      replace H := H.2
      refine AW_zald dX5_keptEvenings_14 (bI_101 B) hi1 ?_
      refine AW_if_ne (tgt := 20) dX5_keptEvenings_15 (by decide) (fun c => ?_) (fun c => ?_)
      · replace H := H.1 c
        refine AW_aload_n dX5_keptEvenings_20 rfl rfl ?_
        refine AW_getR dX5_keptEvenings_21 (bI_0 B) fl_X5_51 (bR_0_6 B) ?_
        refine AW_iload_n dX5_keptEvenings_24 rfl rfl ?_
        have hi2 := H.1
        replace H := H.2
        rcases hz : z.2 100 xa.toNatClampNeg with _ | b3
        · refine AW_aald dX5_keptEvenings_25 (bI_100 B) (Or.inl rfl) hi2 (w := .null) (by rw [hz]; rfl) ?_
          replace H := H.1 hz
          refine AW_astoreN (L' := [some (.ref 0), some (.int xa), some .null]) dX5_keptEvenings_26 rfl (by decide) rfl ?_
          refine AW_aloadN dX5_keptEvenings_27 rfl rfl ?_
          refine AW_ifnonnullN dX5_keptEvenings_28 ?_
          refine AW_iconst (x := (-1)) dX5_keptEvenings_31 (by decide) ?_
          refine AW_goto (tgt := 39) dX5_keptEvenings_32 (by decide) ?_
          exact AW_rI dX5_keptEvenings_39 rfl rfl H
        · refine AW_aald dX5_keptEvenings_25 (bI_100 B) (Or.inl rfl) hi2 (w := .ref b3) (by rw [hz]; rfl) ?_
          replace H := H.2 b3 hz
          refine AW_astore_n (L' := [some (.ref 0), some (.int xa), some (.ref b3)]) dX5_keptEvenings_26 rfl (by decide) rfl ?_
          refine AW_aload_n dX5_keptEvenings_27 rfl rfl ?_
          refine AW_ifnonnull (tgt := 35) dX5_keptEvenings_28 (by decide) ?_
          refine AW_aload_n dX5_keptEvenings_35 rfl rfl ?_
          have hf4 := H.1
          replace H := H.2
          refine AW_getI dX5_keptEvenings_36 hf4 fl_X5_173 ?_
          exact AW_rI dX5_keptEvenings_39 rfl rfl H
      · replace H := H.2 c
        refine AW_iconst (x := (-1)) dX5_keptEvenings_18 (by decide) ?_
        exact AW_rI dX5_keptEvenings_19 rfl rfl H
set_option maxRecDepth 100000 in
set_option maxHeartbeats 4000000 in
theorem vc_X5_commonDivisor {G : xG} {d : Nat} {z : xZ} {v : xS} {Q : Int32 → xS → Prop} (B : Base z) {xa : Int32} {xb : Int32} 
    (H : aX5_commonDivisor G (d + 1) 7 [some (.int xa), some (.int xb), some (.int xa), some (.int xb), some (.int 0), none] [] z v Q) :
    oX5_commonDivisor G (d + 1) [(.int xa), (.int xb)] z v Q := by
  refine Ok_of (own := RX5) (by decide) rfl (Nat.le_of_ble_eq_true rfl) ?_
  show AW G (d + 1) 0 0 yX5_commonDivisor cX5_commonDivisor 6 (some .int) RX5 0 0 0 [some (.int xa), some (.int xb), none, none, none, none] [] z v _
  refine AW_iload_n dX5_commonDivisor_0 rfl rfl ?_
  refine AW_istore_n (L' := [some (.int xa), some (.int xb), some (.int xa), none, none, none]) dX5_commonDivisor_1 rfl (by decide) rfl ?_
  refine AW_iload_n dX5_commonDivisor_2 rfl rfl ?_
  refine AW_istore_n (L' := [some (.int xa), some (.int xb), some (.int xa), some (.int xb), none, none]) dX5_commonDivisor_3 rfl (by decide) rfl ?_
  refine AW_iconst (x := 0) dX5_commonDivisor_4 (by decide) ?_
  refine AW_istore (L' := [some (.int xa), some (.int xb), some (.int xa), some (.int xb), some (.int 0), none]) dX5_commonDivisor_5 (by decide) rfl ?_
  exact H
set_option maxRecDepth 100000 in
set_option maxHeartbeats 4000000 in
theorem vc_X5_commonDivisor_7 {G : xG} {d : Nat} {z : xZ} {v : xS} {Q : Int32 → xS → Prop} (B : Base z)  {l0 : Int32} {l1 : Int32} {l2 : Int32} {l3 : Int32} {l4 : Int32} 
    (H : ((64 ≤ l4 → ((¬ l2 = 0 → Q l2 v) ∧ (l2 = 0 → Q 1 v))) ∧ (¬ 64 ≤ l4 → ((l3 = 0 → ((¬ l2 = 0 → Q l2 v) ∧ (l2 = 0 → Q 1 v))) ∧ (¬ l3 = 0 → (¬ l3 = 0 ∧ aX5_commonDivisor G (d + 1) 7 [some (.int l0), some (.int l1), some (.int l3), some (.int (l2 - l2 / l3 * l3)), some (.int (l4 + 1)), none] [] z v Q)))))) :
    aX5_commonDivisor G (d + 1) 7 [some (.int l0), some (.int l1), some (.int l2), some (.int l3), some (.int l4), none] [] z v Q := by
  refine AW_iload dX5_commonDivisor_7 rfl ?_
  refine AW_bipush (x := 64) dX5_commonDivisor_9 (by decide) ?_
  refine AW_icmp_ge (tgt := 34) dX5_commonDivisor_11 (by decide) (fun c => ?_) (fun c => ?_)
  · replace H := H.1 c
    refine AW_iload_n dX5_commonDivisor_34 rfl rfl ?_
    refine AW_if_ne (tgt := 42) dX5_commonDivisor_35 (by decide) (fun c => ?_) (fun c => ?_)
    · replace H := H.1 c
      refine AW_iload_n dX5_commonDivisor_42 rfl rfl ?_
      exact AW_rI dX5_commonDivisor_43 rfl rfl H
    · replace H := H.2 c
      refine AW_iconst (x := 1) dX5_commonDivisor_38 (by decide) ?_
      refine AW_goto (tgt := 43) dX5_commonDivisor_39 (by decide) ?_
      exact AW_rI dX5_commonDivisor_43 rfl rfl H
  · replace H := H.2 c
    refine AW_iload_n dX5_commonDivisor_14 rfl rfl ?_
    refine AW_if_eq (tgt := 34) dX5_commonDivisor_15 (by decide) (fun c => ?_) (fun c => ?_)
    · replace H := H.1 c
      refine AW_iload_n dX5_commonDivisor_34 rfl rfl ?_
      refine AW_if_ne (tgt := 42) dX5_commonDivisor_35 (by decide) (fun c => ?_) (fun c => ?_)
      · replace H := H.1 c
        refine AW_iload_n dX5_commonDivisor_42 rfl rfl ?_
        exact AW_rI dX5_commonDivisor_43 rfl rfl H
      · replace H := H.2 c
        refine AW_iconst (x := 1) dX5_commonDivisor_38 (by decide) ?_
        refine AW_goto (tgt := 43) dX5_commonDivisor_39 (by decide) ?_
        exact AW_rI dX5_commonDivisor_43 rfl rfl H
    · replace H := H.2 c
      refine AW_iload_n dX5_commonDivisor_18 rfl rfl ?_
      refine AW_iload_n dX5_commonDivisor_19 rfl rfl ?_
      refine AW_irem dX5_commonDivisor_20 H.1 ?_
      replace H := H.2
      refine AW_istore (L' := [some (.int l0), some (.int l1), some (.int l2), some (.int l3), some (.int l4), some (.int (l2 - l2 / l3 * l3))]) dX5_commonDivisor_21 (by decide) rfl ?_
      refine AW_iload_n dX5_commonDivisor_23 rfl rfl ?_
      refine AW_istore_n (L' := [some (.int l0), some (.int l1), some (.int l3), some (.int l3), some (.int l4), some (.int (l2 - l2 / l3 * l3))]) dX5_commonDivisor_24 rfl (by decide) rfl ?_
      refine AW_iload dX5_commonDivisor_25 rfl ?_
      refine AW_istore_n (L' := [some (.int l0), some (.int l1), some (.int l3), some (.int (l2 - l2 / l3 * l3)), some (.int l4), some (.int (l2 - l2 / l3 * l3))]) dX5_commonDivisor_27 rfl (by decide) rfl ?_
      refine AW_iinc (x' := l4 + 1) (L' := [some (.int l0), some (.int l1), some (.int l3), some (.int (l2 - l2 / l3 * l3)), some (.int (l4 + 1)), some (.int (l2 - l2 / l3 * l3))]) dX5_commonDivisor_28 rfl rfl (by decide) rfl ?_
      refine AW_goto (tgt := 7) dX5_commonDivisor_31 (by decide) ?_
      refine AW_sub (L' := [some (.int l0), some (.int l1), some (.int l3), some (.int (l2 - l2 / l3 * l3)), some (.int (l4 + 1)), none]) (show xle _ _ from ⟨rfl, ⟨rfl, ⟨rfl, ⟨rfl, ⟨rfl, trivial⟩⟩⟩⟩⟩) ?_
      exact H
