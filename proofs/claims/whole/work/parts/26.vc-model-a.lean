set_option maxRecDepth 100000 in
set_option maxHeartbeats 4000000 in
theorem vc_X6_in {G : xG} {d : Nat} {z : xZ} {v : xS} {Q : Int32 → xS → Prop} (B : Base z) {xa : Int32} {xb : Int32} {xc : Int32} 
    (H : ((xa < xb → Q 0 v) ∧ (¬ xa < xb → ((xc < xa → Q 0 v) ∧ (¬ xc < xa → Q 1 v))))) :
    oX6_in G (d + 1) [(.int xa), (.int xb), (.int xc)] z v Q := by
  refine Ok_of (own := RX6) (by decide) rfl (Nat.le_of_ble_eq_true rfl) ?_
  show AW G (d + 1) 0 0 yX6_in cX6_in 3 (some .boolean) RX6 0 0 0 [some (.int xa), some (.int xb), some (.int xc)] [] z v _
  refine AW_iload_n dX6_in_0 rfl rfl ?_
  refine AW_iload_n dX6_in_1 rfl rfl ?_
  refine AW_icmp_lt (tgt := 14) dX6_in_2 (by decide) (fun c => ?_) (fun c => ?_)
  · replace H := H.1 c
    refine AW_iconst (x := 0) dX6_in_14 (by decide) ?_
    exact AW_rI dX6_in_15 rfl (by decide) H
  · replace H := H.2 c
    refine AW_iload_n dX6_in_5 rfl rfl ?_
    refine AW_iload_n dX6_in_6 rfl rfl ?_
    refine AW_icmp_gt (tgt := 14) dX6_in_7 (by decide) (fun c => ?_) (fun c => ?_)
    · replace H := H.1 c
      refine AW_iconst (x := 0) dX6_in_14 (by decide) ?_
      exact AW_rI dX6_in_15 rfl (by decide) H
    · replace H := H.2 c
      refine AW_iconst (x := 1) dX6_in_10 (by decide) ?_
      refine AW_goto (tgt := 15) dX6_in_11 (by decide) ?_
      exact AW_rI dX6_in_15 rfl (by decide) H
set_option maxRecDepth 100000 in
set_option maxHeartbeats 4000000 in
theorem vc_X6_meet {G : xG} {d : Nat} {z : xZ} {v : xS} {Q : Int32 → xS → Prop} (B : Base z) {xa : Int32} 
    (H : (∀ v1 : xS, v1 = wV v 200 0 xa → (vp_in xa 6 ∧ (vp_in xa 6 ∧ (∀ v4 : xS, v4 = wV v1 201 xa.toNatClampNeg ((v1.1 201 xa.toNatClampNeg) + 1) → Q (-3) v4))))) :
    oX6_meet G (d + 1) [(.ref 200), (.int xa)] z v Q := by
  refine Ok_of (own := RX6) (by decide) rfl (Nat.le_of_ble_eq_true rfl) ?_
  show AW G (d + 1) 0 0 yX6_meet cX6_meet 2 (some .int) RX6 0 0 0 [some (.ref 200), some (.int xa)] [] z v _
  refine AW_aload_n dX6_meet_0 rfl rfl ?_
  refine AW_iload_n dX6_meet_1 rfl rfl ?_
  refine AW_putIN dX6_meet_2 (bI_200 B) fl_X6_85 rfl rfl rfl (fun v1 hv1 => ?_)
  replace H := H v1 hv1
  refine AW_aload_n dX6_meet_5 rfl rfl ?_
  refine AW_getR dX6_meet_6 (bI_200 B) fl_X6_7 (bR_200_1 B) ?_
  refine AW_iload_n dX6_meet_9 rfl rfl ?_
  refine AW_dup2 dX6_meet_10 rfl rfl ?_
  have hi2 := H.1
  replace H := H.2
  refine AW_iald dX6_meet_11 (bI_201 B) hi2 ?_
  refine AW_iconst (x := 1) dX6_meet_12 (by decide) ?_
  refine AW_iadd dX6_meet_13 ?_
  have hi3 := H.1
  replace H := H.2
  refine AW_iastN dX6_meet_14 (bI_201 B) hi3 (fun v4 hv4 => ?_)
  replace H := H v4 hv4
  refine AW_bipush (x := (-3)) dX6_meet_15 (by decide) ?_
  exact AW_rI dX6_meet_17 rfl rfl H
set_option maxRecDepth 100000 in
set_option maxHeartbeats 4000000 in
theorem vc_X6_ask {G : xG} {d : Nat} {z : xZ} {v : xS} {Q : Int32 → xS → Prop} (B : Base z) {xa : Int32} {xb : Int32} 
    (H : (∀ v1 : xS, v1 = wV v 200 2 xa → Q xb v1)) :
    oX6_ask G (d + 1) [(.ref 200), (.int xa), (.int xb)] z v Q := by
  refine Ok_of (own := RX6) (by decide) rfl (Nat.le_of_ble_eq_true rfl) ?_
  show AW G (d + 1) 0 0 yX6_ask cX6_ask 3 (some .int) RX6 0 0 0 [some (.ref 200), some (.int xa), some (.int xb)] [] z v _
  refine AW_aload_n dX6_ask_0 rfl rfl ?_
  refine AW_iload_n dX6_ask_1 rfl rfl ?_
  refine AW_putIN dX6_ask_2 (bI_200 B) fl_X6_89 rfl rfl rfl (fun v1 hv1 => ?_)
  replace H := H v1 hv1
  refine AW_iload_n dX6_ask_5 rfl rfl ?_
  exact AW_rI dX6_ask_6 rfl rfl H
set_option maxRecDepth 100000 in
set_option maxHeartbeats 4000000 in
theorem vc_X6_has {G : xG} {d : Nat} {z : xZ} {v : xS} {Q : Int32 → xS → Prop} (B : Base z) {xa : Int32} {xb : Int32} 
    (H : ((¬ ((xa >>> (xb &&& 31)) &&& 1) = 1 → Q 0 v) ∧ (((xa >>> (xb &&& 31)) &&& 1) = 1 → Q 1 v))) :
    oX6_has G (d + 1) [(.int xa), (.int xb)] z v Q := by
  refine Ok_of (own := RX6) (by decide) rfl (Nat.le_of_ble_eq_true rfl) ?_
  show AW G (d + 1) 0 0 yX6_has cX6_has 2 (some .boolean) RX6 0 0 0 [some (.int xa), some (.int xb)] [] z v _
  refine AW_iload_n dX6_has_0 rfl rfl ?_
  refine AW_iload_n dX6_has_1 rfl rfl ?_
  refine AW_ishr dX6_has_2 ?_
  refine AW_iconst (x := 1) dX6_has_3 (by decide) ?_
  refine AW_iand dX6_has_4 ?_
  refine AW_iconst (x := 1) dX6_has_5 (by decide) ?_
  refine AW_icmp_ne (tgt := 13) dX6_has_6 (by decide) (fun c => ?_) (fun c => ?_)
  · replace H := H.1 c
    refine AW_iconst (x := 0) dX6_has_13 (by decide) ?_
    exact AW_rI dX6_has_14 rfl (by decide) H
  · replace H := H.2 c
    refine AW_iconst (x := 1) dX6_has_9 (by decide) ?_
    refine AW_goto (tgt := 14) dX6_has_10 (by decide) ?_
    exact AW_rI dX6_has_14 rfl (by decide) H
set_option maxRecDepth 100000 in
set_option maxHeartbeats 4000000 in
theorem vc_X6_sizeOf {G : xG} {d : Nat} {z : xZ} {v : xS} {Q : Int32 → xS → Prop} (B : Base z) {xa : Int32} 
    (H : aX6_sizeOf G (d + 1) 4 [some (.int xa), some (.int 0), some (.int 0)] [] z v Q) :
    oX6_sizeOf G (d + 1) [(.int xa)] z v Q := by
  refine Ok_of (own := RX6) (by decide) rfl (Nat.le_of_ble_eq_true rfl) ?_
  show AW G (d + 1) 0 0 yX6_sizeOf cX6_sizeOf 3 (some .int) RX6 0 0 0 [some (.int xa), none, none] [] z v _
  refine AW_iconst (x := 0) dX6_sizeOf_0 (by decide) ?_
  refine AW_istore_n (L' := [some (.int xa), some (.int 0), none]) dX6_sizeOf_1 rfl (by decide) rfl ?_
  refine AW_iconst (x := 0) dX6_sizeOf_2 (by decide) ?_
  refine AW_istore_n (L' := [some (.int xa), some (.int 0), some (.int 0)]) dX6_sizeOf_3 rfl (by decide) rfl ?_
  exact H
set_option maxRecDepth 100000 in
set_option maxHeartbeats 4000000 in
theorem vc_X6_sizeOf_4 {G : xG} {d : Nat} {z : xZ} {v : xS} {Q : Int32 → xS → Prop} (B : Base z)  {l0 : Int32} {l1 : Int32} {l2 : Int32} 
    (H : ((10 ≤ l2 → Q l1 v) ∧ (¬ 10 ≤ l2 → aX6_sizeOf G (d + 1) 4 [some (.int l0), some (.int (l1 + ((l0 >>> (l2 &&& 31)) &&& 1))), some (.int (l2 + 1))] [] z v Q))) :
    aX6_sizeOf G (d + 1) 4 [some (.int l0), some (.int l1), some (.int l2)] [] z v Q := by
  refine AW_iload_n dX6_sizeOf_4 rfl rfl ?_
  refine AW_bipush (x := 10) dX6_sizeOf_5 (by decide) ?_
  refine AW_icmp_ge (tgt := 24) dX6_sizeOf_7 (by decide) (fun c => ?_) (fun c => ?_)
  · replace H := H.1 c
    refine AW_iload_n dX6_sizeOf_24 rfl rfl ?_
    exact AW_rI dX6_sizeOf_25 rfl rfl H
  · replace H := H.2 c
    refine AW_iload_n dX6_sizeOf_10 rfl rfl ?_
    refine AW_iload_n dX6_sizeOf_11 rfl rfl ?_
    refine AW_iload_n dX6_sizeOf_12 rfl rfl ?_
    refine AW_ishr dX6_sizeOf_13 ?_
    refine AW_iconst (x := 1) dX6_sizeOf_14 (by decide) ?_
    refine AW_iand dX6_sizeOf_15 ?_
    refine AW_iadd dX6_sizeOf_16 ?_
    refine AW_istore_n (L' := [some (.int l0), some (.int (l1 + ((l0 >>> (l2 &&& 31)) &&& 1))), some (.int l2)]) dX6_sizeOf_17 rfl (by decide) rfl ?_
    refine AW_iinc (x' := l2 + 1) (L' := [some (.int l0), some (.int (l1 + ((l0 >>> (l2 &&& 31)) &&& 1))), some (.int (l2 + 1))]) dX6_sizeOf_18 rfl rfl (by decide) rfl ?_
    refine AW_goto (tgt := 4) dX6_sizeOf_21 (by decide) ?_
    exact H
set_option maxRecDepth 100000 in
set_option maxHeartbeats 4000000 in
theorem vc_X6_isRow {G : xG} {d : Nat} {z : xZ} {v : xS} {Q : Int32 → xS → Prop} (B : Base z) {xa : Int32} 
    (H : (oX6_in G d [(.int xa), (.int 0), (.int 5)] z v (fun r2 v1 => (xbl r2 ∧ Q r2 v1)))) :
    oX6_isRow G (d + 1) [(.int xa)] z v Q := by
  refine Ok_of (own := RX6) (by decide) rfl (Nat.le_of_ble_eq_true rfl) ?_
  show AW G (d + 1) 0 0 yX6_isRow cX6_isRow 1 (some .boolean) RX6 0 0 0 [some (.int xa)] [] z v _
  refine AW_iload_n dX6_isRow_0 rfl rfl ?_
  refine AW_iconst (x := 0) dX6_isRow_1 (by decide) ?_
  refine AW_iconst (x := 5) dX6_isRow_2 (by decide) ?_
  refine AW_sI (as := [(.int xa), (.int 0), (.int 5)]) (st := []) dX6_isRow_3 mv_X6_in ms_X6_in ml_X6_92 (Nat.le_of_ble_eq_true rfl) rfl (Nat.le_refl 0) (Nat.le_refl 0) H (fun r2 v1 H => ?_)
  exact AW_rI dX6_isRow_6 rfl H.1 H.2
set_option maxRecDepth 100000 in
set_option maxHeartbeats 4000000 in
theorem vc_X6_isText {G : xG} {d : Nat} {z : xZ} {v : xS} {Q : Int32 → xS → Prop} (B : Base z) {xa : Int32} 
    (H : (oX6_in G d [(.int xa), (.int 0), (.int 3)] z v (fun r2 v1 => (xbl r2 ∧ Q r2 v1)))) :
    oX6_isText G (d + 1) [(.int xa)] z v Q := by
  refine Ok_of (own := RX6) (by decide) rfl (Nat.le_of_ble_eq_true rfl) ?_
  show AW G (d + 1) 0 0 yX6_isText cX6_isText 1 (some .boolean) RX6 0 0 0 [some (.int xa)] [] z v _
  refine AW_iload_n dX6_isText_0 rfl rfl ?_
  refine AW_iconst (x := 0) dX6_isText_1 (by decide) ?_
  refine AW_iconst (x := 3) dX6_isText_2 (by decide) ?_
  refine AW_sI (as := [(.int xa), (.int 0), (.int 3)]) (st := []) dX6_isText_3 mv_X6_in ms_X6_in ml_X6_92 (Nat.le_of_ble_eq_true rfl) rfl (Nat.le_refl 0) (Nat.le_refl 0) H (fun r2 v1 H => ?_)
  exact AW_rI dX6_isText_6 rfl H.1 H.2
set_option maxRecDepth 100000 in
set_option maxHeartbeats 4000000 in
theorem vc_X6_askedRow {G : xG} {d : Nat} {z : xZ} {v : xS} {Q : Int32 → xS → Prop} (B : Base z) {xa : Int32} 
    (H : (oX6_isRow G d [(.int xa)] z v (fun r2 v1 => ((¬ r2 = 0 → (vp_in xa 6 ∧ ((0 ≤ (v1.1 203 xa.toNatClampNeg) → Q 0 v1) ∧ (¬ 0 ≤ (v1.1 203 xa.toNatClampNeg) → (oX6_meet G d [(.ref 200), (.int 1)] z v1 (fun r5 v4 => Q r5 v4)))))) ∧ (r2 = 0 → Q (-1) v1))))) :
    oX6_askedRow G (d + 1) [(.ref 200), (.int xa)] z v Q := by
  refine Ok_of (own := RX6) (by decide) rfl (Nat.le_of_ble_eq_true rfl) ?_
  show AW G (d + 1) 0 0 yX6_askedRow cX6_askedRow 2 (some .int) RX6 0 0 0 [some (.ref 200), some (.int xa)] [] z v _
  refine AW_iload_n dX6_askedRow_0 rfl rfl ?_
  refine AW_sI (as := [(.int xa)]) (st := []) dX6_askedRow_1 mv_X6_isRow ms_X6_isRow ml_X6_96 (Nat.le_of_ble_eq_true rfl) rfl (Nat.le_refl 0) (Nat.le_refl 0) H (fun r2 v1 H => ?_)
  refine AW_if_ne (tgt := 11) dX6_askedRow_4 (by decide) (fun c => ?_) (fun c => ?_)
  · replace H := H.1 c
    refine AW_aload_n dX6_askedRow_11 rfl rfl ?_
    refine AW_getR dX6_askedRow_12 (bI_200 B) fl_X6_13 (bR_200_3 B) ?_
    refine AW_iload_n dX6_askedRow_15 rfl rfl ?_
    have hi3 := H.1
    replace H := H.2
    refine AW_iald dX6_askedRow_16 (bI_203 B) hi3 ?_
    refine AW_if_ge (tgt := 28) dX6_askedRow_17 (by decide) (fun c => ?_) (fun c => ?_)
    · replace H := H.1 c
      refine AW_iconst (x := 0) dX6_askedRow_28 (by decide) ?_
      exact AW_rI dX6_askedRow_29 rfl rfl H
    · replace H := H.2 c
      refine AW_aload_n dX6_askedRow_20 rfl rfl ?_
      refine AW_iconst (x := 1) dX6_askedRow_21 (by decide) ?_
      refine AW_vI (as := [(.int 1)]) (st := []) dX6_askedRow_22 (bI_200 B) (by decide) rfl mv_X6_meet mi_X6_meet ml_X6_100 (Nat.le_of_ble_eq_true rfl) rfl (Nat.le_refl 0) (Nat.le_refl 0) H (fun r5 v4 H => ?_)
      refine AW_goto (tgt := 29) dX6_askedRow_25 (by decide) ?_
      exact AW_rI dX6_askedRow_29 rfl rfl H
  · replace H := H.2 c
    refine AW_iconst (x := (-1)) dX6_askedRow_7 (by decide) ?_
    refine AW_goto (tgt := 29) dX6_askedRow_8 (by decide) ?_
    exact AW_rI dX6_askedRow_29 rfl rfl H
set_option maxRecDepth 100000 in
set_option maxHeartbeats 4000000 in
theorem vc_X6_askedText {G : xG} {d : Nat} {z : xZ} {v : xS} {Q : Int32 → xS → Prop} (B : Base z) {xa : Int32} 
    (H : (oX6_isText G d [(.int xa)] z v (fun r2 v1 => ((¬ r2 = 0 → (vp_in xa 4 ∧ ((0 ≤ (v1.1 206 xa.toNatClampNeg) → Q 0 v1) ∧ (¬ 0 ≤ (v1.1 206 xa.toNatClampNeg) → (oX6_meet G d [(.ref 200), (.int 1)] z v1 (fun r5 v4 => Q r5 v4)))))) ∧ (r2 = 0 → Q (-1) v1))))) :
    oX6_askedText G (d + 1) [(.ref 200), (.int xa)] z v Q := by
  refine Ok_of (own := RX6) (by decide) rfl (Nat.le_of_ble_eq_true rfl) ?_
  show AW G (d + 1) 0 0 yX6_askedText cX6_askedText 2 (some .int) RX6 0 0 0 [some (.ref 200), some (.int xa)] [] z v _
  refine AW_iload_n dX6_askedText_0 rfl rfl ?_
  refine AW_sI (as := [(.int xa)]) (st := []) dX6_askedText_1 mv_X6_isText ms_X6_isText ml_X6_104 (Nat.le_of_ble_eq_true rfl) rfl (Nat.le_refl 0) (Nat.le_refl 0) H (fun r2 v1 H => ?_)
  refine AW_if_ne (tgt := 11) dX6_askedText_4 (by decide) (fun c => ?_) (fun c => ?_)
  · replace H := H.1 c
    refine AW_aload_n dX6_askedText_11 rfl rfl ?_
    refine AW_getR dX6_askedText_12 (bI_200 B) fl_X6_22 (bR_200_6 B) ?_
    refine AW_iload_n dX6_askedText_15 rfl rfl ?_
    have hi3 := H.1
    replace H := H.2
    refine AW_iald dX6_askedText_16 (bI_206 B) hi3 ?_
    refine AW_if_ge (tgt := 28) dX6_askedText_17 (by decide) (fun c => ?_) (fun c => ?_)
    · replace H := H.1 c
      refine AW_iconst (x := 0) dX6_askedText_28 (by decide) ?_
      exact AW_rI dX6_askedText_29 rfl rfl H
    · replace H := H.2 c
      refine AW_aload_n dX6_askedText_20 rfl rfl ?_
      refine AW_iconst (x := 1) dX6_askedText_21 (by decide) ?_
      refine AW_vI (as := [(.int 1)]) (st := []) dX6_askedText_22 (bI_200 B) (by decide) rfl mv_X6_meet mi_X6_meet ml_X6_100 (Nat.le_of_ble_eq_true rfl) rfl (Nat.le_refl 0) (Nat.le_refl 0) H (fun r5 v4 H => ?_)
      refine AW_goto (tgt := 29) dX6_askedText_25 (by decide) ?_
      exact AW_rI dX6_askedText_29 rfl rfl H
  · replace H := H.2 c
    refine AW_iconst (x := (-1)) dX6_askedText_7 (by decide) ?_
    refine AW_goto (tgt := 29) dX6_askedText_8 (by decide) ?_
    exact AW_rI dX6_askedText_29 rfl rfl H
set_option maxRecDepth 100000 in
set_option maxHeartbeats 4000000 in
theorem vc_X6_rowAt {G : xG} {d : Nat} {z : xZ} {v : xS} {Q : Int32 → xS → Prop} (B : Base z) {xa : Int32} {xb : Int32} 
    (H : (vp_in ((40 * xa) + xb) 240 ∧ Q (v.1 204 ((40 * xa) + xb).toNatClampNeg) v)) :
    oX6_rowAt G (d + 1) [(.ref 200), (.int xa), (.int xb)] z v Q := by
  refine Ok_of (own := RX6) (by decide) rfl (Nat.le_of_ble_eq_true rfl) ?_
  show AW G (d + 1) 0 0 yX6_rowAt cX6_rowAt 3 (some .int) RX6 0 0 0 [some (.ref 200), some (.int xa), some (.int xb)] [] z v _
  refine AW_aload_n dX6_rowAt_0 rfl rfl ?_
  refine AW_getR dX6_rowAt_1 (bI_200 B) fl_X6_16 (bR_200_4 B) ?_
  refine AW_bipush (x := 40) dX6_rowAt_4 (by decide) ?_
  refine AW_iload_n dX6_rowAt_6 rfl rfl ?_
  refine AW_imul dX6_rowAt_7 ?_
  refine AW_iload_n dX6_rowAt_8 rfl rfl ?_
  refine AW_iadd dX6_rowAt_9 ?_
  have hi1 := H.1
  replace H := H.2
  refine AW_iald dX6_rowAt_10 (bI_204 B) hi1 ?_
  exact AW_rI dX6_rowAt_11 rfl rfl H
set_option maxRecDepth 100000 in
set_option maxHeartbeats 4000000 in
theorem vc_X6_setRow {G : xG} {d : Nat} {z : xZ} {v : xS} {Q : xS → Prop} (B : Base z) {xa : Int32} {xb : Int32} {xc : Int32} 
    (H : (vp_in ((40 * xa) + xb) 240 ∧ (∀ v2 : xS, v2 = wV v 204 ((40 * xa) + xb).toNatClampNeg xc → Q v2))) :
    oX6_setRow G (d + 1) [(.ref 200), (.int xa), (.int xb), (.int xc)] z v Q := by
  refine Ok_of (own := RX6) (by decide) rfl (Nat.le_of_ble_eq_true rfl) ?_
  show AW G (d + 1) 0 0 yX6_setRow cX6_setRow 4 none RX6 0 0 0 [some (.ref 200), some (.int xa), some (.int xb), some (.int xc)] [] z v _
  refine AW_aload_n dX6_setRow_0 rfl rfl ?_
  refine AW_getR dX6_setRow_1 (bI_200 B) fl_X6_16 (bR_200_4 B) ?_
  refine AW_bipush (x := 40) dX6_setRow_4 (by decide) ?_
  refine AW_iload_n dX6_setRow_6 rfl rfl ?_
  refine AW_imul dX6_setRow_7 ?_
  refine AW_iload_n dX6_setRow_8 rfl rfl ?_
  refine AW_iadd dX6_setRow_9 ?_
  refine AW_iload_n dX6_setRow_10 rfl rfl ?_
  have hi1 := H.1
  replace H := H.2
  refine AW_iastN dX6_setRow_11 (bI_204 B) hi1 (fun v2 hv2 => ?_)
  replace H := H v2 hv2
  exact AW_rV dX6_setRow_12 rfl H
set_option maxRecDepth 100000 in
set_option maxHeartbeats 4000000 in
theorem vc_X6_row {G : xG} {d : Nat} {z : xZ} {v : xS} {Q : Int32 → xS → Prop} (B : Base z) {xa : Int32} {xb : Int32} 
    (H : (oX6_isRow G d [(.int xa)] z v (fun r2 v1 => ((r2 = 0 → Q (-1) v1) ∧ (¬ r2 = 0 → ((xb ≤ 40 → ((0 ≤ xb → (vp_in xa 6 ∧ (∀ v4 : xS, v4 = wV v1 203 xa.toNatClampNeg xb → aX6_row G (d + 1) 34 [some (.ref 200), some (.int xa), some (.int xb), some (.int 0)] [] z v4 Q))) ∧ (¬ 0 ≤ xb → (oX6_meet G d [(.ref 200), (.int 5)] z v1 (fun r6 v5 => Q r6 v5))))) ∧ (¬ xb ≤ 40 → Q (-1) v1))))))) :
    oX6_row G (d + 1) [(.ref 200), (.int xa), (.int xb)] z v Q := by
  refine Ok_of (own := RX6) (by decide) rfl (Nat.le_of_ble_eq_true rfl) ?_
  show AW G (d + 1) 0 0 yX6_row cX6_row 4 (some .int) RX6 0 0 0 [some (.ref 200), some (.int xa), some (.int xb), none] [] z v _
  refine AW_iload_n dX6_row_0 rfl rfl ?_
  refine AW_sI (as := [(.int xa)]) (st := []) dX6_row_1 mv_X6_isRow ms_X6_isRow ml_X6_96 (Nat.le_of_ble_eq_true rfl) rfl (Nat.le_refl 0) (Nat.le_refl 0) H (fun r2 v1 H => ?_)
  refine AW_if_eq (tgt := 13) dX6_row_4 (by decide) (fun c => ?_) (fun c => ?_)
  · replace H := H.1 c
    refine AW_iconst (x := (-1)) dX6_row_13 (by decide) ?_
    exact AW_rI dX6_row_14 rfl rfl H
  · replace H := H.2 c
    refine AW_iload_n dX6_row_7 rfl rfl ?_
    refine AW_bipush (x := 40) dX6_row_8 (by decide) ?_
    refine AW_icmp_le (tgt := 15) dX6_row_10 (by decide) (fun c => ?_) (fun c => ?_)
    · replace H := H.1 c
      refine AW_iload_n dX6_row_15 rfl rfl ?_
      refine AW_if_ge (tgt := 25) dX6_row_16 (by decide) (fun c => ?_) (fun c => ?_)
      · replace H := H.1 c
        refine AW_aload_n dX6_row_25 rfl rfl ?_
        refine AW_getR dX6_row_26 (bI_200 B) fl_X6_13 (bR_200_3 B) ?_
        refine AW_iload_n dX6_row_29 rfl rfl ?_
        refine AW_iload_n dX6_row_30 rfl rfl ?_
        have hi3 := H.1
        replace H := H.2
        refine AW_iastN dX6_row_31 (bI_203 B) hi3 (fun v4 hv4 => ?_)
        replace H := H v4 hv4
        refine AW_iconst (x := 0) dX6_row_32 (by decide) ?_
        refine AW_istore_n (L' := [some (.ref 200), some (.int xa), some (.int xb), some (.int 0)]) dX6_row_33 rfl (by decide) rfl ?_
        exact H
      · replace H := H.2 c
        refine AW_aload_n dX6_row_19 rfl rfl ?_
        refine AW_iconst (x := 5) dX6_row_20 (by decide) ?_
        refine AW_vI (as := [(.int 5)]) (st := []) dX6_row_21 (bI_200 B) (by decide) rfl mv_X6_meet mi_X6_meet ml_X6_100 (Nat.le_of_ble_eq_true rfl) rfl (Nat.le_refl 0) (Nat.le_refl 0) H (fun r6 v5 H => ?_)
        exact AW_rI dX6_row_24 rfl rfl H
    · replace H := H.2 c
      refine AW_iconst (x := (-1)) dX6_row_13 (by decide) ?_
      exact AW_rI dX6_row_14 rfl rfl H
set_option maxRecDepth 100000 in
set_option maxHeartbeats 4000000 in
theorem vc_X6_row_34 {G : xG} {d : Nat} {z : xZ} {v : xS} {Q : Int32 → xS → Prop} (B : Base z)  {l1 : Int32} {l2 : Int32} {l3 : Int32} 
    (H : ((40 ≤ l3 → Q l2 v) ∧ (¬ 40 ≤ l3 → (oX6_setRow G d [(.ref 200), (.int l1), (.int l3), (.int 0)] z v (fun v1 => aX6_row G (d + 1) 34 [some (.ref 200), some (.int l1), some (.int l2), some (.int (l3 + 1))] [] z v1 Q))))) :
    aX6_row G (d + 1) 34 [some (.ref 200), some (.int l1), some (.int l2), some (.int l3)] [] z v Q := by
  refine AW_iload_n dX6_row_34 rfl rfl ?_
  refine AW_bipush (x := 40) dX6_row_35 (by decide) ?_
  refine AW_icmp_ge (tgt := 53) dX6_row_37 (by decide) (fun c => ?_) (fun c => ?_)
  · replace H := H.1 c
    refine AW_iload_n dX6_row_53 rfl rfl ?_
    exact AW_rI dX6_row_54 rfl rfl H
  · replace H := H.2 c
    refine AW_aload_n dX6_row_40 rfl rfl ?_
    refine AW_iload_n dX6_row_41 rfl rfl ?_
    refine AW_iload_n dX6_row_42 rfl rfl ?_
    refine AW_iconst (x := 0) dX6_row_43 (by decide) ?_
    refine AW_vV (as := [(.int l1), (.int l3), (.int 0)]) (st := []) dX6_row_44 (bI_200 B) (by decide) rfl mv_X6_setRow mi_X6_setRow ml_X6_107 (Nat.le_of_ble_eq_true rfl) rfl (Nat.le_refl 0) (Nat.le_refl 0) H (fun v1 H => ?_)
    refine AW_iinc (x' := l3 + 1) (L' := [some (.ref 200), some (.int l1), some (.int l2), some (.int (l3 + 1))]) dX6_row_47 rfl rfl (by decide) rfl ?_
    refine AW_goto (tgt := 34) dX6_row_50 (by decide) ?_
    exact H
set_option maxRecDepth 100000 in
set_option maxHeartbeats 4000000 in
theorem vc_X6_at {G : xG} {d : Nat} {z : xZ} {v : xS} {Q : Int32 → xS → Prop} (B : Base z) {xa : Int32} {xb : Int32} 
    (H : (oX6_askedRow G d [(.ref 200), (.int xa)] z v (fun r2 v1 => ((0 ≤ r2 → (vp_in xa 6 ∧ (oX6_in G d [(.int xb), (.int 0), (.int ((v1.1 203 xa.toNatClampNeg) - 1))] z v1 (fun r5 v4 => ((r5 = 0 → (oX6_meet G d [(.ref 200), (.int 2)] z v4 (fun r7 v6 => Q r7 v6))) ∧ (¬ r5 = 0 → (oX6_rowAt G d [(.ref 200), (.int xa), (.int xb)] z v4 (fun r9 v8 => (oX6_ask G d [(.ref 200), (.int r9), (.int 1)] z v8 (fun r11 v10 => Q r11 v10)))))))))) ∧ (¬ 0 ≤ r2 → Q r2 v1))))) :
    oX6_at G (d + 1) [(.ref 200), (.int xa), (.int xb)] z v Q := by
  refine Ok_of (own := RX6) (by decide) rfl (Nat.le_of_ble_eq_true rfl) ?_
  show AW G (d + 1) 0 0 yX6_at cX6_at 4 (some .int) RX6 0 0 0 [some (.ref 200), some (.int xa), some (.int xb), none] [] z v _
  refine AW_aload_n dX6_at_0 rfl rfl ?_
  refine AW_iload_n dX6_at_1 rfl rfl ?_
  refine AW_vI (as := [(.int xa)]) (st := []) dX6_at_2 (bI_200 B) (by decide) rfl mv_X6_askedRow mi_X6_askedRow ml_X6_111 (Nat.le_of_ble_eq_true rfl) rfl (Nat.le_refl 0) (Nat.le_refl 0) H (fun r2 v1 H => ?_)
  refine AW_istore_n (L' := [some (.ref 200), some (.int xa), some (.int xb), some (.int r2)]) dX6_at_5 rfl (by decide) rfl ?_
  refine AW_iload_n dX6_at_6 rfl rfl ?_
  refine AW_if_ge (tgt := 12) dX6_at_7 (by decide) (fun c => ?_) (fun c => ?_)
  · replace H := H.1 c
    refine AW_iload_n dX6_at_12 rfl rfl ?_
    refine AW_iconst (x := 0) dX6_at_13 (by decide) ?_
    refine AW_aload_n dX6_at_14 rfl rfl ?_
    refine AW_getR dX6_at_15 (bI_200 B) fl_X6_13 (bR_200_3 B) ?_
    refine AW_iload_n dX6_at_18 rfl rfl ?_
    have hi3 := H.1
    replace H := H.2
    refine AW_iald dX6_at_19 (bI_203 B) hi3 ?_
    refine AW_iconst (x := 1) dX6_at_20 (by decide) ?_
    refine AW_isub dX6_at_21 ?_
    refine AW_sI (as := [(.int xb), (.int 0), (.int ((v1.1 203 xa.toNatClampNeg) - 1))]) (st := []) dX6_at_22 mv_X6_in ms_X6_in ml_X6_92 (Nat.le_of_ble_eq_true rfl) rfl (Nat.le_refl 0) (Nat.le_refl 0) H (fun r5 v4 H => ?_)
    refine AW_if_eq (tgt := 42) dX6_at_25 (by decide) (fun c => ?_) (fun c => ?_)
    · replace H := H.1 c
      refine AW_aload_n dX6_at_42 rfl rfl ?_
      refine AW_iconst (x := 2) dX6_at_43 (by decide) ?_
      refine AW_vI (as := [(.int 2)]) (st := []) dX6_at_44 (bI_200 B) (by decide) rfl mv_X6_meet mi_X6_meet ml_X6_100 (Nat.le_of_ble_eq_true rfl) rfl (Nat.le_refl 0) (Nat.le_refl 0) H (fun r7 v6 H => ?_)
      exact AW_rI dX6_at_47 rfl rfl H
    · replace H := H.2 c
      refine AW_aload_n dX6_at_28 rfl rfl ?_
      refine AW_aload_n dX6_at_29 rfl rfl ?_
      refine AW_iload_n dX6_at_30 rfl rfl ?_
      refine AW_iload_n dX6_at_31 rfl rfl ?_
      refine AW_vI (as := [(.int xa), (.int xb)]) (st := [(.ref 200)]) dX6_at_32 (bI_200 B) (by decide) rfl mv_X6_rowAt mi_X6_rowAt ml_X6_114 (Nat.le_of_ble_eq_true rfl) rfl (Nat.le_refl 0) (Nat.le_refl 0) H (fun r9 v8 H => ?_)
      refine AW_iconst (x := 1) dX6_at_35 (by decide) ?_
      refine AW_vI (as := [(.int r9), (.int 1)]) (st := []) dX6_at_36 (bI_200 B) (by decide) rfl mv_X6_ask mi_X6_ask ml_X6_118 (Nat.le_of_ble_eq_true rfl) rfl (Nat.le_refl 0) (Nat.le_refl 0) H (fun r11 v10 H => ?_)
      refine AW_goto (tgt := 47) dX6_at_39 (by decide) ?_
      exact AW_rI dX6_at_47 rfl rfl H
  · replace H := H.2 c
    refine AW_iload_n dX6_at_10 rfl rfl ?_
    exact AW_rI dX6_at_11 rfl rfl H
set_option maxRecDepth 100000 in
set_option maxHeartbeats 4000000 in
theorem vc_X6_lay {G : xG} {d : Nat} {z : xZ} {v : xS} {Q : Int32 → xS → Prop} (B : Base z) {xa : Int32} {xb : Int32} {xc : Int32} 
    (H : (oX6_at G d [(.ref 200), (.int xa), (.int xb)] z v (fun r2 v1 => ((0 ≤ r2 → (oX6_setRow G d [(.ref 200), (.int xa), (.int xb), (.int xc)] z v1 (fun v3 => Q 1 v3))) ∧ (¬ 0 ≤ r2 → Q r2 v1))))) :
    oX6_lay G (d + 1) [(.ref 200), (.int xa), (.int xb), (.int xc)] z v Q := by
  refine Ok_of (own := RX6) (by decide) rfl (Nat.le_of_ble_eq_true rfl) ?_
  show AW G (d + 1) 0 0 yX6_lay cX6_lay 5 (some .int) RX6 0 0 0 [some (.ref 200), some (.int xa), some (.int xb), some (.int xc), none] [] z v _
  refine AW_aload_n dX6_lay_0 rfl rfl ?_
  refine AW_iload_n dX6_lay_1 rfl rfl ?_
  refine AW_iload_n dX6_lay_2 rfl rfl ?_
  refine AW_vI (as := [(.int xa), (.int xb)]) (st := []) dX6_lay_3 (bI_200 B) (by decide) rfl mv_X6_at mi_X6_at ml_X6_121 (Nat.le_of_ble_eq_true rfl) rfl (Nat.le_refl 0) (Nat.le_refl 0) H (fun r2 v1 H => ?_)
  refine AW_istore (L' := [some (.ref 200), some (.int xa), some (.int xb), some (.int xc), some (.int r2)]) dX6_lay_6 (by decide) rfl ?_
  refine AW_iload dX6_lay_8 rfl ?_
  refine AW_if_ge (tgt := 16) dX6_lay_10 (by decide) (fun c => ?_) (fun c => ?_)
  · replace H := H.1 c
    refine AW_aload_n dX6_lay_16 rfl rfl ?_
    refine AW_iload_n dX6_lay_17 rfl rfl ?_
    refine AW_iload_n dX6_lay_18 rfl rfl ?_
    refine AW_iload_n dX6_lay_19 rfl rfl ?_
    refine AW_vV (as := [(.int xa), (.int xb), (.int xc)]) (st := []) dX6_lay_20 (bI_200 B) (by decide) rfl mv_X6_setRow mi_X6_setRow ml_X6_107 (Nat.le_of_ble_eq_true rfl) rfl (Nat.le_refl 0) (Nat.le_refl 0) H (fun v3 H => ?_)
    refine AW_iconst (x := 1) dX6_lay_23 (by decide) ?_
    exact AW_rI dX6_lay_24 rfl rfl H
  · replace H := H.2 c
    refine AW_iload dX6_lay_13 rfl ?_
    exact AW_rI dX6_lay_15 rfl rfl H
set_option maxRecDepth 100000 in
set_option maxHeartbeats 4000000 in
theorem vc_X6_tear {G : xG} {d : Nat} {z : xZ} {v : xS} {Q : Int32 → xS → Prop} (B : Base z) {xa : Int32} 
    (H : (oX6_askedRow G d [(.ref 200), (.int xa)] z v (fun r2 v1 => ((0 ≤ r2 → (vp_in xa 6 ∧ (∀ v4 : xS, v4 = wV v1 203 xa.toNatClampNeg (-9) → Q 1 v4))) ∧ (¬ 0 ≤ r2 → Q r2 v1))))) :
    oX6_tear G (d + 1) [(.ref 200), (.int xa)] z v Q := by
  refine Ok_of (own := RX6) (by decide) rfl (Nat.le_of_ble_eq_true rfl) ?_
  show AW G (d + 1) 0 0 yX6_tear cX6_tear 3 (some .int) RX6 0 0 0 [some (.ref 200), some (.int xa), none] [] z v _
  refine AW_aload_n dX6_tear_0 rfl rfl ?_
  refine AW_iload_n dX6_tear_1 rfl rfl ?_
  refine AW_vI (as := [(.int xa)]) (st := []) dX6_tear_2 (bI_200 B) (by decide) rfl mv_X6_askedRow mi_X6_askedRow ml_X6_111 (Nat.le_of_ble_eq_true rfl) rfl (Nat.le_refl 0) (Nat.le_refl 0) H (fun r2 v1 H => ?_)
  refine AW_istore_n (L' := [some (.ref 200), some (.int xa), some (.int r2)]) dX6_tear_5 rfl (by decide) rfl ?_
  refine AW_iload_n dX6_tear_6 rfl rfl ?_
  refine AW_if_ge (tgt := 12) dX6_tear_7 (by decide) (fun c => ?_) (fun c => ?_)
  · replace H := H.1 c
    refine AW_aload_n dX6_tear_12 rfl rfl ?_
    refine AW_getR dX6_tear_13 (bI_200 B) fl_X6_13 (bR_200_3 B) ?_
    refine AW_iload_n dX6_tear_16 rfl rfl ?_
    refine AW_bipush (x := (-9)) dX6_tear_17 (by decide) ?_
    have hi3 := H.1
    replace H := H.2
    refine AW_iastN dX6_tear_19 (bI_203 B) hi3 (fun v4 hv4 => ?_)
    replace H := H v4 hv4
    refine AW_iconst (x := 1) dX6_tear_20 (by decide) ?_
    exact AW_rI dX6_tear_21 rfl rfl H
  · replace H := H.2 c
    refine AW_iload_n dX6_tear_10 rfl rfl ?_
    exact AW_rI dX6_tear_11 rfl rfl H
set_option maxRecDepth 100000 in
set_option maxHeartbeats 4000000 in
theorem vc_X6_copy {G : xG} {d : Nat} {z : xZ} {v : xS} {Q : Int32 → xS → Prop} (B : Base z) {xa : Int32} {xb : Int32} {xc : Int32} {xd : Int32} {xe : Int32} 
    (H : (oX6_isRow G d [(.int xa)] z v (fun r2 v1 => ((r2 = 0 → Q (-1) v1) ∧ (¬ r2 = 0 → (oX6_isRow G d [(.int xc)] z v1 (fun r4 v3 => ((¬ r4 = 0 → ((0 ≤ xe → (vp_in xa 6 ∧ (((v3.1 203 xa.toNatClampNeg) < 0 → (oX6_meet G d [(.ref 200), (.int 1)] z v3 (fun r7 v6 => Q r7 v6))) ∧ (¬ (v3.1 203 xa.toNatClampNeg) < 0 → (vp_in xc 6 ∧ ((0 ≤ (v3.1 203 xc.toNatClampNeg) → ((xb < 0 → (oX6_meet G d [(.ref 200), (.int 2)] z v3 (fun r10 v9 => Q r10 v9))) ∧ (¬ xb < 0 → ((xd < 0 → (oX6_meet G d [(.ref 200), (.int 2)] z v3 (fun r12 v11 => Q r12 v11))) ∧ (¬ xd < 0 → (vp_in xa 6 ∧ ((0 < (lg_cmp (xb.toInt64 + xe.toInt64) ((v3.1 203 xa.toNatClampNeg).toInt64)) → (oX6_meet G d [(.ref 200), (.int 2)] z v3 (fun r15 v14 => Q r15 v14))) ∧ (¬ 0 < (lg_cmp (xb.toInt64 + xe.toInt64) ((v3.1 203 xa.toNatClampNeg).toInt64)) → (vp_in xc 6 ∧ (((lg_cmp (xd.toInt64 + xe.toInt64) ((v3.1 203 xc.toNatClampNeg).toInt64)) ≤ 0 → aX6_copy G (d + 1) 104 [some (.ref 200), some (.int xa), some (.int xb), some (.int xc), some (.int xd), some (.int xe), some (.int 0)] [] z v3 Q) ∧ (¬ (lg_cmp (xd.toInt64 + xe.toInt64) ((v3.1 203 xc.toNatClampNeg).toInt64)) ≤ 0 → (oX6_meet G d [(.ref 200), (.int 2)] z v3 (fun r18 v17 => Q r18 v17))))))))))))) ∧ (¬ 0 ≤ (v3.1 203 xc.toNatClampNeg) → (oX6_meet G d [(.ref 200), (.int 1)] z v3 (fun r20 v19 => Q r20 v19))))))))) ∧ (¬ 0 ≤ xe → (oX6_meet G d [(.ref 200), (.int 5)] z v3 (fun r22 v21 => Q r22 v21))))) ∧ (r4 = 0 → Q (-1) v3))))))))) :
    oX6_copy G (d + 1) [(.ref 200), (.int xa), (.int xb), (.int xc), (.int xd), (.int xe)] z v Q := by
  refine Ok_of (own := RX6) (by decide) rfl (Nat.le_of_ble_eq_true rfl) ?_
  show AW G (d + 1) 0 0 yX6_copy cX6_copy 7 (some .int) RX6 0 0 0 [some (.ref 200), some (.int xa), some (.int xb), some (.int xc), some (.int xd), some (.int xe), none] [] z v _
  refine AW_iload_n dX6_copy_0 rfl rfl ?_
  refine AW_sI (as := [(.int xa)]) (st := []) dX6_copy_1 mv_X6_isRow ms_X6_isRow ml_X6_96 (Nat.le_of_ble_eq_true rfl) rfl (Nat.le_refl 0) (Nat.le_refl 0) H (fun r2 v1 H => ?_)
  refine AW_if_eq (tgt := 14) dX6_copy_4 (by decide) (fun c => ?_) (fun c => ?_)
  · replace H := H.1 c
    refine AW_iconst (x := (-1)) dX6_copy_14 (by decide) ?_
    exact AW_rI dX6_copy_15 rfl rfl H
  · replace H := H.2 c
    refine AW_iload_n dX6_copy_7 rfl rfl ?_
    refine AW_sI (as := [(.int xc)]) (st := []) dX6_copy_8 mv_X6_isRow ms_X6_isRow ml_X6_96 (Nat.le_of_ble_eq_true rfl) rfl (Nat.le_refl 0) (Nat.le_refl 0) H (fun r4 v3 H => ?_)
    refine AW_if_ne (tgt := 16) dX6_copy_11 (by decide) (fun c => ?_) (fun c => ?_)
    · replace H := H.1 c
      refine AW_iload dX6_copy_16 rfl ?_
      refine AW_if_ge (tgt := 27) dX6_copy_18 (by decide) (fun c => ?_) (fun c => ?_)
      · replace H := H.1 c
        refine AW_aload_n dX6_copy_27 rfl rfl ?_
        refine AW_getR dX6_copy_28 (bI_200 B) fl_X6_13 (bR_200_3 B) ?_
        refine AW_iload_n dX6_copy_31 rfl rfl ?_
        have hi5 := H.1
        replace H := H.2
        refine AW_iald dX6_copy_32 (bI_203 B) hi5 ?_
        refine AW_if_lt (tgt := 45) dX6_copy_33 (by decide) (fun c => ?_) (fun c => ?_)
        · replace H := H.1 c
          refine AW_aload_n dX6_copy_45 rfl rfl ?_
          refine AW_iconst (x := 1) dX6_copy_46 (by decide) ?_
          refine AW_vI (as := [(.int 1)]) (st := []) dX6_copy_47 (bI_200 B) (by decide) rfl mv_X6_meet mi_X6_meet ml_X6_100 (Nat.le_of_ble_eq_true rfl) rfl (Nat.le_refl 0) (Nat.le_refl 0) H (fun r7 v6 H => ?_)
          exact AW_rI dX6_copy_50 rfl rfl H
        · replace H := H.2 c
          refine AW_aload_n dX6_copy_36 rfl rfl ?_
          refine AW_getR dX6_copy_37 (bI_200 B) fl_X6_13 (bR_200_3 B) ?_
          refine AW_iload_n dX6_copy_40 rfl rfl ?_
          have hi8 := H.1
          replace H := H.2
          refine AW_iald dX6_copy_41 (bI_203 B) hi8 ?_
          refine AW_if_ge (tgt := 51) dX6_copy_42 (by decide) (fun c => ?_) (fun c => ?_)
          · replace H := H.1 c
            refine AW_iload_n dX6_copy_51 rfl rfl ?_
            refine AW_if_lt (tgt := 95) dX6_copy_52 (by decide) (fun c => ?_) (fun c => ?_)
            · replace H := H.1 c
              refine AW_aload_n dX6_copy_95 rfl rfl ?_
              refine AW_iconst (x := 2) dX6_copy_96 (by decide) ?_
              refine AW_vI (as := [(.int 2)]) (st := []) dX6_copy_97 (bI_200 B) (by decide) rfl mv_X6_meet mi_X6_meet ml_X6_100 (Nat.le_of_ble_eq_true rfl) rfl (Nat.le_refl 0) (Nat.le_refl 0) H (fun r10 v9 H => ?_)
              exact AW_rI dX6_copy_100 rfl rfl H
            · replace H := H.2 c
              refine AW_iload dX6_copy_55 rfl ?_
              refine AW_if_lt (tgt := 95) dX6_copy_57 (by decide) (fun c => ?_) (fun c => ?_)
              · replace H := H.1 c
                refine AW_aload_n dX6_copy_95 rfl rfl ?_
                refine AW_iconst (x := 2) dX6_copy_96 (by decide) ?_
                refine AW_vI (as := [(.int 2)]) (st := []) dX6_copy_97 (bI_200 B) (by decide) rfl mv_X6_meet mi_X6_meet ml_X6_100 (Nat.le_of_ble_eq_true rfl) rfl (Nat.le_refl 0) (Nat.le_refl 0) H (fun r12 v11 H => ?_)
                exact AW_rI dX6_copy_100 rfl rfl H
              · replace H := H.2 c
                refine AW_iload_n dX6_copy_60 rfl rfl ?_
                refine AW_i2l dX6_copy_61 ?_
                refine AW_iload dX6_copy_62 rfl ?_
                refine AW_i2l dX6_copy_64 ?_
                refine AW_ladd dX6_copy_65 ?_
                refine AW_aload_n dX6_copy_66 rfl rfl ?_
                refine AW_getR dX6_copy_67 (bI_200 B) fl_X6_13 (bR_200_3 B) ?_
                refine AW_iload_n dX6_copy_70 rfl rfl ?_
                have hi13 := H.1
                replace H := H.2
                refine AW_iald dX6_copy_71 (bI_203 B) hi13 ?_
                refine AW_i2l dX6_copy_72 ?_
                refine AW_lcmp dX6_copy_73 ?_
                refine AW_if_gt (tgt := 95) dX6_copy_74 (by decide) (fun c => ?_) (fun c => ?_)
                · replace H := H.1 c
                  refine AW_aload_n dX6_copy_95 rfl rfl ?_
                  refine AW_iconst (x := 2) dX6_copy_96 (by decide) ?_
                  refine AW_vI (as := [(.int 2)]) (st := []) dX6_copy_97 (bI_200 B) (by decide) rfl mv_X6_meet mi_X6_meet ml_X6_100 (Nat.le_of_ble_eq_true rfl) rfl (Nat.le_refl 0) (Nat.le_refl 0) H (fun r15 v14 H => ?_)
                  exact AW_rI dX6_copy_100 rfl rfl H
                · replace H := H.2 c
                  refine AW_iload dX6_copy_77 rfl ?_
                  refine AW_i2l dX6_copy_79 ?_
                  refine AW_iload dX6_copy_80 rfl ?_
                  refine AW_i2l dX6_copy_82 ?_
                  refine AW_ladd dX6_copy_83 ?_
                  refine AW_aload_n dX6_copy_84 rfl rfl ?_
                  refine AW_getR dX6_copy_85 (bI_200 B) fl_X6_13 (bR_200_3 B) ?_
                  refine AW_iload_n dX6_copy_88 rfl rfl ?_
                  have hi16 := H.1
                  replace H := H.2
                  refine AW_iald dX6_copy_89 (bI_203 B) hi16 ?_
                  refine AW_i2l dX6_copy_90 ?_
                  refine AW_lcmp dX6_copy_91 ?_
                  refine AW_if_le (tgt := 101) dX6_copy_92 (by decide) (fun c => ?_) (fun c => ?_)
                  · replace H := H.1 c
                    refine AW_iconst (x := 0) dX6_copy_101 (by decide) ?_
                    refine AW_istore (L' := [some (.ref 200), some (.int xa), some (.int xb), some (.int xc), some (.int xd), some (.int xe), some (.int 0)]) dX6_copy_102 (by decide) rfl ?_
                    exact H
                  · replace H := H.2 c
                    refine AW_aload_n dX6_copy_95 rfl rfl ?_
                    refine AW_iconst (x := 2) dX6_copy_96 (by decide) ?_
                    refine AW_vI (as := [(.int 2)]) (st := []) dX6_copy_97 (bI_200 B) (by decide) rfl mv_X6_meet mi_X6_meet ml_X6_100 (Nat.le_of_ble_eq_true rfl) rfl (Nat.le_refl 0) (Nat.le_refl 0) H (fun r18 v17 H => ?_)
                    exact AW_rI dX6_copy_100 rfl rfl H
          · replace H := H.2 c
            refine AW_aload_n dX6_copy_45 rfl rfl ?_
            refine AW_iconst (x := 1) dX6_copy_46 (by decide) ?_
            refine AW_vI (as := [(.int 1)]) (st := []) dX6_copy_47 (bI_200 B) (by decide) rfl mv_X6_meet mi_X6_meet ml_X6_100 (Nat.le_of_ble_eq_true rfl) rfl (Nat.le_refl 0) (Nat.le_refl 0) H (fun r20 v19 H => ?_)
            exact AW_rI dX6_copy_50 rfl rfl H
      · replace H := H.2 c
        refine AW_aload_n dX6_copy_21 rfl rfl ?_
        refine AW_iconst (x := 5) dX6_copy_22 (by decide) ?_
        refine AW_vI (as := [(.int 5)]) (st := []) dX6_copy_23 (bI_200 B) (by decide) rfl mv_X6_meet mi_X6_meet ml_X6_100 (Nat.le_of_ble_eq_true rfl) rfl (Nat.le_refl 0) (Nat.le_refl 0) H (fun r22 v21 H => ?_)
        exact AW_rI dX6_copy_26 rfl rfl H
    · replace H := H.2 c
      refine AW_iconst (x := (-1)) dX6_copy_14 (by decide) ?_
      exact AW_rI dX6_copy_15 rfl rfl H
set_option maxRecDepth 100000 in
set_option maxHeartbeats 4000000 in
theorem vc_X6_copy_104 {G : xG} {d : Nat} {z : xZ} {v : xS} {Q : Int32 → xS → Prop} (B : Base z)  {l1 : Int32} {l2 : Int32} {l3 : Int32} {l4 : Int32} {l5 : Int32} {l6 : Int32} 
    (H : ((l5 ≤ l6 → aX6_copy G (d + 1) 136 [some (.ref 200), some (.int l1), some (.int l2), some (.int l3), some (.int l4), some (.int l5), some (.int 0)] [] z v Q) ∧ (¬ l5 ≤ l6 → (oX6_rowAt G d [(.ref 200), (.int l1), (.int (l2 + l6))] z v (fun r2 v1 => (vp_in l6 40 ∧ (∀ v4 : xS, v4 = wV v1 205 l6.toNatClampNeg r2 → aX6_copy G (d + 1) 104 [some (.ref 200), some (.int l1), some (.int l2), some (.int l3), some (.int l4), some (.int l5), some (.int (l6 + 1))] [] z v4 Q))))))) :
    aX6_copy G (d + 1) 104 [some (.ref 200), some (.int l1), some (.int l2), some (.int l3), some (.int l4), some (.int l5), some (.int l6)] [] z v Q := by
  refine AW_iload dX6_copy_104 rfl ?_
  refine AW_iload dX6_copy_106 rfl ?_
  refine AW_icmp_ge (tgt := 133) dX6_copy_108 (by decide) (fun c => ?_) (fun c => ?_)
  · replace H := H.1 c
    refine AW_iconst (x := 0) dX6_copy_133 (by decide) ?_
    refine AW_istore (L' := [some (.ref 200), some (.int l1), some (.int l2), some (.int l3), some (.int l4), some (.int l5), some (.int 0)]) dX6_copy_134 (by decide) rfl ?_
    exact H
  · replace H := H.2 c
    refine AW_aload_n dX6_copy_111 rfl rfl ?_
    refine AW_getR dX6_copy_112 (bI_200 B) fl_X6_19 (bR_200_5 B) ?_
    refine AW_iload dX6_copy_115 rfl ?_
    refine AW_aload_n dX6_copy_117 rfl rfl ?_
    refine AW_iload_n dX6_copy_118 rfl rfl ?_
    refine AW_iload_n dX6_copy_119 rfl rfl ?_
    refine AW_iload dX6_copy_120 rfl ?_
    refine AW_iadd dX6_copy_122 ?_
    refine AW_vI (as := [(.int l1), (.int (l2 + l6))]) (st := [(.int l6), (.ref 205)]) dX6_copy_123 (bI_200 B) (by decide) rfl mv_X6_rowAt mi_X6_rowAt ml_X6_114 (Nat.le_of_ble_eq_true rfl) rfl (Nat.le_refl 0) (Nat.le_refl 0) H (fun r2 v1 H => ?_)
    have hi3 := H.1
    replace H := H.2
    refine AW_iastN dX6_copy_126 (bI_205 B) hi3 (fun v4 hv4 => ?_)
    replace H := H v4 hv4
    refine AW_iinc (x' := l6 + 1) (L' := [some (.ref 200), some (.int l1), some (.int l2), some (.int l3), some (.int l4), some (.int l5), some (.int (l6 + 1))]) dX6_copy_127 rfl rfl (by decide) rfl ?_
    refine AW_goto (tgt := 104) dX6_copy_130 (by decide) ?_
    exact H
set_option maxRecDepth 100000 in
set_option maxHeartbeats 4000000 in
theorem vc_X6_copy_136 {G : xG} {d : Nat} {z : xZ} {v : xS} {Q : Int32 → xS → Prop} (B : Base z)  {l1 : Int32} {l2 : Int32} {l3 : Int32} {l4 : Int32} {l5 : Int32} {l6 : Int32} 
    (H : ((l5 ≤ l6 → Q 1 v) ∧ (¬ l5 ≤ l6 → (vp_in l6 40 ∧ (oX6_setRow G d [(.ref 200), (.int l3), (.int (l4 + l6)), (.int (v.1 205 l6.toNatClampNeg))] z v (fun v2 => aX6_copy G (d + 1) 136 [some (.ref 200), some (.int l1), some (.int l2), some (.int l3), some (.int l4), some (.int l5), some (.int (l6 + 1))] [] z v2 Q)))))) :
    aX6_copy G (d + 1) 136 [some (.ref 200), some (.int l1), some (.int l2), some (.int l3), some (.int l4), some (.int l5), some (.int l6)] [] z v Q := by
  refine AW_iload dX6_copy_136 rfl ?_
  refine AW_iload dX6_copy_138 rfl ?_
  refine AW_icmp_ge (tgt := 166) dX6_copy_140 (by decide) (fun c => ?_) (fun c => ?_)
  · replace H := H.1 c
    refine AW_iconst (x := 1) dX6_copy_166 (by decide) ?_
    exact AW_rI dX6_copy_167 rfl rfl H
  · replace H := H.2 c
    refine AW_aload_n dX6_copy_143 rfl rfl ?_
    refine AW_iload_n dX6_copy_144 rfl rfl ?_
    refine AW_iload dX6_copy_145 rfl ?_
    refine AW_iload dX6_copy_147 rfl ?_
    refine AW_iadd dX6_copy_149 ?_
    refine AW_aload_n dX6_copy_150 rfl rfl ?_
    refine AW_getR dX6_copy_151 (bI_200 B) fl_X6_19 (bR_200_5 B) ?_
    refine AW_iload dX6_copy_154 rfl ?_
    have hi1 := H.1
    replace H := H.2
    refine AW_iald dX6_copy_156 (bI_205 B) hi1 ?_
    refine AW_vV (as := [(.int l3), (.int (l4 + l6)), (.int (v.1 205 l6.toNatClampNeg))]) (st := []) dX6_copy_157 (bI_200 B) (by decide) rfl mv_X6_setRow mi_X6_setRow ml_X6_107 (Nat.le_of_ble_eq_true rfl) rfl (Nat.le_refl 0) (Nat.le_refl 0) H (fun v2 H => ?_)
    refine AW_iinc (x' := l6 + 1) (L' := [some (.ref 200), some (.int l1), some (.int l2), some (.int l3), some (.int l4), some (.int l5), some (.int (l6 + 1))]) dX6_copy_160 rfl rfl (by decide) rfl ?_
    refine AW_goto (tgt := 136) dX6_copy_163 (by decide) ?_
    exact H
set_option maxRecDepth 100000 in
set_option maxHeartbeats 4000000 in
theorem vc_X6_mean {G : xG} {d : Nat} {z : xZ} {v : xS} {Q : Int32 → xS → Prop} (B : Base z) {xa : Int32} 
    (H : (oX6_askedRow G d [(.ref 200), (.int xa)] z v (fun r2 v1 => ((0 ≤ r2 → aX6_mean G (d + 1) 17 [some (.ref 200), some (.int xa), some (.int r2), some (.long 0), none, some (.int 0)] [] z v1 Q) ∧ (¬ 0 ≤ r2 → Q r2 v1))))) :
    oX6_mean G (d + 1) [(.ref 200), (.int xa)] z v Q := by
  refine Ok_of (own := RX6) (by decide) rfl (Nat.le_of_ble_eq_true rfl) ?_
  show AW G (d + 1) 0 0 yX6_mean cX6_mean 6 (some .int) RX6 0 0 0 [some (.ref 200), some (.int xa), none, none, none, none] [] z v _
  refine AW_aload_n dX6_mean_0 rfl rfl ?_
  refine AW_iload_n dX6_mean_1 rfl rfl ?_
  refine AW_vI (as := [(.int xa)]) (st := []) dX6_mean_2 (bI_200 B) (by decide) rfl mv_X6_askedRow mi_X6_askedRow ml_X6_111 (Nat.le_of_ble_eq_true rfl) rfl (Nat.le_refl 0) (Nat.le_refl 0) H (fun r2 v1 H => ?_)
  refine AW_istore_n (L' := [some (.ref 200), some (.int xa), some (.int r2), none, none, none]) dX6_mean_5 rfl (by decide) rfl ?_
  refine AW_iload_n dX6_mean_6 rfl rfl ?_
  refine AW_if_ge (tgt := 12) dX6_mean_7 (by decide) (fun c => ?_) (fun c => ?_)
  · replace H := H.1 c
    refine AW_lconst (x := 0) dX6_mean_12 (by decide) ?_
    refine AW_lstore_n (L' := [some (.ref 200), some (.int xa), some (.int r2), some (.long 0), none, none]) dX6_mean_13 rfl (by decide) rfl ?_
    refine AW_iconst (x := 0) dX6_mean_14 (by decide) ?_
    refine AW_istore (L' := [some (.ref 200), some (.int xa), some (.int r2), some (.long 0), none, some (.int 0)]) dX6_mean_15 (by decide) rfl ?_
    exact H
  · replace H := H.2 c
    refine AW_iload_n dX6_mean_10 rfl rfl ?_
    exact AW_rI dX6_mean_11 rfl rfl H
set_option maxRecDepth 100000 in
set_option maxHeartbeats 4000000 in
theorem vc_X6_mean_17 {G : xG} {d : Nat} {z : xZ} {v : xS} {Q : Int32 → xS → Prop} (B : Base z)  {l1 : Int32} {l2 : Int32} {l3 : Int64} {l5 : Int32} 
    (H : (vp_in l1 6 ∧ (((v.1 203 l1.toNatClampNeg) ≤ l5 → (vp_in l1 6 ∧ ((¬ (v.1 203 l1.toNatClampNeg) = 0 → (vp_in l1 6 ∧ (¬ ((v.1 203 l1.toNatClampNeg).toInt64) = 0 ∧ (oX6_ask G d [(.ref 200), (.int ((l3 / ((v.1 203 l1.toNatClampNeg).toInt64)).toInt32)), (.int 1)] z v (fun r5 v4 => Q r5 v4))))) ∧ ((v.1 203 l1.toNatClampNeg) = 0 → (oX6_meet G d [(.ref 200), (.int 4)] z v (fun r7 v6 => Q r7 v6)))))) ∧ (¬ (v.1 203 l1.toNatClampNeg) ≤ l5 → (oX6_rowAt G d [(.ref 200), (.int l1), (.int l5)] z v (fun r9 v8 => aX6_mean G (d + 1) 17 [some (.ref 200), some (.int l1), some (.int l2), some (.long (l3 + r9.toInt64)), none, some (.int (l5 + 1))] [] z v8 Q)))))) :
    aX6_mean G (d + 1) 17 [some (.ref 200), some (.int l1), some (.int l2), some (.long l3), none, some (.int l5)] [] z v Q := by
  refine AW_iload dX6_mean_17 rfl ?_
  refine AW_aload_n dX6_mean_19 rfl rfl ?_
  refine AW_getR dX6_mean_20 (bI_200 B) fl_X6_13 (bR_200_3 B) ?_
  refine AW_iload_n dX6_mean_23 rfl rfl ?_
  have hi1 := H.1
  replace H := H.2
  refine AW_iald dX6_mean_24 (bI_203 B) hi1 ?_
  refine AW_icmp_ge (tgt := 45) dX6_mean_25 (by decide) (fun c => ?_) (fun c => ?_)
  · replace H := H.1 c
    refine AW_aload_n dX6_mean_45 rfl rfl ?_
    refine AW_getR dX6_mean_46 (bI_200 B) fl_X6_13 (bR_200_3 B) ?_
    refine AW_iload_n dX6_mean_49 rfl rfl ?_
    have hi2 := H.1
    replace H := H.2
    refine AW_iald dX6_mean_50 (bI_203 B) hi2 ?_
    refine AW_if_ne (tgt := 62) dX6_mean_51 (by decide) (fun c => ?_) (fun c => ?_)
    · replace H := H.1 c
      refine AW_aload_n dX6_mean_62 rfl rfl ?_
      refine AW_lload_n dX6_mean_63 rfl rfl ?_
      refine AW_aload_n dX6_mean_64 rfl rfl ?_
      refine AW_getR dX6_mean_65 (bI_200 B) fl_X6_13 (bR_200_3 B) ?_
      refine AW_iload_n dX6_mean_68 rfl rfl ?_
      have hi3 := H.1
      replace H := H.2
      refine AW_iald dX6_mean_69 (bI_203 B) hi3 ?_
      refine AW_i2l dX6_mean_70 ?_
      refine AW_ldiv dX6_mean_71 H.1 ?_
      replace H := H.2
      refine AW_l2i dX6_mean_72 ?_
      refine AW_iconst (x := 1) dX6_mean_73 (by decide) ?_
      refine AW_vI (as := [(.int ((l3 / ((v.1 203 l1.toNatClampNeg).toInt64)).toInt32)), (.int 1)]) (st := []) dX6_mean_74 (bI_200 B) (by decide) rfl mv_X6_ask mi_X6_ask ml_X6_118 (Nat.le_of_ble_eq_true rfl) rfl (Nat.le_refl 0) (Nat.le_refl 0) H (fun r5 v4 H => ?_)
      exact AW_rI dX6_mean_77 rfl rfl H
    · replace H := H.2 c
      refine AW_aload_n dX6_mean_54 rfl rfl ?_
      refine AW_iconst (x := 4) dX6_mean_55 (by decide) ?_
      refine AW_vI (as := [(.int 4)]) (st := []) dX6_mean_56 (bI_200 B) (by decide) rfl mv_X6_meet mi_X6_meet ml_X6_100 (Nat.le_of_ble_eq_true rfl) rfl (Nat.le_refl 0) (Nat.le_refl 0) H (fun r7 v6 H => ?_)
      refine AW_goto (tgt := 77) dX6_mean_59 (by decide) ?_
      exact AW_rI dX6_mean_77 rfl rfl H
  · replace H := H.2 c
    refine AW_lload_n dX6_mean_28 rfl rfl ?_
    refine AW_aload_n dX6_mean_29 rfl rfl ?_
    refine AW_iload_n dX6_mean_30 rfl rfl ?_
    refine AW_iload dX6_mean_31 rfl ?_
    refine AW_vI (as := [(.int l1), (.int l5)]) (st := [(.long l3)]) dX6_mean_33 (bI_200 B) (by decide) rfl mv_X6_rowAt mi_X6_rowAt ml_X6_114 (Nat.le_of_ble_eq_true rfl) rfl (Nat.le_refl 0) (Nat.le_refl 0) H (fun r9 v8 H => ?_)
    refine AW_i2l dX6_mean_36 ?_
    refine AW_ladd dX6_mean_37 ?_
    refine AW_lstore_n (L' := [some (.ref 200), some (.int l1), some (.int l2), some (.long (l3 + r9.toInt64)), none, some (.int l5)]) dX6_mean_38 rfl (by decide) rfl ?_
    refine AW_iinc (x' := l5 + 1) (L' := [some (.ref 200), some (.int l1), some (.int l2), some (.long (l3 + r9.toInt64)), none, some (.int (l5 + 1))]) dX6_mean_39 rfl rfl (by decide) rfl ?_
    refine AW_goto (tgt := 17) dX6_mean_42 (by decide) ?_
    exact H
set_option maxRecDepth 100000 in
set_option maxHeartbeats 4000000 in
theorem vc_X6_text {G : xG} {d : Nat} {z : xZ} {v : xS} {Q : Int32 → xS → Prop} (B : Base z) {xa : Int32} {xb : Int32} 
    (H : (oX6_isText G d [(.int xa)] z v (fun r2 v1 => ((r2 = 0 → Q (-1) v1) ∧ (¬ r2 = 0 → ((xb ≤ 80 → ((0 ≤ xb → (vp_in xa 4 ∧ (∀ v4 : xS, v4 = wV v1 206 xa.toNatClampNeg xb → aX6_text G (d + 1) 34 [some (.ref 200), some (.int xa), some (.int xb), some (.int 0)] [] z v4 Q))) ∧ (¬ 0 ≤ xb → (oX6_meet G d [(.ref 200), (.int 5)] z v1 (fun r6 v5 => Q r6 v5))))) ∧ (¬ xb ≤ 80 → Q (-1) v1))))))) :
    oX6_text G (d + 1) [(.ref 200), (.int xa), (.int xb)] z v Q := by
  refine Ok_of (own := RX6) (by decide) rfl (Nat.le_of_ble_eq_true rfl) ?_
  show AW G (d + 1) 0 0 yX6_text cX6_text 4 (some .int) RX6 0 0 0 [some (.ref 200), some (.int xa), some (.int xb), none] [] z v _
  refine AW_iload_n dX6_text_0 rfl rfl ?_
  refine AW_sI (as := [(.int xa)]) (st := []) dX6_text_1 mv_X6_isText ms_X6_isText ml_X6_104 (Nat.le_of_ble_eq_true rfl) rfl (Nat.le_refl 0) (Nat.le_refl 0) H (fun r2 v1 H => ?_)
  refine AW_if_eq (tgt := 13) dX6_text_4 (by decide) (fun c => ?_) (fun c => ?_)
  · replace H := H.1 c
    refine AW_iconst (x := (-1)) dX6_text_13 (by decide) ?_
    exact AW_rI dX6_text_14 rfl rfl H
  · replace H := H.2 c
    refine AW_iload_n dX6_text_7 rfl rfl ?_
    refine AW_bipush (x := 80) dX6_text_8 (by decide) ?_
    refine AW_icmp_le (tgt := 15) dX6_text_10 (by decide) (fun c => ?_) (fun c => ?_)
    · replace H := H.1 c
      refine AW_iload_n dX6_text_15 rfl rfl ?_
      refine AW_if_ge (tgt := 25) dX6_text_16 (by decide) (fun c => ?_) (fun c => ?_)
      · replace H := H.1 c
        refine AW_aload_n dX6_text_25 rfl rfl ?_
        refine AW_getR dX6_text_26 (bI_200 B) fl_X6_22 (bR_200_6 B) ?_
        refine AW_iload_n dX6_text_29 rfl rfl ?_
        refine AW_iload_n dX6_text_30 rfl rfl ?_
        have hi3 := H.1
        replace H := H.2
        refine AW_iastN dX6_text_31 (bI_206 B) hi3 (fun v4 hv4 => ?_)
        replace H := H v4 hv4
        refine AW_iconst (x := 0) dX6_text_32 (by decide) ?_
        refine AW_istore_n (L' := [some (.ref 200), some (.int xa), some (.int xb), some (.int 0)]) dX6_text_33 rfl (by decide) rfl ?_
        exact H
      · replace H := H.2 c
        refine AW_aload_n dX6_text_19 rfl rfl ?_
        refine AW_iconst (x := 5) dX6_text_20 (by decide) ?_
        refine AW_vI (as := [(.int 5)]) (st := []) dX6_text_21 (bI_200 B) (by decide) rfl mv_X6_meet mi_X6_meet ml_X6_100 (Nat.le_of_ble_eq_true rfl) rfl (Nat.le_refl 0) (Nat.le_refl 0) H (fun r6 v5 H => ?_)
        exact AW_rI dX6_text_24 rfl rfl H
    · replace H := H.2 c
      refine AW_iconst (x := (-1)) dX6_text_13 (by decide) ?_
      exact AW_rI dX6_text_14 rfl rfl H
set_option maxRecDepth 100000 in
set_option maxHeartbeats 4000000 in
theorem vc_X6_text_34 {G : xG} {d : Nat} {z : xZ} {v : xS} {Q : Int32 → xS → Prop} (B : Base z)  {l1 : Int32} {l2 : Int32} {l3 : Int32} 
    (H : ((80 ≤ l3 → Q l2 v) ∧ (¬ 80 ≤ l3 → (vp_in ((80 * l1) + l3) 320 ∧ (∀ v2 : xS, v2 = wV v 207 ((80 * l1) + l3).toNatClampNeg 32 → aX6_text G (d + 1) 34 [some (.ref 200), some (.int l1), some (.int l2), some (.int (l3 + 1))] [] z v2 Q))))) :
    aX6_text G (d + 1) 34 [some (.ref 200), some (.int l1), some (.int l2), some (.int l3)] [] z v Q := by
  refine AW_iload_n dX6_text_34 rfl rfl ?_
  refine AW_bipush (x := 80) dX6_text_35 (by decide) ?_
  refine AW_icmp_ge (tgt := 59) dX6_text_37 (by decide) (fun c => ?_) (fun c => ?_)
  · replace H := H.1 c
    refine AW_iload_n dX6_text_59 rfl rfl ?_
    exact AW_rI dX6_text_60 rfl rfl H
  · replace H := H.2 c
    refine AW_aload_n dX6_text_40 rfl rfl ?_
    refine AW_getR dX6_text_41 (bI_200 B) fl_X6_25 (bR_200_7 B) ?_
    refine AW_bipush (x := 80) dX6_text_44 (by decide) ?_
    refine AW_iload_n dX6_text_46 rfl rfl ?_
    refine AW_imul dX6_text_47 ?_
    refine AW_iload_n dX6_text_48 rfl rfl ?_
    refine AW_iadd dX6_text_49 ?_
    refine AW_bipush (x := 32) dX6_text_50 (by decide) ?_
    have hi1 := H.1
    replace H := H.2
    refine AW_iastN dX6_text_52 (bI_207 B) hi1 (fun v2 hv2 => ?_)
    replace H := H v2 hv2
    refine AW_iinc (x' := l3 + 1) (L' := [some (.ref 200), some (.int l1), some (.int l2), some (.int (l3 + 1))]) dX6_text_53 rfl rfl (by decide) rfl ?_
    refine AW_goto (tgt := 34) dX6_text_56 (by decide) ?_
    exact H
set_option maxRecDepth 100000 in
set_option maxHeartbeats 4000000 in
theorem vc_X6_put {G : xG} {d : Nat} {z : xZ} {v : xS} {Q : Int32 → xS → Prop} (B : Base z) {xa : Int32} {xb : Int32} {xc : Int32} 
    (H : (oX6_askedText G d [(.ref 200), (.int xa)] z v (fun r2 v1 => ((0 ≤ r2 → (vp_in xa 4 ∧ (oX6_in G d [(.int xb), (.int 0), (.int ((v1.1 206 xa.toNatClampNeg) - 1))] z v1 (fun r5 v4 => ((¬ r5 = 0 → (vp_in ((80 * xa) + xb) 320 ∧ (vp_in ((80 * xa) + xb) 320 ∧ (∀ v8 : xS, v8 = wV v4 207 ((80 * xa) + xb).toNatClampNeg xc.toInt8.toInt32 → Q ((v4.1 207 ((80 * xa) + xb).toNatClampNeg) + 1000) v8)))) ∧ (r5 = 0 → (oX6_meet G d [(.ref 200), (.int 2)] z v4 (fun r10 v9 => Q r10 v9)))))))) ∧ (¬ 0 ≤ r2 → Q r2 v1))))) :
    oX6_put G (d + 1) [(.ref 200), (.int xa), (.int xb), (.int xc)] z v Q := by
  refine Ok_of (own := RX6) (by decide) rfl (Nat.le_of_ble_eq_true rfl) ?_
  show AW G (d + 1) 0 0 yX6_put cX6_put 6 (some .int) RX6 0 0 0 [some (.ref 200), some (.int xa), some (.int xb), some (.int xc), none, none] [] z v _
  refine AW_aload_n dX6_put_0 rfl rfl ?_
  refine AW_iload_n dX6_put_1 rfl rfl ?_
  refine AW_vI (as := [(.int xa)]) (st := []) dX6_put_2 (bI_200 B) (by decide) rfl mv_X6_askedText mi_X6_askedText ml_X6_124 (Nat.le_of_ble_eq_true rfl) rfl (Nat.le_refl 0) (Nat.le_refl 0) H (fun r2 v1 H => ?_)
  refine AW_istore (L' := [some (.ref 200), some (.int xa), some (.int xb), some (.int xc), some (.int r2), none]) dX6_put_5 (by decide) rfl ?_
  refine AW_iload dX6_put_7 rfl ?_
  refine AW_if_ge (tgt := 15) dX6_put_9 (by decide) (fun c => ?_) (fun c => ?_)
  · replace H := H.1 c
    refine AW_iload_n dX6_put_15 rfl rfl ?_
    refine AW_iconst (x := 0) dX6_put_16 (by decide) ?_
    refine AW_aload_n dX6_put_17 rfl rfl ?_
    refine AW_getR dX6_put_18 (bI_200 B) fl_X6_22 (bR_200_6 B) ?_
    refine AW_iload_n dX6_put_21 rfl rfl ?_
    have hi3 := H.1
    replace H := H.2
    refine AW_iald dX6_put_22 (bI_206 B) hi3 ?_
    refine AW_iconst (x := 1) dX6_put_23 (by decide) ?_
    refine AW_isub dX6_put_24 ?_
    refine AW_sI (as := [(.int xb), (.int 0), (.int ((v1.1 206 xa.toNatClampNeg) - 1))]) (st := []) dX6_put_25 mv_X6_in ms_X6_in ml_X6_92 (Nat.le_of_ble_eq_true rfl) rfl (Nat.le_refl 0) (Nat.le_refl 0) H (fun r5 v4 H => ?_)
    refine AW_if_ne (tgt := 37) dX6_put_28 (by decide) (fun c => ?_) (fun c => ?_)
    · replace H := H.1 c
      refine AW_aload_n dX6_put_37 rfl rfl ?_
      refine AW_getR dX6_put_38 (bI_200 B) fl_X6_25 (bR_200_7 B) ?_
      refine AW_bipush (x := 80) dX6_put_41 (by decide) ?_
      refine AW_iload_n dX6_put_43 rfl rfl ?_
      refine AW_imul dX6_put_44 ?_
      refine AW_iload_n dX6_put_45 rfl rfl ?_
      refine AW_iadd dX6_put_46 ?_
      have hi6 := H.1
      replace H := H.2
      refine AW_iald dX6_put_47 (bI_207 B) hi6 ?_
      refine AW_istore (L' := [some (.ref 200), some (.int xa), some (.int xb), some (.int xc), some (.int r2), some (.int (v4.1 207 ((80 * xa) + xb).toNatClampNeg))]) dX6_put_48 (by decide) rfl ?_
      refine AW_aload_n dX6_put_50 rfl rfl ?_
      refine AW_getR dX6_put_51 (bI_200 B) fl_X6_25 (bR_200_7 B) ?_
      refine AW_bipush (x := 80) dX6_put_54 (by decide) ?_
      refine AW_iload_n dX6_put_56 rfl rfl ?_
      refine AW_imul dX6_put_57 ?_
      refine AW_iload_n dX6_put_58 rfl rfl ?_
      refine AW_iadd dX6_put_59 ?_
      refine AW_iload_n dX6_put_60 rfl rfl ?_
      refine AW_i2b dX6_put_61 ?_
      have hi7 := H.1
      replace H := H.2
      refine AW_iastN dX6_put_62 (bI_207 B) hi7 (fun v8 hv8 => ?_)
      replace H := H v8 hv8
      refine AW_iload dX6_put_63 rfl ?_
      refine AW_sipush (x := 1000) dX6_put_65 (by decide) ?_
      refine AW_iadd dX6_put_68 ?_
      exact AW_rI dX6_put_69 rfl rfl H
    · replace H := H.2 c
      refine AW_aload_n dX6_put_31 rfl rfl ?_
      refine AW_iconst (x := 2) dX6_put_32 (by decide) ?_
      refine AW_vI (as := [(.int 2)]) (st := []) dX6_put_33 (bI_200 B) (by decide) rfl mv_X6_meet mi_X6_meet ml_X6_100 (Nat.le_of_ble_eq_true rfl) rfl (Nat.le_refl 0) (Nat.le_refl 0) H (fun r10 v9 H => ?_)
      exact AW_rI dX6_put_36 rfl rfl H
  · replace H := H.2 c
    refine AW_iload dX6_put_12 rfl ?_
    exact AW_rI dX6_put_14 rfl rfl H
set_option maxRecDepth 100000 in
set_option maxHeartbeats 4000000 in
theorem vc_X6_here {G : xG} {d : Nat} {z : xZ} {v : xS} {Q : Int32 → xS → Prop} (B : Base z) {xa : Int32} 
    (H : (vp_in xa 4 ∧ (((v.1 206 xa.toNatClampNeg) ≤ (v.1 200 16) → Q (-9) v) ∧ (¬ (v.1 206 xa.toNatClampNeg) ≤ (v.1 200 16) → (vp_in ((80 * xa) + (v.1 200 16)) 320 ∧ Q (v.1 207 ((80 * xa) + (v.1 200 16)).toNatClampNeg) v))))) :
    oX6_here G (d + 1) [(.ref 200), (.int xa)] z v Q := by
  refine Ok_of (own := RX6) (by decide) rfl (Nat.le_of_ble_eq_true rfl) ?_
  show AW G (d + 1) 0 0 yX6_here cX6_here 2 (some .int) RX6 0 0 0 [some (.ref 200), some (.int xa)] [] z v _
  refine AW_aload_n dX6_here_0 rfl rfl ?_
  refine AW_getI dX6_here_1 (bI_200 B) fl_X6_127 ?_
  refine AW_aload_n dX6_here_4 rfl rfl ?_
  refine AW_getR dX6_here_5 (bI_200 B) fl_X6_22 (bR_200_6 B) ?_
  refine AW_iload_n dX6_here_8 rfl rfl ?_
  have hi1 := H.1
  replace H := H.2
  refine AW_iald dX6_here_9 (bI_206 B) hi1 ?_
  refine AW_icmp_ge (tgt := 30) dX6_here_10 (by decide) (fun c => ?_) (fun c => ?_)
  · replace H := H.1 c
    refine AW_bipush (x := (-9)) dX6_here_30 (by decide) ?_
    exact AW_rI dX6_here_32 rfl rfl H
  · replace H := H.2 c
    refine AW_aload_n dX6_here_13 rfl rfl ?_
    refine AW_getR dX6_here_14 (bI_200 B) fl_X6_25 (bR_200_7 B) ?_
    refine AW_bipush (x := 80) dX6_here_17 (by decide) ?_
    refine AW_iload_n dX6_here_19 rfl rfl ?_
    refine AW_imul dX6_here_20 ?_
    refine AW_aload_n dX6_here_21 rfl rfl ?_
    refine AW_getI dX6_here_22 (bI_200 B) fl_X6_127 ?_
    refine AW_iadd dX6_here_25 ?_
    have hi2 := H.1
    replace H := H.2
    refine AW_iald dX6_here_26 (bI_207 B) hi2 ?_
    refine AW_goto (tgt := 32) dX6_here_27 (by decide) ?_
    exact AW_rI dX6_here_32 rfl rfl H
set_option maxRecDepth 100000 in
set_option maxHeartbeats 4000000 in
theorem vc_X6_kindOf {G : xG} {d : Nat} {z : xZ} {v : xS} {Q : Int32 → xS → Prop} (B : Base z) {xa : Int32} 
    (H : ((¬ xa = 98 → ((¬ xa = 100 → ((¬ xa = 112 → ((¬ xa = 99 → ((¬ xa = 116 → ((¬ xa = 101 → Q (-9) v) ∧ (xa = 101 → Q 5 v))) ∧ (xa = 116 → Q 4 v))) ∧ (xa = 99 → Q 3 v))) ∧ (xa = 112 → Q 2 v))) ∧ (xa = 100 → Q 1 v))) ∧ (xa = 98 → Q 0 v))) :
    oX6_kindOf G (d + 1) [(.int xa)] z v Q := by
  refine Ok_of (own := RX6) (by decide) rfl (Nat.le_of_ble_eq_true rfl) ?_
  show AW G (d + 1) 0 0 yX6_kindOf cX6_kindOf 1 (some .int) RX6 0 0 0 [some (.int xa)] [] z v _
  refine AW_iload_n dX6_kindOf_0 rfl rfl ?_
  refine AW_bipush (x := 98) dX6_kindOf_1 (by decide) ?_
  refine AW_icmp_ne (tgt := 10) dX6_kindOf_3 (by decide) (fun c => ?_) (fun c => ?_)
  · replace H := H.1 c
    refine AW_iload_n dX6_kindOf_10 rfl rfl ?_
    refine AW_bipush (x := 100) dX6_kindOf_11 (by decide) ?_
    refine AW_icmp_ne (tgt := 20) dX6_kindOf_13 (by decide) (fun c => ?_) (fun c => ?_)
    · replace H := H.1 c
      refine AW_iload_n dX6_kindOf_20 rfl rfl ?_
      refine AW_bipush (x := 112) dX6_kindOf_21 (by decide) ?_
      refine AW_icmp_ne (tgt := 30) dX6_kindOf_23 (by decide) (fun c => ?_) (fun c => ?_)
      · replace H := H.1 c
        refine AW_iload_n dX6_kindOf_30 rfl rfl ?_
        refine AW_bipush (x := 99) dX6_kindOf_31 (by decide) ?_
        refine AW_icmp_ne (tgt := 40) dX6_kindOf_33 (by decide) (fun c => ?_) (fun c => ?_)
        · replace H := H.1 c
          refine AW_iload_n dX6_kindOf_40 rfl rfl ?_
          refine AW_bipush (x := 116) dX6_kindOf_41 (by decide) ?_
          refine AW_icmp_ne (tgt := 50) dX6_kindOf_43 (by decide) (fun c => ?_) (fun c => ?_)
          · replace H := H.1 c
            refine AW_iload_n dX6_kindOf_50 rfl rfl ?_
            refine AW_bipush (x := 101) dX6_kindOf_51 (by decide) ?_
            refine AW_icmp_ne (tgt := 60) dX6_kindOf_53 (by decide) (fun c => ?_) (fun c => ?_)
            · replace H := H.1 c
              refine AW_bipush (x := (-9)) dX6_kindOf_60 (by decide) ?_
              exact AW_rI dX6_kindOf_62 rfl rfl H
            · replace H := H.2 c
              refine AW_iconst (x := 5) dX6_kindOf_56 (by decide) ?_
              refine AW_goto (tgt := 62) dX6_kindOf_57 (by decide) ?_
              exact AW_rI dX6_kindOf_62 rfl rfl H
          · replace H := H.2 c
            refine AW_iconst (x := 4) dX6_kindOf_46 (by decide) ?_
            refine AW_goto (tgt := 62) dX6_kindOf_47 (by decide) ?_
            exact AW_rI dX6_kindOf_62 rfl rfl H
        · replace H := H.2 c
          refine AW_iconst (x := 3) dX6_kindOf_36 (by decide) ?_
          refine AW_goto (tgt := 62) dX6_kindOf_37 (by decide) ?_
          exact AW_rI dX6_kindOf_62 rfl rfl H
      · replace H := H.2 c
        refine AW_iconst (x := 2) dX6_kindOf_26 (by decide) ?_
        refine AW_goto (tgt := 62) dX6_kindOf_27 (by decide) ?_
        exact AW_rI dX6_kindOf_62 rfl rfl H
    · replace H := H.2 c
      refine AW_iconst (x := 1) dX6_kindOf_16 (by decide) ?_
      refine AW_goto (tgt := 62) dX6_kindOf_17 (by decide) ?_
      exact AW_rI dX6_kindOf_62 rfl rfl H
  · replace H := H.2 c
    refine AW_iconst (x := 0) dX6_kindOf_6 (by decide) ?_
    refine AW_goto (tgt := 62) dX6_kindOf_7 (by decide) ?_
    exact AW_rI dX6_kindOf_62 rfl rfl H
set_option maxRecDepth 100000 in
set_option maxHeartbeats 4000000 in
theorem vc_X6_readsGround {G : xG} {d : Nat} {z : xZ} {v : xS} {Q : Int32 → xS → Prop} (B : Base z) {xa : Int32} 
    (H : (oX6_here G d [(.ref 200), (.int xa)] z v (fun r2 v1 => ((r2 = 103 → (∀ v3 : xS, v3 = wV v1 200 16 ((v1.1 200 16) + 1) → aX6_readsGround G (d + 1) 24 [some (.ref 200), some (.int xa), some (.int 0)] [] z v3 Q)) ∧ (¬ r2 = 103 → Q 0 v1))))) :
    oX6_readsGround G (d + 1) [(.ref 200), (.int xa)] z v Q := by
  refine Ok_of (own := RX6) (by decide) rfl (Nat.le_of_ble_eq_true rfl) ?_
  show AW G (d + 1) 0 0 yX6_readsGround cX6_readsGround 3 (some .boolean) RX6 0 0 0 [some (.ref 200), some (.int xa), none] [] z v _
  refine AW_aload_n dX6_readsGround_0 rfl rfl ?_
  refine AW_iload_n dX6_readsGround_1 rfl rfl ?_
  refine AW_vI (as := [(.int xa)]) (st := []) dX6_readsGround_2 (bI_200 B) (by decide) rfl mv_X6_here mi_X6_here ml_X6_130 (Nat.le_of_ble_eq_true rfl) rfl (Nat.le_refl 0) (Nat.le_refl 0) H (fun r2 v1 H => ?_)
  refine AW_bipush (x := 103) dX6_readsGround_5 (by decide) ?_
  refine AW_icmp_eq (tgt := 12) dX6_readsGround_7 (by decide) (fun c => ?_) (fun c => ?_)
  · replace H := H.1 c
    refine AW_aload_n dX6_readsGround_12 rfl rfl ?_
    refine AW_dup dX6_readsGround_13 rfl ?_
    refine AW_getI dX6_readsGround_14 (bI_200 B) fl_X6_127 ?_
    refine AW_iconst (x := 1) dX6_readsGround_17 (by decide) ?_
    refine AW_iadd dX6_readsGround_18 ?_
    refine AW_putIN dX6_readsGround_19 (bI_200 B) fl_X6_127 rfl rfl rfl (fun v3 hv3 => ?_)
    replace H := H v3 hv3
    refine AW_iconst (x := 0) dX6_readsGround_22 (by decide) ?_
    refine AW_istore_n (L' := [some (.ref 200), some (.int xa), some (.int 0)]) dX6_readsGround_23 rfl (by decide) rfl ?_
    exact H
  · replace H := H.2 c
    refine AW_iconst (x := 0) dX6_readsGround_10 (by decide) ?_
    exact AW_rI dX6_readsGround_11 rfl (by decide) H
set_option maxRecDepth 100000 in
set_option maxHeartbeats 4000000 in
theorem vc_X6_readsGround_24 {G : xG} {d : Nat} {z : xZ} {v : xS} {Q : Int32 → xS → Prop} (B : Base z)  {l1 : Int32} {l2 : Int32} 
    (H : ((10 ≤ l2 → ((l2 < 2 → Q 0 v) ∧ (¬ l2 < 2 → (oX6_here G d [(.ref 200), (.int l1)] z v (fun r2 v1 => (oX6_in G d [(.int r2), (.int 48), (.int 57)] z v1 (fun r4 v3 => ((r4 = 0 → (∀ v5 : xS, v5 = wV v3 200 17 l2 → Q 1 v5)) ∧ (¬ r4 = 0 → Q 0 v3))))))))) ∧ (¬ 10 ≤ l2 → (oX6_here G d [(.ref 200), (.int l1)] z v (fun r7 v6 => (oX6_in G d [(.int r7), (.int 48), (.int 57)] z v6 (fun r9 v8 => ((r9 = 0 → ((l2 < 2 → Q 0 v8) ∧ (¬ l2 < 2 → (oX6_here G d [(.ref 200), (.int l1)] z v8 (fun r11 v10 => (oX6_in G d [(.int r11), (.int 48), (.int 57)] z v10 (fun r13 v12 => ((r13 = 0 → (∀ v14 : xS, v14 = wV v12 200 17 l2 → Q 1 v14)) ∧ (¬ r13 = 0 → Q 0 v12))))))))) ∧ (¬ r9 = 0 → (oX6_here G d [(.ref 200), (.int l1)] z v8 (fun r16 v15 => (vp_in l2 10 ∧ (∀ v18 : xS, v18 = wV v15 219 l2.toNatClampNeg (r16 - 48) → (∀ v19 : xS, v19 = wV v18 200 16 ((v18.1 200 16) + 1) → aX6_readsGround G (d + 1) 24 [some (.ref 200), some (.int l1), some (.int (l2 + 1))] [] z v19 Q)))))))))))))) :
    aX6_readsGround G (d + 1) 24 [some (.ref 200), some (.int l1), some (.int l2)] [] z v Q := by
  refine AW_iload_n dX6_readsGround_24 rfl rfl ?_
  refine AW_bipush (x := 10) dX6_readsGround_25 (by decide) ?_
  refine AW_icmp_ge (tgt := 75) dX6_readsGround_27 (by decide) (fun c => ?_) (fun c => ?_)
  · replace H := H.1 c
    refine AW_iload_n dX6_readsGround_75 rfl rfl ?_
    refine AW_iconst (x := 2) dX6_readsGround_76 (by decide) ?_
    refine AW_icmp_lt (tgt := 95) dX6_readsGround_77 (by decide) (fun c => ?_) (fun c => ?_)
    · replace H := H.1 c
      refine AW_iconst (x := 0) dX6_readsGround_95 (by decide) ?_
      exact AW_rI dX6_readsGround_96 rfl (by decide) H
    · replace H := H.2 c
      refine AW_aload_n dX6_readsGround_80 rfl rfl ?_
      refine AW_iload_n dX6_readsGround_81 rfl rfl ?_
      refine AW_vI (as := [(.int l1)]) (st := []) dX6_readsGround_82 (bI_200 B) (by decide) rfl mv_X6_here mi_X6_here ml_X6_130 (Nat.le_of_ble_eq_true rfl) rfl (Nat.le_refl 0) (Nat.le_refl 0) H (fun r2 v1 H => ?_)
      refine AW_bipush (x := 48) dX6_readsGround_85 (by decide) ?_
      refine AW_bipush (x := 57) dX6_readsGround_87 (by decide) ?_
      refine AW_sI (as := [(.int r2), (.int 48), (.int 57)]) (st := []) dX6_readsGround_89 mv_X6_in ms_X6_in ml_X6_92 (Nat.le_of_ble_eq_true rfl) rfl (Nat.le_refl 0) (Nat.le_refl 0) H (fun r4 v3 H => ?_)
      refine AW_if_eq (tgt := 97) dX6_readsGround_92 (by decide) (fun c => ?_) (fun c => ?_)
      · replace H := H.1 c
        refine AW_aload_n dX6_readsGround_97 rfl rfl ?_
        refine AW_iload_n dX6_readsGround_98 rfl rfl ?_
        refine AW_putIN dX6_readsGround_99 (bI_200 B) fl_X6_133 rfl rfl rfl (fun v5 hv5 => ?_)
        replace H := H v5 hv5
        refine AW_iconst (x := 1) dX6_readsGround_102 (by decide) ?_
        exact AW_rI dX6_readsGround_103 rfl (by decide) H
      · replace H := H.2 c
        refine AW_iconst (x := 0) dX6_readsGround_95 (by decide) ?_
        exact AW_rI dX6_readsGround_96 rfl (by decide) H
  · replace H := H.2 c
    refine AW_aload_n dX6_readsGround_30 rfl rfl ?_
    refine AW_iload_n dX6_readsGround_31 rfl rfl ?_
    refine AW_vI (as := [(.int l1)]) (st := []) dX6_readsGround_32 (bI_200 B) (by decide) rfl mv_X6_here mi_X6_here ml_X6_130 (Nat.le_of_ble_eq_true rfl) rfl (Nat.le_refl 0) (Nat.le_refl 0) H (fun r7 v6 H => ?_)
    refine AW_bipush (x := 48) dX6_readsGround_35 (by decide) ?_
    refine AW_bipush (x := 57) dX6_readsGround_37 (by decide) ?_
    refine AW_sI (as := [(.int r7), (.int 48), (.int 57)]) (st := []) dX6_readsGround_39 mv_X6_in ms_X6_in ml_X6_92 (Nat.le_of_ble_eq_true rfl) rfl (Nat.le_refl 0) (Nat.le_refl 0) H (fun r9 v8 H => ?_)
    refine AW_if_eq (tgt := 75) dX6_readsGround_42 (by decide) (fun c => ?_) (fun c => ?_)
    · replace H := H.1 c
      refine AW_iload_n dX6_readsGround_75 rfl rfl ?_
      refine AW_iconst (x := 2) dX6_readsGround_76 (by decide) ?_
      refine AW_icmp_lt (tgt := 95) dX6_readsGround_77 (by decide) (fun c => ?_) (fun c => ?_)
      · replace H := H.1 c
        refine AW_iconst (x := 0) dX6_readsGround_95 (by decide) ?_
        exact AW_rI dX6_readsGround_96 rfl (by decide) H
      · replace H := H.2 c
        refine AW_aload_n dX6_readsGround_80 rfl rfl ?_
        refine AW_iload_n dX6_readsGround_81 rfl rfl ?_
        refine AW_vI (as := [(.int l1)]) (st := []) dX6_readsGround_82 (bI_200 B) (by decide) rfl mv_X6_here mi_X6_here ml_X6_130 (Nat.le_of_ble_eq_true rfl) rfl (Nat.le_refl 0) (Nat.le_refl 0) H (fun r11 v10 H => ?_)
        refine AW_bipush (x := 48) dX6_readsGround_85 (by decide) ?_
        refine AW_bipush (x := 57) dX6_readsGround_87 (by decide) ?_
        refine AW_sI (as := [(.int r11), (.int 48), (.int 57)]) (st := []) dX6_readsGround_89 mv_X6_in ms_X6_in ml_X6_92 (Nat.le_of_ble_eq_true rfl) rfl (Nat.le_refl 0) (Nat.le_refl 0) H (fun r13 v12 H => ?_)
        refine AW_if_eq (tgt := 97) dX6_readsGround_92 (by decide) (fun c => ?_) (fun c => ?_)
        · replace H := H.1 c
          refine AW_aload_n dX6_readsGround_97 rfl rfl ?_
          refine AW_iload_n dX6_readsGround_98 rfl rfl ?_
          refine AW_putIN dX6_readsGround_99 (bI_200 B) fl_X6_133 rfl rfl rfl (fun v14 hv14 => ?_)
          replace H := H v14 hv14
          refine AW_iconst (x := 1) dX6_readsGround_102 (by decide) ?_
          exact AW_rI dX6_readsGround_103 rfl (by decide) H
        · replace H := H.2 c
          refine AW_iconst (x := 0) dX6_readsGround_95 (by decide) ?_
          exact AW_rI dX6_readsGround_96 rfl (by decide) H
    · replace H := H.2 c
      refine AW_aload_n dX6_readsGround_45 rfl rfl ?_
      refine AW_getR dX6_readsGround_46 (bI_200 B) fl_X6_43 (bR_200_19 B) ?_
      refine AW_iload_n dX6_readsGround_49 rfl rfl ?_
      refine AW_aload_n dX6_readsGround_50 rfl rfl ?_
      refine AW_iload_n dX6_readsGround_51 rfl rfl ?_
      refine AW_vI (as := [(.int l1)]) (st := [(.int l2), (.ref 219)]) dX6_readsGround_52 (bI_200 B) (by decide) rfl mv_X6_here mi_X6_here ml_X6_130 (Nat.le_of_ble_eq_true rfl) rfl (Nat.le_refl 0) (Nat.le_refl 0) H (fun r16 v15 H => ?_)
      refine AW_bipush (x := 48) dX6_readsGround_55 (by decide) ?_
      refine AW_isub dX6_readsGround_57 ?_
      have hi17 := H.1
      replace H := H.2
      refine AW_iastN dX6_readsGround_58 (bI_219 B) hi17 (fun v18 hv18 => ?_)
      replace H := H v18 hv18
      refine AW_iinc (x' := l2 + 1) (L' := [some (.ref 200), some (.int l1), some (.int (l2 + 1))]) dX6_readsGround_59 rfl rfl (by decide) rfl ?_
      refine AW_aload_n dX6_readsGround_62 rfl rfl ?_
      refine AW_dup dX6_readsGround_63 rfl ?_
      refine AW_getI dX6_readsGround_64 (bI_200 B) fl_X6_127 ?_
      refine AW_iconst (x := 1) dX6_readsGround_67 (by decide) ?_
      refine AW_iadd dX6_readsGround_68 ?_
      refine AW_putIN dX6_readsGround_69 (bI_200 B) fl_X6_127 rfl rfl rfl (fun v19 hv19 => ?_)
      replace H := H v19 hv19
      refine AW_goto (tgt := 24) dX6_readsGround_72 (by decide) ?_
      exact H
set_option maxRecDepth 100000 in
set_option maxHeartbeats 4000000 in
theorem vc_X6_readsBand {G : xG} {d : Nat} {z : xZ} {v : xS} {Q : Int32 → xS → Prop} (B : Base z) {xa : Int32} 
    (H : (oX6_here G d [(.ref 200), (.int xa)] z v (fun r2 v1 => (oX6_kindOf G d [(.int r2)] z v1 (fun r4 v3 => ((r4 = (-9) → Q 0 v3) ∧ (¬ r4 = (-9) → ((¬ (v3.1 200 18) = 3 → (∀ v5 : xS, v5 = wV v3 200 16 ((v3.1 200 16) + 1) → (oX6_here G d [(.ref 200), (.int xa)] z v5 (fun r7 v6 => (oX6_in G d [(.int r7), (.int 48), (.int (47 + (v6.1 200 17)))] z v6 (fun r9 v8 => ((¬ r9 = 0 → (oX6_here G d [(.ref 200), (.int xa)] z v8 (fun r11 v10 => (vp_in (v8.1 200 18) 3 ∧ (∀ v13 : xS, v13 = wV v10 221 (v8.1 200 18).toNatClampNeg (r11 - 48) → (∀ v14 : xS, v14 = wV v13 200 16 ((v13.1 200 16) + 1) → (oX6_here G d [(.ref 200), (.int xa)] z v14 (fun r16 v15 => (oX6_in G d [(.int r16), (.int 49), (.int 57)] z v15 (fun r18 v17 => ((¬ r18 = 0 → (oX6_here G d [(.ref 200), (.int xa)] z v17 (fun r20 v19 => (vp_in (v17.1 200 18) 3 ∧ (∀ v22 : xS, v22 = wV v19 222 (v17.1 200 18).toNatClampNeg (r20 - 48) → (∀ v23 : xS, v23 = wV v22 200 16 ((v22.1 200 16) + 1) → (vp_in (v23.1 200 18) 3 ∧ (∀ v25 : xS, v25 = wV v23 220 (v23.1 200 18).toNatClampNeg r4 → (∀ v26 : xS, v26 = wV v25 200 18 ((v25.1 200 18) + 1) → Q 1 v26))))))))) ∧ (r18 = 0 → Q 0 v17)))))))))))) ∧ (r9 = 0 → Q 0 v8)))))))) ∧ ((v3.1 200 18) = 3 → Q 0 v3))))))))) :
    oX6_readsBand G (d + 1) [(.ref 200), (.int xa)] z v Q := by
  refine Ok_of (own := RX6) (by decide) rfl (Nat.le_of_ble_eq_true rfl) ?_
  show AW G (d + 1) 0 0 yX6_readsBand cX6_readsBand 3 (some .boolean) RX6 0 0 0 [some (.ref 200), some (.int xa), none] [] z v _
  refine AW_aload_n dX6_readsBand_0 rfl rfl ?_
  refine AW_iload_n dX6_readsBand_1 rfl rfl ?_
  refine AW_vI (as := [(.int xa)]) (st := []) dX6_readsBand_2 (bI_200 B) (by decide) rfl mv_X6_here mi_X6_here ml_X6_130 (Nat.le_of_ble_eq_true rfl) rfl (Nat.le_refl 0) (Nat.le_refl 0) H (fun r2 v1 H => ?_)
  refine AW_sI (as := [(.int r2)]) (st := []) dX6_readsBand_5 mv_X6_kindOf ms_X6_kindOf ml_X6_136 (Nat.le_of_ble_eq_true rfl) rfl (Nat.le_refl 0) (Nat.le_refl 0) H (fun r4 v3 H => ?_)
  refine AW_istore_n (L' := [some (.ref 200), some (.int xa), some (.int r4)]) dX6_readsBand_8 rfl (by decide) rfl ?_
  refine AW_iload_n dX6_readsBand_9 rfl rfl ?_
  refine AW_bipush (x := (-9)) dX6_readsBand_10 (by decide) ?_
  refine AW_icmp_eq (tgt := 23) dX6_readsBand_12 (by decide) (fun c => ?_) (fun c => ?_)
  · replace H := H.1 c
    refine AW_iconst (x := 0) dX6_readsBand_23 (by decide) ?_
    exact AW_rI dX6_readsBand_24 rfl (by decide) H
  · replace H := H.2 c
    refine AW_aload_n dX6_readsBand_15 rfl rfl ?_
    refine AW_getI dX6_readsBand_16 (bI_200 B) fl_X6_139 ?_
    refine AW_iconst (x := 3) dX6_readsBand_19 (by decide) ?_
    refine AW_icmp_ne (tgt := 25) dX6_readsBand_20 (by decide) (fun c => ?_) (fun c => ?_)
    · replace H := H.1 c
      refine AW_aload_n dX6_readsBand_25 rfl rfl ?_
      refine AW_dup dX6_readsBand_26 rfl ?_
      refine AW_getI dX6_readsBand_27 (bI_200 B) fl_X6_127 ?_
      refine AW_iconst (x := 1) dX6_readsBand_30 (by decide) ?_
      refine AW_iadd dX6_readsBand_31 ?_
      refine AW_putIN dX6_readsBand_32 (bI_200 B) fl_X6_127 rfl rfl rfl (fun v5 hv5 => ?_)
      replace H := H v5 hv5
      refine AW_aload_n dX6_readsBand_35 rfl rfl ?_
      refine AW_iload_n dX6_readsBand_36 rfl rfl ?_
      refine AW_vI (as := [(.int xa)]) (st := []) dX6_readsBand_37 (bI_200 B) (by decide) rfl mv_X6_here mi_X6_here ml_X6_130 (Nat.le_of_ble_eq_true rfl) rfl (Nat.le_refl 0) (Nat.le_refl 0) H (fun r7 v6 H => ?_)
      refine AW_bipush (x := 48) dX6_readsBand_40 (by decide) ?_
      refine AW_bipush (x := 47) dX6_readsBand_42 (by decide) ?_
      refine AW_aload_n dX6_readsBand_44 rfl rfl ?_
      refine AW_getI dX6_readsBand_45 (bI_200 B) fl_X6_133 ?_
      refine AW_iadd dX6_readsBand_48 ?_
      refine AW_sI (as := [(.int r7), (.int 48), (.int (47 + (v6.1 200 17)))]) (st := []) dX6_readsBand_49 mv_X6_in ms_X6_in ml_X6_92 (Nat.le_of_ble_eq_true rfl) rfl (Nat.le_refl 0) (Nat.le_refl 0) H (fun r9 v8 H => ?_)
      refine AW_if_ne (tgt := 57) dX6_readsBand_52 (by decide) (fun c => ?_) (fun c => ?_)
      · replace H := H.1 c
        refine AW_aload_n dX6_readsBand_57 rfl rfl ?_
        refine AW_getR dX6_readsBand_58 (bI_200 B) fl_X6_49 (bR_200_21 B) ?_
        refine AW_aload_n dX6_readsBand_61 rfl rfl ?_
        refine AW_getI dX6_readsBand_62 (bI_200 B) fl_X6_139 ?_
        refine AW_aload_n dX6_readsBand_65 rfl rfl ?_
        refine AW_iload_n dX6_readsBand_66 rfl rfl ?_
        refine AW_vI (as := [(.int xa)]) (st := [(.int (v8.1 200 18)), (.ref 221)]) dX6_readsBand_67 (bI_200 B) (by decide) rfl mv_X6_here mi_X6_here ml_X6_130 (Nat.le_of_ble_eq_true rfl) rfl (Nat.le_refl 0) (Nat.le_refl 0) H (fun r11 v10 H => ?_)
        refine AW_bipush (x := 48) dX6_readsBand_70 (by decide) ?_
        refine AW_isub dX6_readsBand_72 ?_
        have hi12 := H.1
        replace H := H.2
        refine AW_iastN dX6_readsBand_73 (bI_221 B) hi12 (fun v13 hv13 => ?_)
        replace H := H v13 hv13
        refine AW_aload_n dX6_readsBand_74 rfl rfl ?_
        refine AW_dup dX6_readsBand_75 rfl ?_
        refine AW_getI dX6_readsBand_76 (bI_200 B) fl_X6_127 ?_
        refine AW_iconst (x := 1) dX6_readsBand_79 (by decide) ?_
        refine AW_iadd dX6_readsBand_80 ?_
        refine AW_putIN dX6_readsBand_81 (bI_200 B) fl_X6_127 rfl rfl rfl (fun v14 hv14 => ?_)
        replace H := H v14 hv14
        refine AW_aload_n dX6_readsBand_84 rfl rfl ?_
        refine AW_iload_n dX6_readsBand_85 rfl rfl ?_
        refine AW_vI (as := [(.int xa)]) (st := []) dX6_readsBand_86 (bI_200 B) (by decide) rfl mv_X6_here mi_X6_here ml_X6_130 (Nat.le_of_ble_eq_true rfl) rfl (Nat.le_refl 0) (Nat.le_refl 0) H (fun r16 v15 H => ?_)
        refine AW_bipush (x := 49) dX6_readsBand_89 (by decide) ?_
        refine AW_bipush (x := 57) dX6_readsBand_91 (by decide) ?_
        refine AW_sI (as := [(.int r16), (.int 49), (.int 57)]) (st := []) dX6_readsBand_93 mv_X6_in ms_X6_in ml_X6_92 (Nat.le_of_ble_eq_true rfl) rfl (Nat.le_refl 0) (Nat.le_refl 0) H (fun r18 v17 H => ?_)
        refine AW_if_ne (tgt := 101) dX6_readsBand_96 (by decide) (fun c => ?_) (fun c => ?_)
        · replace H := H.1 c
          refine AW_aload_n dX6_readsBand_101 rfl rfl ?_
          refine AW_getR dX6_readsBand_102 (bI_200 B) fl_X6_52 (bR_200_22 B) ?_
          refine AW_aload_n dX6_readsBand_105 rfl rfl ?_
          refine AW_getI dX6_readsBand_106 (bI_200 B) fl_X6_139 ?_
          refine AW_aload_n dX6_readsBand_109 rfl rfl ?_
          refine AW_iload_n dX6_readsBand_110 rfl rfl ?_
          refine AW_vI (as := [(.int xa)]) (st := [(.int (v17.1 200 18)), (.ref 222)]) dX6_readsBand_111 (bI_200 B) (by decide) rfl mv_X6_here mi_X6_here ml_X6_130 (Nat.le_of_ble_eq_true rfl) rfl (Nat.le_refl 0) (Nat.le_refl 0) H (fun r20 v19 H => ?_)
          refine AW_bipush (x := 48) dX6_readsBand_114 (by decide) ?_
          refine AW_isub dX6_readsBand_116 ?_
          have hi21 := H.1
          replace H := H.2
          refine AW_iastN dX6_readsBand_117 (bI_222 B) hi21 (fun v22 hv22 => ?_)
          replace H := H v22 hv22
          refine AW_aload_n dX6_readsBand_118 rfl rfl ?_
          refine AW_dup dX6_readsBand_119 rfl ?_
          refine AW_getI dX6_readsBand_120 (bI_200 B) fl_X6_127 ?_
          refine AW_iconst (x := 1) dX6_readsBand_123 (by decide) ?_
          refine AW_iadd dX6_readsBand_124 ?_
          refine AW_putIN dX6_readsBand_125 (bI_200 B) fl_X6_127 rfl rfl rfl (fun v23 hv23 => ?_)
          replace H := H v23 hv23
          refine AW_aload_n dX6_readsBand_128 rfl rfl ?_
          refine AW_getR dX6_readsBand_129 (bI_200 B) fl_X6_46 (bR_200_20 B) ?_
          refine AW_aload_n dX6_readsBand_132 rfl rfl ?_
          refine AW_getI dX6_readsBand_133 (bI_200 B) fl_X6_139 ?_
          refine AW_iload_n dX6_readsBand_136 rfl rfl ?_
          have hi24 := H.1
          replace H := H.2
          refine AW_iastN dX6_readsBand_137 (bI_220 B) hi24 (fun v25 hv25 => ?_)
          replace H := H v25 hv25
          refine AW_aload_n dX6_readsBand_138 rfl rfl ?_
          refine AW_dup dX6_readsBand_139 rfl ?_
          refine AW_getI dX6_readsBand_140 (bI_200 B) fl_X6_139 ?_
          refine AW_iconst (x := 1) dX6_readsBand_143 (by decide) ?_
          refine AW_iadd dX6_readsBand_144 ?_
          refine AW_putIN dX6_readsBand_145 (bI_200 B) fl_X6_139 rfl rfl rfl (fun v26 hv26 => ?_)
          replace H := H v26 hv26
          refine AW_iconst (x := 1) dX6_readsBand_148 (by decide) ?_
          exact AW_rI dX6_readsBand_149 rfl (by decide) H
        · replace H := H.2 c
          refine AW_iconst (x := 0) dX6_readsBand_99 (by decide) ?_
          exact AW_rI dX6_readsBand_100 rfl (by decide) H
      · replace H := H.2 c
        refine AW_iconst (x := 0) dX6_readsBand_55 (by decide) ?_
        exact AW_rI dX6_readsBand_56 rfl (by decide) H
    · replace H := H.2 c
      refine AW_iconst (x := 0) dX6_readsBand_23 (by decide) ?_
      exact AW_rI dX6_readsBand_24 rfl (by decide) H
set_option maxRecDepth 100000 in
set_option maxHeartbeats 4000000 in
theorem vc_X6_goesOn {G : xG} {d : Nat} {z : xZ} {v : xS} {Q : Int32 → xS → Prop} (B : Base z) {xa : Int32} 
    (H : (∀ v1 : xS, v1 = wV v 200 16 0 → (∀ v2 : xS, v2 = wV v1 200 17 0 → (∀ v3 : xS, v3 = wV v2 200 18 0 → aX6_goesOn G (d + 1) 15 [some (.ref 200), some (.int xa)] [] z v3 Q)))) :
    oX6_goesOn G (d + 1) [(.ref 200), (.int xa)] z v Q := by
  refine Ok_of (own := RX6) (by decide) rfl (Nat.le_of_ble_eq_true rfl) ?_
  show AW G (d + 1) 0 0 yX6_goesOn cX6_goesOn 2 (some .int) RX6 0 0 0 [some (.ref 200), some (.int xa)] [] z v _
  refine AW_aload_n dX6_goesOn_0 rfl rfl ?_
  refine AW_iconst (x := 0) dX6_goesOn_1 (by decide) ?_
  refine AW_putIN dX6_goesOn_2 (bI_200 B) fl_X6_127 rfl rfl rfl (fun v1 hv1 => ?_)
  replace H := H v1 hv1
  refine AW_aload_n dX6_goesOn_5 rfl rfl ?_
  refine AW_iconst (x := 0) dX6_goesOn_6 (by decide) ?_
  refine AW_putIN dX6_goesOn_7 (bI_200 B) fl_X6_133 rfl rfl rfl (fun v2 hv2 => ?_)
  replace H := H v2 hv2
  refine AW_aload_n dX6_goesOn_10 rfl rfl ?_
  refine AW_iconst (x := 0) dX6_goesOn_11 (by decide) ?_
  refine AW_putIN dX6_goesOn_12 (bI_200 B) fl_X6_139 rfl rfl rfl (fun v3 hv3 => ?_)
  replace H := H v3 hv3
  exact H
set_option maxRecDepth 100000 in
set_option maxHeartbeats 4000000 in
theorem vc_X6_goesOn_15 {G : xG} {d : Nat} {z : xZ} {v : xS} {Q : Int32 → xS → Prop} (B : Base z)  {l1 : Int32} 
    (H : (vp_in l1 4 ∧ (((v.1 206 l1.toNatClampNeg) ≤ (v.1 200 16) → ((¬ (v.1 200 17) = 0 → Q (-9) v) ∧ ((v.1 200 17) = 0 → (vp_in l1 4 ∧ Q (v.1 206 l1.toNatClampNeg) v)))) ∧ (¬ (v.1 206 l1.toNatClampNeg) ≤ (v.1 200 16) → (oX6_here G d [(.ref 200), (.int l1)] z v (fun r4 v3 => ((¬ r4 = 32 → ((¬ (v3.1 200 17) = 0 → (oX6_readsBand G d [(.ref 200), (.int l1)] z v3 (fun r6 v5 => ((¬ r6 = 0 → aX6_goesOn G (d + 1) 15 [some (.ref 200), some (.int l1)] [] z v5 Q) ∧ (r6 = 0 → Q (v5.1 200 16) v5))))) ∧ ((v3.1 200 17) = 0 → (oX6_readsGround G d [(.ref 200), (.int l1)] z v3 (fun r8 v7 => ((¬ r8 = 0 → aX6_goesOn G (d + 1) 15 [some (.ref 200), some (.int l1)] [] z v7 Q) ∧ (r8 = 0 → Q (v7.1 200 16) v7))))))) ∧ (r4 = 32 → (∀ v9 : xS, v9 = wV v3 200 16 ((v3.1 200 16) + 1) → aX6_goesOn G (d + 1) 15 [some (.ref 200), some (.int l1)] [] z v9 Q))))))))) :
    aX6_goesOn G (d + 1) 15 [some (.ref 200), some (.int l1)] [] z v Q := by
  refine AW_aload_n dX6_goesOn_15 rfl rfl ?_
  refine AW_getI dX6_goesOn_16 (bI_200 B) fl_X6_127 ?_
  refine AW_aload_n dX6_goesOn_19 rfl rfl ?_
  refine AW_getR dX6_goesOn_20 (bI_200 B) fl_X6_22 (bR_200_6 B) ?_
  refine AW_iload_n dX6_goesOn_23 rfl rfl ?_
  have hi1 := H.1
  replace H := H.2
  refine AW_iald dX6_goesOn_24 (bI_206 B) hi1 ?_
  refine AW_icmp_ge (tgt := 82) dX6_goesOn_25 (by decide) (fun c => ?_) (fun c => ?_)
  · replace H := H.1 c
    refine AW_aload_n dX6_goesOn_82 rfl rfl ?_
    refine AW_getI dX6_goesOn_83 (bI_200 B) fl_X6_133 ?_
    refine AW_if_ne (tgt := 98) dX6_goesOn_86 (by decide) (fun c => ?_) (fun c => ?_)
    · replace H := H.1 c
      refine AW_bipush (x := (-9)) dX6_goesOn_98 (by decide) ?_
      exact AW_rI dX6_goesOn_100 rfl rfl H
    · replace H := H.2 c
      refine AW_aload_n dX6_goesOn_89 rfl rfl ?_
      refine AW_getR dX6_goesOn_90 (bI_200 B) fl_X6_22 (bR_200_6 B) ?_
      refine AW_iload_n dX6_goesOn_93 rfl rfl ?_
      have hi2 := H.1
      replace H := H.2
      refine AW_iald dX6_goesOn_94 (bI_206 B) hi2 ?_
      refine AW_goto (tgt := 100) dX6_goesOn_95 (by decide) ?_
      exact AW_rI dX6_goesOn_100 rfl rfl H
  · replace H := H.2 c
    refine AW_aload_n dX6_goesOn_28 rfl rfl ?_
    refine AW_iload_n dX6_goesOn_29 rfl rfl ?_
    refine AW_vI (as := [(.int l1)]) (st := []) dX6_goesOn_30 (bI_200 B) (by decide) rfl mv_X6_here mi_X6_here ml_X6_130 (Nat.le_of_ble_eq_true rfl) rfl (Nat.le_refl 0) (Nat.le_refl 0) H (fun r4 v3 H => ?_)
    refine AW_bipush (x := 32) dX6_goesOn_33 (by decide) ?_
    refine AW_icmp_ne (tgt := 51) dX6_goesOn_35 (by decide) (fun c => ?_) (fun c => ?_)
    · replace H := H.1 c
      refine AW_aload_n dX6_goesOn_51 rfl rfl ?_
      refine AW_getI dX6_goesOn_52 (bI_200 B) fl_X6_133 ?_
      refine AW_if_ne (tgt := 69) dX6_goesOn_55 (by decide) (fun c => ?_) (fun c => ?_)
      · replace H := H.1 c
        refine AW_aload_n dX6_goesOn_69 rfl rfl ?_
        refine AW_iload_n dX6_goesOn_70 rfl rfl ?_
        refine AW_vI (as := [(.int l1)]) (st := []) dX6_goesOn_71 (bI_200 B) (by decide) rfl mv_X6_readsBand mi_X6_readsBand ml_X6_145 (Nat.le_of_ble_eq_true rfl) rfl (Nat.le_refl 0) (Nat.le_refl 0) H (fun r6 v5 H => ?_)
        refine AW_if_ne (tgt := 15) dX6_goesOn_74 (by decide) (fun c => ?_) (fun c => ?_)
        · replace H := H.1 c
          exact H
        · replace H := H.2 c
          refine AW_aload_n dX6_goesOn_77 rfl rfl ?_
          refine AW_getI dX6_goesOn_78 (bI_200 B) fl_X6_127 ?_
          exact AW_rI dX6_goesOn_81 rfl rfl H
      · replace H := H.2 c
        refine AW_aload_n dX6_goesOn_58 rfl rfl ?_
        refine AW_iload_n dX6_goesOn_59 rfl rfl ?_
        refine AW_vI (as := [(.int l1)]) (st := []) dX6_goesOn_60 (bI_200 B) (by decide) rfl mv_X6_readsGround mi_X6_readsGround ml_X6_142 (Nat.le_of_ble_eq_true rfl) rfl (Nat.le_refl 0) (Nat.le_refl 0) H (fun r8 v7 H => ?_)
        refine AW_if_ne (tgt := 15) dX6_goesOn_63 (by decide) (fun c => ?_) (fun c => ?_)
        · replace H := H.1 c
          exact H
        · replace H := H.2 c
          refine AW_goto (tgt := 77) dX6_goesOn_66 (by decide) ?_
          refine AW_aload_n dX6_goesOn_77 rfl rfl ?_
          refine AW_getI dX6_goesOn_78 (bI_200 B) fl_X6_127 ?_
          exact AW_rI dX6_goesOn_81 rfl rfl H
    · replace H := H.2 c
      refine AW_aload_n dX6_goesOn_38 rfl rfl ?_
      refine AW_dup dX6_goesOn_39 rfl ?_
      refine AW_getI dX6_goesOn_40 (bI_200 B) fl_X6_127 ?_
      refine AW_iconst (x := 1) dX6_goesOn_43 (by decide) ?_
      refine AW_iadd dX6_goesOn_44 ?_
      refine AW_putIN dX6_goesOn_45 (bI_200 B) fl_X6_127 rfl rfl rfl (fun v9 hv9 => ?_)
      replace H := H v9 hv9
      refine AW_goto (tgt := 15) dX6_goesOn_48 (by decide) ?_
      exact H
set_option maxRecDepth 100000 in
set_option maxHeartbeats 4000000 in
theorem vc_X6_fault {G : xG} {d : Nat} {z : xZ} {v : xS} {Q : Int32 → xS → Prop} (B : Base z) {xa : Int32} 
    (H : (oX6_askedText G d [(.ref 200), (.int xa)] z v (fun r2 v1 => ((0 ≤ r2 → (oX6_goesOn G d [(.ref 200), (.int xa)] z v1 (fun r4 v3 => Q r4 v3))) ∧ (¬ 0 ≤ r2 → Q r2 v1))))) :
    oX6_fault G (d + 1) [(.ref 200), (.int xa)] z v Q := by
  refine Ok_of (own := RX6) (by decide) rfl (Nat.le_of_ble_eq_true rfl) ?_
  show AW G (d + 1) 0 0 yX6_fault cX6_fault 3 (some .int) RX6 0 0 0 [some (.ref 200), some (.int xa), none] [] z v _
  refine AW_aload_n dX6_fault_0 rfl rfl ?_
  refine AW_iload_n dX6_fault_1 rfl rfl ?_
  refine AW_vI (as := [(.int xa)]) (st := []) dX6_fault_2 (bI_200 B) (by decide) rfl mv_X6_askedText mi_X6_askedText ml_X6_124 (Nat.le_of_ble_eq_true rfl) rfl (Nat.le_refl 0) (Nat.le_refl 0) H (fun r2 v1 H => ?_)
  refine AW_istore_n (L' := [some (.ref 200), some (.int xa), some (.int r2)]) dX6_fault_5 rfl (by decide) rfl ?_
  refine AW_iload_n dX6_fault_6 rfl rfl ?_
  refine AW_if_ge (tgt := 14) dX6_fault_7 (by decide) (fun c => ?_) (fun c => ?_)
  · replace H := H.1 c
    refine AW_aload_n dX6_fault_14 rfl rfl ?_
    refine AW_iload_n dX6_fault_15 rfl rfl ?_
    refine AW_vI (as := [(.int xa)]) (st := []) dX6_fault_16 (bI_200 B) (by decide) rfl mv_X6_goesOn mi_X6_goesOn ml_X6_148 (Nat.le_of_ble_eq_true rfl) rfl (Nat.le_refl 0) (Nat.le_refl 0) H (fun r4 v3 H => ?_)
    exact AW_rI dX6_fault_19 rfl rfl H
  · replace H := H.2 c
    refine AW_iload_n dX6_fault_10 rfl rfl ?_
    refine AW_goto (tgt := 19) dX6_fault_11 (by decide) ?_
    exact AW_rI dX6_fault_19 rfl rfl H
set_option maxRecDepth 100000 in
set_option maxHeartbeats 4000000 in
theorem vc_X6_land {G : xG} {d : Nat} {z : xZ} {v : xS} {Q : Int32 → xS → Prop} (B : Base z) {xa : Int32} 
    (H : (oX6_askedText G d [(.ref 200), (.int xa)] z v (fun r2 v1 => ((0 ≤ r2 → (oX6_goesOn G d [(.ref 200), (.int xa)] z v1 (fun r4 v3 => ((r4 = (-9) → (∀ v5 : xS, v5 = wV v3 200 8 (v3.1 200 17) → (∀ v6 : xS, v6 = wV v5 200 9 (v5.1 200 18) → aX6_land G (d + 1) 43 [some (.ref 200), some (.int xa), some (.int r2), some (.int 0)] [] z v6 Q))) ∧ (¬ r4 = (-9) → Q (-4) v3))))) ∧ (¬ 0 ≤ r2 → Q r2 v1))))) :
    oX6_land G (d + 1) [(.ref 200), (.int xa)] z v Q := by
  refine Ok_of (own := RX6) (by decide) rfl (Nat.le_of_ble_eq_true rfl) ?_
  show AW G (d + 1) 0 0 yX6_land cX6_land 4 (some .int) RX6 0 0 0 [some (.ref 200), some (.int xa), none, none] [] z v _
  refine AW_aload_n dX6_land_0 rfl rfl ?_
  refine AW_iload_n dX6_land_1 rfl rfl ?_
  refine AW_vI (as := [(.int xa)]) (st := []) dX6_land_2 (bI_200 B) (by decide) rfl mv_X6_askedText mi_X6_askedText ml_X6_124 (Nat.le_of_ble_eq_true rfl) rfl (Nat.le_refl 0) (Nat.le_refl 0) H (fun r2 v1 H => ?_)
  refine AW_istore_n (L' := [some (.ref 200), some (.int xa), some (.int r2), none]) dX6_land_5 rfl (by decide) rfl ?_
  refine AW_iload_n dX6_land_6 rfl rfl ?_
  refine AW_if_ge (tgt := 12) dX6_land_7 (by decide) (fun c => ?_) (fun c => ?_)
  · replace H := H.1 c
    refine AW_aload_n dX6_land_12 rfl rfl ?_
    refine AW_iload_n dX6_land_13 rfl rfl ?_
    refine AW_vI (as := [(.int xa)]) (st := []) dX6_land_14 (bI_200 B) (by decide) rfl mv_X6_goesOn mi_X6_goesOn ml_X6_148 (Nat.le_of_ble_eq_true rfl) rfl (Nat.le_refl 0) (Nat.le_refl 0) H (fun r4 v3 H => ?_)
    refine AW_bipush (x := (-9)) dX6_land_17 (by decide) ?_
    refine AW_icmp_eq (tgt := 25) dX6_land_19 (by decide) (fun c => ?_) (fun c => ?_)
    · replace H := H.1 c
      refine AW_aload_n dX6_land_25 rfl rfl ?_
      refine AW_aload_n dX6_land_26 rfl rfl ?_
      refine AW_getI dX6_land_27 (bI_200 B) fl_X6_133 ?_
      refine AW_putIN dX6_land_30 (bI_200 B) fl_X6_151 rfl rfl rfl (fun v5 hv5 => ?_)
      replace H := H v5 hv5
      refine AW_aload_n dX6_land_33 rfl rfl ?_
      refine AW_aload_n dX6_land_34 rfl rfl ?_
      refine AW_getI dX6_land_35 (bI_200 B) fl_X6_139 ?_
      refine AW_putIN dX6_land_38 (bI_200 B) fl_X6_154 rfl rfl rfl (fun v6 hv6 => ?_)
      replace H := H v6 hv6
      refine AW_iconst (x := 0) dX6_land_41 (by decide) ?_
      refine AW_istore_n (L' := [some (.ref 200), some (.int xa), some (.int r2), some (.int 0)]) dX6_land_42 rfl (by decide) rfl ?_
      exact H
    · replace H := H.2 c
      refine AW_bipush (x := (-4)) dX6_land_22 (by decide) ?_
      exact AW_rI dX6_land_24 rfl rfl H
  · replace H := H.2 c
    refine AW_iload_n dX6_land_10 rfl rfl ?_
    exact AW_rI dX6_land_11 rfl rfl H
set_option maxRecDepth 100000 in
set_option maxHeartbeats 4000000 in
theorem vc_X6_land_43 {G : xG} {d : Nat} {z : xZ} {v : xS} {Q : Int32 → xS → Prop} (B : Base z)  {l1 : Int32} {l2 : Int32} {l3 : Int32} 
    (H : ((10 ≤ l3 → aX6_land G (d + 1) 81 [some (.ref 200), some (.int l1), some (.int l2), some (.int 0)] [] z v Q) ∧ (¬ 10 ≤ l3 → (((v.1 200 8) ≤ l3 → (vp_in l3 10 ∧ (∀ v2 : xS, v2 = wV v 210 l3.toNatClampNeg 0 → aX6_land G (d + 1) 43 [some (.ref 200), some (.int l1), some (.int l2), some (.int (l3 + 1))] [] z v2 Q))) ∧ (¬ (v.1 200 8) ≤ l3 → (vp_in l3 10 ∧ (vp_in l3 10 ∧ (∀ v5 : xS, v5 = wV v 210 l3.toNatClampNeg (v.1 219 l3.toNatClampNeg) → aX6_land G (d + 1) 43 [some (.ref 200), some (.int l1), some (.int l2), some (.int (l3 + 1))] [] z v5 Q)))))))) :
    aX6_land G (d + 1) 43 [some (.ref 200), some (.int l1), some (.int l2), some (.int l3)] [] z v Q := by
  refine AW_iload_n dX6_land_43 rfl rfl ?_
  refine AW_bipush (x := 10) dX6_land_44 (by decide) ?_
  refine AW_icmp_ge (tgt := 79) dX6_land_46 (by decide) (fun c => ?_) (fun c => ?_)
  · replace H := H.1 c
    refine AW_iconst (x := 0) dX6_land_79 (by decide) ?_
    refine AW_istore_n (L' := [some (.ref 200), some (.int l1), some (.int l2), some (.int 0)]) dX6_land_80 rfl (by decide) rfl ?_
    exact H
  · replace H := H.2 c
    refine AW_aload_n dX6_land_49 rfl rfl ?_
    refine AW_getR dX6_land_50 (bI_200 B) fl_X6_28 (bR_200_10 B) ?_
    refine AW_iload_n dX6_land_53 rfl rfl ?_
    refine AW_iload_n dX6_land_54 rfl rfl ?_
    refine AW_aload_n dX6_land_55 rfl rfl ?_
    refine AW_getI dX6_land_56 (bI_200 B) fl_X6_151 ?_
    refine AW_icmp_ge (tgt := 71) dX6_land_59 (by decide) (fun c => ?_) (fun c => ?_)
    · replace H := H.1 c
      refine AW_iconst (x := 0) dX6_land_71 (by decide) ?_
      have hi1 := H.1
      replace H := H.2
      refine AW_iastN dX6_land_72 (bI_210 B) hi1 (fun v2 hv2 => ?_)
      replace H := H v2 hv2
      refine AW_iinc (x' := l3 + 1) (L' := [some (.ref 200), some (.int l1), some (.int l2), some (.int (l3 + 1))]) dX6_land_73 rfl rfl (by decide) rfl ?_
      refine AW_goto (tgt := 43) dX6_land_76 (by decide) ?_
      exact H
    · replace H := H.2 c
      refine AW_aload_n dX6_land_62 rfl rfl ?_
      refine AW_getR dX6_land_63 (bI_200 B) fl_X6_43 (bR_200_19 B) ?_
      refine AW_iload_n dX6_land_66 rfl rfl ?_
      have hi3 := H.1
      replace H := H.2
      refine AW_iald dX6_land_67 (bI_219 B) hi3 ?_
      refine AW_goto (tgt := 72) dX6_land_68 (by decide) ?_
      have hi4 := H.1
      replace H := H.2
      refine AW_iastN dX6_land_72 (bI_210 B) hi4 (fun v5 hv5 => ?_)
      replace H := H v5 hv5
      refine AW_iinc (x' := l3 + 1) (L' := [some (.ref 200), some (.int l1), some (.int l2), some (.int (l3 + 1))]) dX6_land_73 rfl rfl (by decide) rfl ?_
      refine AW_goto (tgt := 43) dX6_land_76 (by decide) ?_
      exact H
set_option maxRecDepth 100000 in
set_option maxHeartbeats 4000000 in
theorem vc_X6_land_81 {G : xG} {d : Nat} {z : xZ} {v : xS} {Q : Int32 → xS → Prop} (B : Base z)  {l1 : Int32} {l2 : Int32} {l3 : Int32} 
    (H : ((3 ≤ l3 → (∀ v1 : xS, v1 = wV v 200 15 0 → (∀ v2 : xS, v2 = wV v1 200 24 0 → aX6_land G (d + 1) 147 [some (.ref 200), some (.int l1), some (.int l2), some (.int 0)] [] z v2 Q))) ∧ (¬ 3 ≤ l3 → (vp_in l3 3 ∧ (vp_in l3 3 ∧ (∀ v5 : xS, v5 = wV v 211 l3.toNatClampNeg (v.1 220 l3.toNatClampNeg) → (vp_in l3 3 ∧ (vp_in l3 3 ∧ (∀ v8 : xS, v8 = wV v5 212 l3.toNatClampNeg (v5.1 221 l3.toNatClampNeg) → (vp_in l3 3 ∧ (vp_in l3 3 ∧ (∀ v11 : xS, v11 = wV v8 213 l3.toNatClampNeg (v8.1 222 l3.toNatClampNeg) → (vp_in l3 3 ∧ (∀ v13 : xS, v13 = wV v11 214 l3.toNatClampNeg 0 → aX6_land G (d + 1) 81 [some (.ref 200), some (.int l1), some (.int l2), some (.int (l3 + 1))] [] z v13 Q)))))))))))))) :
    aX6_land G (d + 1) 81 [some (.ref 200), some (.int l1), some (.int l2), some (.int l3)] [] z v Q := by
  refine AW_iload_n dX6_land_81 rfl rfl ?_
  refine AW_iconst (x := 3) dX6_land_82 (by decide) ?_
  refine AW_icmp_ge (tgt := 135) dX6_land_83 (by decide) (fun c => ?_) (fun c => ?_)
  · replace H := H.1 c
    refine AW_aload_n dX6_land_135 rfl rfl ?_
    refine AW_iconst (x := 0) dX6_land_136 (by decide) ?_
    refine AW_putIN dX6_land_137 (bI_200 B) fl_X6_157 rfl rfl rfl (fun v1 hv1 => ?_)
    replace H := H v1 hv1
    refine AW_aload_n dX6_land_140 rfl rfl ?_
    refine AW_iconst (x := 0) dX6_land_141 (by decide) ?_
    refine AW_putIN dX6_land_142 (bI_200 B) fl_X6_160 rfl rfl rfl (fun v2 hv2 => ?_)
    replace H := H v2 hv2
    refine AW_iconst (x := 0) dX6_land_145 (by decide) ?_
    refine AW_istore_n (L' := [some (.ref 200), some (.int l1), some (.int l2), some (.int 0)]) dX6_land_146 rfl (by decide) rfl ?_
    exact H
  · replace H := H.2 c
    refine AW_aload_n dX6_land_86 rfl rfl ?_
    refine AW_getR dX6_land_87 (bI_200 B) fl_X6_31 (bR_200_11 B) ?_
    refine AW_iload_n dX6_land_90 rfl rfl ?_
    refine AW_aload_n dX6_land_91 rfl rfl ?_
    refine AW_getR dX6_land_92 (bI_200 B) fl_X6_46 (bR_200_20 B) ?_
    refine AW_iload_n dX6_land_95 rfl rfl ?_
    have hi3 := H.1
    replace H := H.2
    refine AW_iald dX6_land_96 (bI_220 B) hi3 ?_
    have hi4 := H.1
    replace H := H.2
    refine AW_iastN dX6_land_97 (bI_211 B) hi4 (fun v5 hv5 => ?_)
    replace H := H v5 hv5
    refine AW_aload_n dX6_land_98 rfl rfl ?_
    refine AW_getR dX6_land_99 (bI_200 B) fl_X6_34 (bR_200_12 B) ?_
    refine AW_iload_n dX6_land_102 rfl rfl ?_
    refine AW_aload_n dX6_land_103 rfl rfl ?_
    refine AW_getR dX6_land_104 (bI_200 B) fl_X6_49 (bR_200_21 B) ?_
    refine AW_iload_n dX6_land_107 rfl rfl ?_
    have hi6 := H.1
    replace H := H.2
    refine AW_iald dX6_land_108 (bI_221 B) hi6 ?_
    have hi7 := H.1
    replace H := H.2
    refine AW_iastN dX6_land_109 (bI_212 B) hi7 (fun v8 hv8 => ?_)
    replace H := H v8 hv8
    refine AW_aload_n dX6_land_110 rfl rfl ?_
    refine AW_getR dX6_land_111 (bI_200 B) fl_X6_37 (bR_200_13 B) ?_
    refine AW_iload_n dX6_land_114 rfl rfl ?_
    refine AW_aload_n dX6_land_115 rfl rfl ?_
    refine AW_getR dX6_land_116 (bI_200 B) fl_X6_52 (bR_200_22 B) ?_
    refine AW_iload_n dX6_land_119 rfl rfl ?_
    have hi9 := H.1
    replace H := H.2
    refine AW_iald dX6_land_120 (bI_222 B) hi9 ?_
    have hi10 := H.1
    replace H := H.2
    refine AW_iastN dX6_land_121 (bI_213 B) hi10 (fun v11 hv11 => ?_)
    replace H := H v11 hv11
    refine AW_aload_n dX6_land_122 rfl rfl ?_
    refine AW_getR dX6_land_123 (bI_200 B) fl_X6_40 (bR_200_14 B) ?_
    refine AW_iload_n dX6_land_126 rfl rfl ?_
    refine AW_iconst (x := 0) dX6_land_127 (by decide) ?_
    have hi12 := H.1
    replace H := H.2
    refine AW_iastN dX6_land_128 (bI_214 B) hi12 (fun v13 hv13 => ?_)
    replace H := H v13 hv13
    refine AW_iinc (x' := l3 + 1) (L' := [some (.ref 200), some (.int l1), some (.int l2), some (.int (l3 + 1))]) dX6_land_129 rfl rfl (by decide) rfl ?_
    refine AW_goto (tgt := 81) dX6_land_132 (by decide) ?_
    exact H
set_option maxRecDepth 100000 in
set_option maxHeartbeats 4000000 in
theorem vc_X6_land_147 {G : xG} {d : Nat} {z : xZ} {v : xS} {Q : Int32 → xS → Prop} (B : Base z)  {l1 : Int32} {l2 : Int32} {l3 : Int32} 
    (H : ((3 ≤ l3 → Q (v.1 200 8) v) ∧ (¬ 3 ≤ l3 → (vp_in (920 * l3) 2760 ∧ (∀ v2 : xS, v2 = wV v 227 (920 * l3).toNatClampNeg (-9) → aX6_land G (d + 1) 147 [some (.ref 200), some (.int l1), some (.int l2), some (.int (l3 + 1))] [] z v2 Q))))) :
    aX6_land G (d + 1) 147 [some (.ref 200), some (.int l1), some (.int l2), some (.int l3)] [] z v Q := by
  refine AW_iload_n dX6_land_147 rfl rfl ?_
  refine AW_iconst (x := 3) dX6_land_148 (by decide) ?_
  refine AW_icmp_ge (tgt := 170) dX6_land_149 (by decide) (fun c => ?_) (fun c => ?_)
  · replace H := H.1 c
    refine AW_aload_n dX6_land_170 rfl rfl ?_
    refine AW_getI dX6_land_171 (bI_200 B) fl_X6_151 ?_
    exact AW_rI dX6_land_174 rfl rfl H
  · replace H := H.2 c
    refine AW_aload_n dX6_land_152 rfl rfl ?_
    refine AW_getR dX6_land_153 (bI_200 B) fl_X6_64 (bR_200_27 B) ?_
    refine AW_sipush (x := 920) dX6_land_156 (by decide) ?_
    refine AW_iload_n dX6_land_159 rfl rfl ?_
    refine AW_imul dX6_land_160 ?_
    refine AW_bipush (x := (-9)) dX6_land_161 (by decide) ?_
    have hi1 := H.1
    replace H := H.2
    refine AW_iastN dX6_land_163 (bI_227 B) hi1 (fun v2 hv2 => ?_)
    replace H := H v2 hv2
    refine AW_iinc (x' := l3 + 1) (L' := [some (.ref 200), some (.int l1), some (.int l2), some (.int (l3 + 1))]) dX6_land_164 rfl rfl (by decide) rfl ?_
    refine AW_goto (tgt := 147) dX6_land_167 (by decide) ?_
    exact H
set_option maxRecDepth 100000 in
set_option maxHeartbeats 4000000 in
theorem vc_X6_isSpot {G : xG} {d : Nat} {z : xZ} {v : xS} {Q : Int32 → xS → Prop} (B : Base z) {xa : Int32} 
    (H : (oX6_in G d [(.int xa), (.int 0), (.int ((v.1 200 8) - 1))] z v (fun r2 v1 => (xbl r2 ∧ Q r2 v1)))) :
    oX6_isSpot G (d + 1) [(.ref 200), (.int xa)] z v Q := by
  refine Ok_of (own := RX6) (by decide) rfl (Nat.le_of_ble_eq_true rfl) ?_
  show AW G (d + 1) 0 0 yX6_isSpot cX6_isSpot 2 (some .boolean) RX6 0 0 0 [some (.ref 200), some (.int xa)] [] z v _
  refine AW_iload_n dX6_isSpot_0 rfl rfl ?_
  refine AW_iconst (x := 0) dX6_isSpot_1 (by decide) ?_
  refine AW_aload_n dX6_isSpot_2 rfl rfl ?_
  refine AW_getI dX6_isSpot_3 (bI_200 B) fl_X6_151 ?_
  refine AW_iconst (x := 1) dX6_isSpot_6 (by decide) ?_
  refine AW_isub dX6_isSpot_7 ?_
  refine AW_sI (as := [(.int xa), (.int 0), (.int ((v.1 200 8) - 1))]) (st := []) dX6_isSpot_8 mv_X6_in ms_X6_in ml_X6_92 (Nat.le_of_ble_eq_true rfl) rfl (Nat.le_refl 0) (Nat.le_refl 0) H (fun r2 v1 H => ?_)
  exact AW_rI dX6_isSpot_11 rfl H.1 H.2
set_option maxRecDepth 100000 in
set_option maxHeartbeats 4000000 in
theorem vc_X6_isBand {G : xG} {d : Nat} {z : xZ} {v : xS} {Q : Int32 → xS → Prop} (B : Base z) {xa : Int32} 
    (H : (oX6_in G d [(.int xa), (.int 0), (.int ((v.1 200 9) - 1))] z v (fun r2 v1 => (xbl r2 ∧ Q r2 v1)))) :
    oX6_isBand G (d + 1) [(.ref 200), (.int xa)] z v Q := by
  refine Ok_of (own := RX6) (by decide) rfl (Nat.le_of_ble_eq_true rfl) ?_
  show AW G (d + 1) 0 0 yX6_isBand cX6_isBand 2 (some .boolean) RX6 0 0 0 [some (.ref 200), some (.int xa)] [] z v _
  refine AW_iload_n dX6_isBand_0 rfl rfl ?_
  refine AW_iconst (x := 0) dX6_isBand_1 (by decide) ?_
  refine AW_aload_n dX6_isBand_2 rfl rfl ?_
  refine AW_getI dX6_isBand_3 (bI_200 B) fl_X6_154 ?_
  refine AW_iconst (x := 1) dX6_isBand_6 (by decide) ?_
  refine AW_isub dX6_isBand_7 ?_
  refine AW_sI (as := [(.int xa), (.int 0), (.int ((v.1 200 9) - 1))]) (st := []) dX6_isBand_8 mv_X6_in ms_X6_in ml_X6_92 (Nat.le_of_ble_eq_true rfl) rfl (Nat.le_refl 0) (Nat.le_refl 0) H (fun r2 v1 H => ?_)
  exact AW_rI dX6_isBand_11 rfl H.1 H.2
set_option maxRecDepth 100000 in
set_option maxHeartbeats 4000000 in
theorem vc_X6_isA {G : xG} {d : Nat} {z : xZ} {v : xS} {Q : Int32 → xS → Prop} (B : Base z) {xa : Int32} {xb : Int32} 
    (H : (vp_in xa 3 ∧ (((v.1 211 xa.toNatClampNeg) = xb → Q 1 v) ∧ (¬ (v.1 211 xa.toNatClampNeg) = xb → ((¬ xb = 1 → ((¬ xb = 2 → Q 0 v) ∧ (xb = 2 → (vp_in xa 3 ∧ ((¬ (v.1 211 xa.toNatClampNeg) = 5 → Q 0 v) ∧ ((v.1 211 xa.toNatClampNeg) = 5 → Q 1 v)))))) ∧ (xb = 1 → (vp_in xa 3 ∧ (((v.1 211 xa.toNatClampNeg) = 4 → Q 1 v) ∧ (¬ (v.1 211 xa.toNatClampNeg) = 4 → ((¬ xb = 2 → Q 0 v) ∧ (xb = 2 → (vp_in xa 3 ∧ ((¬ (v.1 211 xa.toNatClampNeg) = 5 → Q 0 v) ∧ ((v.1 211 xa.toNatClampNeg) = 5 → Q 1 v)))))))))))))) :
    oX6_isA G (d + 1) [(.ref 200), (.int xa), (.int xb)] z v Q := by
  refine Ok_of (own := RX6) (by decide) rfl (Nat.le_of_ble_eq_true rfl) ?_
  show AW G (d + 1) 0 0 yX6_isA cX6_isA 3 (some .boolean) RX6 0 0 0 [some (.ref 200), some (.int xa), some (.int xb)] [] z v _
  refine AW_aload_n dX6_isA_0 rfl rfl ?_
  refine AW_getR dX6_isA_1 (bI_200 B) fl_X6_31 (bR_200_11 B) ?_
  refine AW_iload_n dX6_isA_4 rfl rfl ?_
  have hi1 := H.1
  replace H := H.2
  refine AW_iald dX6_isA_5 (bI_211 B) hi1 ?_
  refine AW_iload_n dX6_isA_6 rfl rfl ?_
  refine AW_icmp_eq (tgt := 40) dX6_isA_7 (by decide) (fun c => ?_) (fun c => ?_)
  · replace H := H.1 c
    refine AW_iconst (x := 1) dX6_isA_40 (by decide) ?_
    refine AW_goto (tgt := 45) dX6_isA_41 (by decide) ?_
    exact AW_rI dX6_isA_45 rfl (by decide) H
  · replace H := H.2 c
    refine AW_iload_n dX6_isA_10 rfl rfl ?_
    refine AW_iconst (x := 1) dX6_isA_11 (by decide) ?_
    refine AW_icmp_ne (tgt := 25) dX6_isA_12 (by decide) (fun c => ?_) (fun c => ?_)
    · replace H := H.1 c
      refine AW_iload_n dX6_isA_25 rfl rfl ?_
      refine AW_iconst (x := 2) dX6_isA_26 (by decide) ?_
      refine AW_icmp_ne (tgt := 44) dX6_isA_27 (by decide) (fun c => ?_) (fun c => ?_)
      · replace H := H.1 c
        refine AW_iconst (x := 0) dX6_isA_44 (by decide) ?_
        exact AW_rI dX6_isA_45 rfl (by decide) H
      · replace H := H.2 c
        refine AW_aload_n dX6_isA_30 rfl rfl ?_
        refine AW_getR dX6_isA_31 (bI_200 B) fl_X6_31 (bR_200_11 B) ?_
        refine AW_iload_n dX6_isA_34 rfl rfl ?_
        have hi2 := H.1
        replace H := H.2
        refine AW_iald dX6_isA_35 (bI_211 B) hi2 ?_
        refine AW_iconst (x := 5) dX6_isA_36 (by decide) ?_
        refine AW_icmp_ne (tgt := 44) dX6_isA_37 (by decide) (fun c => ?_) (fun c => ?_)
        · replace H := H.1 c
          refine AW_iconst (x := 0) dX6_isA_44 (by decide) ?_
          exact AW_rI dX6_isA_45 rfl (by decide) H
        · replace H := H.2 c
          refine AW_iconst (x := 1) dX6_isA_40 (by decide) ?_
          refine AW_goto (tgt := 45) dX6_isA_41 (by decide) ?_
          exact AW_rI dX6_isA_45 rfl (by decide) H
    · replace H := H.2 c
      refine AW_aload_n dX6_isA_15 rfl rfl ?_
      refine AW_getR dX6_isA_16 (bI_200 B) fl_X6_31 (bR_200_11 B) ?_
      refine AW_iload_n dX6_isA_19 rfl rfl ?_
      have hi3 := H.1
      replace H := H.2
      refine AW_iald dX6_isA_20 (bI_211 B) hi3 ?_
      refine AW_iconst (x := 4) dX6_isA_21 (by decide) ?_
      refine AW_icmp_eq (tgt := 40) dX6_isA_22 (by decide) (fun c => ?_) (fun c => ?_)
      · replace H := H.1 c
        refine AW_iconst (x := 1) dX6_isA_40 (by decide) ?_
        refine AW_goto (tgt := 45) dX6_isA_41 (by decide) ?_
        exact AW_rI dX6_isA_45 rfl (by decide) H
      · replace H := H.2 c
        refine AW_iload_n dX6_isA_25 rfl rfl ?_
        refine AW_iconst (x := 2) dX6_isA_26 (by decide) ?_
        refine AW_icmp_ne (tgt := 44) dX6_isA_27 (by decide) (fun c => ?_) (fun c => ?_)
        · replace H := H.1 c
          refine AW_iconst (x := 0) dX6_isA_44 (by decide) ?_
          exact AW_rI dX6_isA_45 rfl (by decide) H
        · replace H := H.2 c
          refine AW_aload_n dX6_isA_30 rfl rfl ?_
          refine AW_getR dX6_isA_31 (bI_200 B) fl_X6_31 (bR_200_11 B) ?_
          refine AW_iload_n dX6_isA_34 rfl rfl ?_
          have hi4 := H.1
          replace H := H.2
          refine AW_iald dX6_isA_35 (bI_211 B) hi4 ?_
          refine AW_iconst (x := 5) dX6_isA_36 (by decide) ?_
          refine AW_icmp_ne (tgt := 44) dX6_isA_37 (by decide) (fun c => ?_) (fun c => ?_)
          · replace H := H.1 c
            refine AW_iconst (x := 0) dX6_isA_44 (by decide) ?_
            exact AW_rI dX6_isA_45 rfl (by decide) H
          · replace H := H.2 c
            refine AW_iconst (x := 1) dX6_isA_40 (by decide) ?_
            refine AW_goto (tgt := 45) dX6_isA_41 (by decide) ?_
            exact AW_rI dX6_isA_45 rfl (by decide) H
set_option maxRecDepth 100000 in
set_option maxHeartbeats 4000000 in
theorem vc_X6_spot {G : xG} {d : Nat} {z : xZ} {v : xS} {Q : Int32 → xS → Prop} (B : Base z) {xa : Int32} 
    (H : (oX6_isSpot G d [(.ref 200), (.int xa)] z v (fun r2 v1 => ((r2 = 0 → Q (-1) v1) ∧ (¬ r2 = 0 → (vp_in xa 10 ∧ (oX6_ask G d [(.ref 200), (.int (v1.1 210 xa.toNatClampNeg)), (.int (((v1.1 200 15) >>> (xa &&& 31)) &&& 1))] z v1 (fun r5 v4 => Q r5 v4)))))))) :
    oX6_spot G (d + 1) [(.ref 200), (.int xa)] z v Q := by
  refine Ok_of (own := RX6) (by decide) rfl (Nat.le_of_ble_eq_true rfl) ?_
  show AW G (d + 1) 0 0 yX6_spot cX6_spot 2 (some .int) RX6 0 0 0 [some (.ref 200), some (.int xa)] [] z v _
  refine AW_aload_n dX6_spot_0 rfl rfl ?_
  refine AW_iload_n dX6_spot_1 rfl rfl ?_
  refine AW_vI (as := [(.int xa)]) (st := []) dX6_spot_2 (bI_200 B) (by decide) rfl mv_X6_isSpot mi_X6_isSpot ml_X6_163 (Nat.le_of_ble_eq_true rfl) rfl (Nat.le_refl 0) (Nat.le_refl 0) H (fun r2 v1 H => ?_)
  refine AW_if_eq (tgt := 29) dX6_spot_5 (by decide) (fun c => ?_) (fun c => ?_)
  · replace H := H.1 c
    refine AW_iconst (x := (-1)) dX6_spot_29 (by decide) ?_
    exact AW_rI dX6_spot_30 rfl rfl H
  · replace H := H.2 c
    refine AW_aload_n dX6_spot_8 rfl rfl ?_
    refine AW_aload_n dX6_spot_9 rfl rfl ?_
    refine AW_getR dX6_spot_10 (bI_200 B) fl_X6_28 (bR_200_10 B) ?_
    refine AW_iload_n dX6_spot_13 rfl rfl ?_
    have hi3 := H.1
    replace H := H.2
    refine AW_iald dX6_spot_14 (bI_210 B) hi3 ?_
    refine AW_aload_n dX6_spot_15 rfl rfl ?_
    refine AW_getI dX6_spot_16 (bI_200 B) fl_X6_157 ?_
    refine AW_iload_n dX6_spot_19 rfl rfl ?_
    refine AW_ishr dX6_spot_20 ?_
    refine AW_iconst (x := 1) dX6_spot_21 (by decide) ?_
    refine AW_iand dX6_spot_22 ?_
    refine AW_vI (as := [(.int (v1.1 210 xa.toNatClampNeg)), (.int (((v1.1 200 15) >>> (xa &&& 31)) &&& 1))]) (st := []) dX6_spot_23 (bI_200 B) (by decide) rfl mv_X6_ask mi_X6_ask ml_X6_118 (Nat.le_of_ble_eq_true rfl) rfl (Nat.le_refl 0) (Nat.le_refl 0) H (fun r5 v4 H => ?_)
    refine AW_goto (tgt := 30) dX6_spot_26 (by decide) ?_
    exact AW_rI dX6_spot_30 rfl rfl H
set_option maxRecDepth 100000 in
set_option maxHeartbeats 4000000 in
theorem vc_X6_reachOf {G : xG} {d : Nat} {z : xZ} {v : xS} {Q : Int32 → xS → Prop} (B : Base z) {xa : Int32} 
    (H : (vp_in xa 3 ∧ ((¬ (v.1 211 xa.toNatClampNeg) = 4 → (vp_in xa 3 ∧ Q (v.1 213 xa.toNatClampNeg) v)) ∧ ((v.1 211 xa.toNatClampNeg) = 4 → (vp_in xa 3 ∧ Q (2 * (v.1 213 xa.toNatClampNeg)) v))))) :
    oX6_reachOf G (d + 1) [(.ref 200), (.int xa)] z v Q := by
  refine Ok_of (own := RX6) (by decide) rfl (Nat.le_of_ble_eq_true rfl) ?_
  show AW G (d + 1) 0 0 yX6_reachOf cX6_reachOf 2 (some .int) RX6 0 0 0 [some (.ref 200), some (.int xa)] [] z v _
  refine AW_aload_n dX6_reachOf_0 rfl rfl ?_
  refine AW_getR dX6_reachOf_1 (bI_200 B) fl_X6_31 (bR_200_11 B) ?_
  refine AW_iload_n dX6_reachOf_4 rfl rfl ?_
  have hi1 := H.1
  replace H := H.2
  refine AW_iald dX6_reachOf_5 (bI_211 B) hi1 ?_
  refine AW_iconst (x := 4) dX6_reachOf_6 (by decide) ?_
  refine AW_icmp_ne (tgt := 21) dX6_reachOf_7 (by decide) (fun c => ?_) (fun c => ?_)
  · replace H := H.1 c
    refine AW_aload_n dX6_reachOf_21 rfl rfl ?_
    refine AW_getR dX6_reachOf_22 (bI_200 B) fl_X6_37 (bR_200_13 B) ?_
    refine AW_iload_n dX6_reachOf_25 rfl rfl ?_
    have hi2 := H.1
    replace H := H.2
    refine AW_iald dX6_reachOf_26 (bI_213 B) hi2 ?_
    exact AW_rI dX6_reachOf_27 rfl rfl H
  · replace H := H.2 c
    refine AW_iconst (x := 2) dX6_reachOf_10 (by decide) ?_
    refine AW_aload_n dX6_reachOf_11 rfl rfl ?_
    refine AW_getR dX6_reachOf_12 (bI_200 B) fl_X6_37 (bR_200_13 B) ?_
    refine AW_iload_n dX6_reachOf_15 rfl rfl ?_
    have hi3 := H.1
    replace H := H.2
    refine AW_iald dX6_reachOf_16 (bI_213 B) hi3 ?_
    refine AW_imul dX6_reachOf_17 ?_
    refine AW_goto (tgt := 27) dX6_reachOf_18 (by decide) ?_
    exact AW_rI dX6_reachOf_27 rfl rfl H
set_option maxRecDepth 100000 in
set_option maxHeartbeats 4000000 in
theorem vc_X6_size {G : xG} {d : Nat} {z : xZ} {v : xS} {Q : Int32 → xS → Prop} (B : Base z) {xa : Int32} 
    (H : ((0 ≤ xa → Q xa v) ∧ (¬ 0 ≤ xa → Q (-xa) v))) :
    oX6_size G (d + 1) [(.int xa)] z v Q := by
  refine Ok_of (own := RX6) (by decide) rfl (Nat.le_of_ble_eq_true rfl) ?_
  show AW G (d + 1) 0 0 yX6_size cX6_size 1 (some .int) RX6 0 0 0 [some (.int xa)] [] z v _
  refine AW_iload_n dX6_size_0 rfl rfl ?_
  refine AW_if_ge (tgt := 9) dX6_size_1 (by decide) (fun c => ?_) (fun c => ?_)
  · replace H := H.1 c
    refine AW_iload_n dX6_size_9 rfl rfl ?_
    exact AW_rI dX6_size_10 rfl rfl H
  · replace H := H.2 c
    refine AW_iload_n dX6_size_4 rfl rfl ?_
    refine AW_ineg dX6_size_5 ?_
    refine AW_goto (tgt := 10) dX6_size_6 (by decide) ?_
    exact AW_rI dX6_size_10 rfl rfl H
set_option maxRecDepth 100000 in
set_option maxHeartbeats 4000000 in
theorem vc_X6_isHeard {G : xG} {d : Nat} {z : xZ} {v : xS} {Q : Int32 → xS → Prop} (B : Base z) {xa : Int32} {xb : Int32} 
    (H : (vp_in xa 3 ∧ (oX6_size G d [(.int (xb - (v.1 212 xa.toNatClampNeg)))] z v (fun r3 v2 => ((r3 ≤ 0 → Q 0 v2) ∧ (¬ r3 ≤ 0 → (oX6_reachOf G d [(.ref 200), (.int xa)] z v2 (fun r5 v4 => ((r5 < r3 → Q 0 v4) ∧ (¬ r5 < r3 → Q 1 v4)))))))))) :
    oX6_isHeard G (d + 1) [(.ref 200), (.int xa), (.int xb)] z v Q := by
  refine Ok_of (own := RX6) (by decide) rfl (Nat.le_of_ble_eq_true rfl) ?_
  show AW G (d + 1) 0 0 yX6_isHeard cX6_isHeard 4 (some .boolean) RX6 0 0 0 [some (.ref 200), some (.int xa), some (.int xb), none] [] z v _
  refine AW_iload_n dX6_isHeard_0 rfl rfl ?_
  refine AW_aload_n dX6_isHeard_1 rfl rfl ?_
  refine AW_getR dX6_isHeard_2 (bI_200 B) fl_X6_34 (bR_200_12 B) ?_
  refine AW_iload_n dX6_isHeard_5 rfl rfl ?_
  have hi1 := H.1
  replace H := H.2
  refine AW_iald dX6_isHeard_6 (bI_212 B) hi1 ?_
  refine AW_isub dX6_isHeard_7 ?_
  refine AW_sI (as := [(.int (xb - (v.1 212 xa.toNatClampNeg)))]) (st := []) dX6_isHeard_8 mv_X6_size ms_X6_size ml_X6_166 (Nat.le_of_ble_eq_true rfl) rfl (Nat.le_refl 0) (Nat.le_refl 0) H (fun r3 v2 H => ?_)
  refine AW_istore_n (L' := [some (.ref 200), some (.int xa), some (.int xb), some (.int r3)]) dX6_isHeard_11 rfl (by decide) rfl ?_
  refine AW_iload_n dX6_isHeard_12 rfl rfl ?_
  refine AW_if_le (tgt := 29) dX6_isHeard_13 (by decide) (fun c => ?_) (fun c => ?_)
  · replace H := H.1 c
    refine AW_iconst (x := 0) dX6_isHeard_29 (by decide) ?_
    exact AW_rI dX6_isHeard_30 rfl (by decide) H
  · replace H := H.2 c
    refine AW_iload_n dX6_isHeard_16 rfl rfl ?_
    refine AW_aload_n dX6_isHeard_17 rfl rfl ?_
    refine AW_iload_n dX6_isHeard_18 rfl rfl ?_
    refine AW_vI (as := [(.int xa)]) (st := [(.int r3)]) dX6_isHeard_19 (bI_200 B) (by decide) rfl mv_X6_reachOf mi_X6_reachOf ml_X6_169 (Nat.le_of_ble_eq_true rfl) rfl (Nat.le_refl 0) (Nat.le_refl 0) H (fun r5 v4 H => ?_)
    refine AW_icmp_gt (tgt := 29) dX6_isHeard_22 (by decide) (fun c => ?_) (fun c => ?_)
    · replace H := H.1 c
      refine AW_iconst (x := 0) dX6_isHeard_29 (by decide) ?_
      exact AW_rI dX6_isHeard_30 rfl (by decide) H
    · replace H := H.2 c
      refine AW_iconst (x := 1) dX6_isHeard_25 (by decide) ?_
      refine AW_goto (tgt := 30) dX6_isHeard_26 (by decide) ?_
      exact AW_rI dX6_isHeard_30 rfl (by decide) H
set_option maxRecDepth 100000 in
set_option maxHeartbeats 4000000 in
theorem vc_X6_heardOf {G : xG} {d : Nat} {z : xZ} {v : xS} {Q : Int32 → xS → Prop} (B : Base z) {xa : Int32} 
    (H : aX6_heardOf G (d + 1) 4 [some (.ref 200), some (.int xa), some (.int 0), some (.int 0)] [] z v Q) :
    oX6_heardOf G (d + 1) [(.ref 200), (.int xa)] z v Q := by
  refine Ok_of (own := RX6) (by decide) rfl (Nat.le_of_ble_eq_true rfl) ?_
  show AW G (d + 1) 0 0 yX6_heardOf cX6_heardOf 4 (some .int) RX6 0 0 0 [some (.ref 200), some (.int xa), none, none] [] z v _
  refine AW_iconst (x := 0) dX6_heardOf_0 (by decide) ?_
  refine AW_istore_n (L' := [some (.ref 200), some (.int xa), some (.int 0), none]) dX6_heardOf_1 rfl (by decide) rfl ?_
  refine AW_iconst (x := 0) dX6_heardOf_2 (by decide) ?_
  refine AW_istore_n (L' := [some (.ref 200), some (.int xa), some (.int 0), some (.int 0)]) dX6_heardOf_3 rfl (by decide) rfl ?_
  exact H
set_option maxRecDepth 100000 in
set_option maxHeartbeats 4000000 in
theorem vc_X6_heardOf_4 {G : xG} {d : Nat} {z : xZ} {v : xS} {Q : Int32 → xS → Prop} (B : Base z)  {l1 : Int32} {l2 : Int32} {l3 : Int32} 
    (H : (((v.1 200 8) ≤ l3 → Q l2 v) ∧ (¬ (v.1 200 8) ≤ l3 → (oX6_isHeard G d [(.ref 200), (.int l1), (.int l3)] z v (fun r2 v1 => ((r2 = 0 → aX6_heardOf G (d + 1) 4 [some (.ref 200), some (.int l1), some (.int (l2 ||| 0)), some (.int (l3 + 1))] [] z v1 Q) ∧ (¬ r2 = 0 → aX6_heardOf G (d + 1) 4 [some (.ref 200), some (.int l1), some (.int (l2 ||| (1 <<< (l3 &&& 31)))), some (.int (l3 + 1))] [] z v1 Q))))))) :
    aX6_heardOf G (d + 1) 4 [some (.ref 200), some (.int l1), some (.int l2), some (.int l3)] [] z v Q := by
  refine AW_iload_n dX6_heardOf_4 rfl rfl ?_
  refine AW_aload_n dX6_heardOf_5 rfl rfl ?_
  refine AW_getI dX6_heardOf_6 (bI_200 B) fl_X6_151 ?_
  refine AW_icmp_ge (tgt := 37) dX6_heardOf_9 (by decide) (fun c => ?_) (fun c => ?_)
  · replace H := H.1 c
    refine AW_iload_n dX6_heardOf_37 rfl rfl ?_
    exact AW_rI dX6_heardOf_38 rfl rfl H
  · replace H := H.2 c
    refine AW_iload_n dX6_heardOf_12 rfl rfl ?_
    refine AW_aload_n dX6_heardOf_13 rfl rfl ?_
    refine AW_iload_n dX6_heardOf_14 rfl rfl ?_
    refine AW_iload_n dX6_heardOf_15 rfl rfl ?_
    refine AW_vI (as := [(.int l1), (.int l3)]) (st := [(.int l2)]) dX6_heardOf_16 (bI_200 B) (by decide) rfl mv_X6_isHeard mi_X6_isHeard ml_X6_172 (Nat.le_of_ble_eq_true rfl) rfl (Nat.le_refl 0) (Nat.le_refl 0) H (fun r2 v1 H => ?_)
    refine AW_if_eq (tgt := 28) dX6_heardOf_19 (by decide) (fun c => ?_) (fun c => ?_)
    · replace H := H.1 c
      refine AW_iconst (x := 0) dX6_heardOf_28 (by decide) ?_
      refine AW_ior dX6_heardOf_29 ?_
      refine AW_istore_n (L' := [some (.ref 200), some (.int l1), some (.int (l2 ||| 0)), some (.int l3)]) dX6_heardOf_30 rfl (by decide) rfl ?_
      refine AW_iinc (x' := l3 + 1) (L' := [some (.ref 200), some (.int l1), some (.int (l2 ||| 0)), some (.int (l3 + 1))]) dX6_heardOf_31 rfl rfl (by decide) rfl ?_
      refine AW_goto (tgt := 4) dX6_heardOf_34 (by decide) ?_
      exact H
    · replace H := H.2 c
      refine AW_iconst (x := 1) dX6_heardOf_22 (by decide) ?_
      refine AW_iload_n dX6_heardOf_23 rfl rfl ?_
      refine AW_ishl dX6_heardOf_24 ?_
      refine AW_goto (tgt := 29) dX6_heardOf_25 (by decide) ?_
      refine AW_ior dX6_heardOf_29 ?_
      refine AW_istore_n (L' := [some (.ref 200), some (.int l1), some (.int (l2 ||| (1 <<< (l3 &&& 31)))), some (.int l3)]) dX6_heardOf_30 rfl (by decide) rfl ?_
      refine AW_iinc (x' := l3 + 1) (L' := [some (.ref 200), some (.int l1), some (.int (l2 ||| (1 <<< (l3 &&& 31)))), some (.int (l3 + 1))]) dX6_heardOf_31 rfl rfl (by decide) rfl ?_
      refine AW_goto (tgt := 4) dX6_heardOf_34 (by decide) ?_
      exact H
set_option maxRecDepth 100000 in
set_option maxHeartbeats 4000000 in
theorem vc_X6_bandOf {G : xG} {d : Nat} {z : xZ} {v : xS} {Q : Int32 → xS → Prop} (B : Base z) {xa : Int32} {xb : Int32} 
    (H : ((¬ xb = 0 → ((¬ xb = 1 → ((¬ xb = 2 → ((¬ xb = 3 → (vp_in xa 3 ∧ Q (v.1 214 xa.toNatClampNeg) v)) ∧ (xb = 3 → (oX6_heardOf G d [(.ref 200), (.int xa)] z v (fun r3 v2 => Q r3 v2))))) ∧ (xb = 2 → (vp_in xa 3 ∧ Q (v.1 213 xa.toNatClampNeg) v)))) ∧ (xb = 1 → (vp_in xa 3 ∧ Q (v.1 212 xa.toNatClampNeg) v)))) ∧ (xb = 0 → (vp_in xa 3 ∧ Q (v.1 211 xa.toNatClampNeg) v)))) :
    oX6_bandOf G (d + 1) [(.ref 200), (.int xa), (.int xb)] z v Q := by
  refine Ok_of (own := RX6) (by decide) rfl (Nat.le_of_ble_eq_true rfl) ?_
  show AW G (d + 1) 0 0 yX6_bandOf cX6_bandOf 3 (some .int) RX6 0 0 0 [some (.ref 200), some (.int xa), some (.int xb)] [] z v _
  refine AW_iload_n dX6_bandOf_0 rfl rfl ?_
  refine AW_if_ne (tgt := 13) dX6_bandOf_1 (by decide) (fun c => ?_) (fun c => ?_)
  · replace H := H.1 c
    refine AW_iload_n dX6_bandOf_13 rfl rfl ?_
    refine AW_iconst (x := 1) dX6_bandOf_14 (by decide) ?_
    refine AW_icmp_ne (tgt := 27) dX6_bandOf_15 (by decide) (fun c => ?_) (fun c => ?_)
    · replace H := H.1 c
      refine AW_iload_n dX6_bandOf_27 rfl rfl ?_
      refine AW_iconst (x := 2) dX6_bandOf_28 (by decide) ?_
      refine AW_icmp_ne (tgt := 41) dX6_bandOf_29 (by decide) (fun c => ?_) (fun c => ?_)
      · replace H := H.1 c
        refine AW_iload_n dX6_bandOf_41 rfl rfl ?_
        refine AW_iconst (x := 3) dX6_bandOf_42 (by decide) ?_
        refine AW_icmp_ne (tgt := 54) dX6_bandOf_43 (by decide) (fun c => ?_) (fun c => ?_)
        · replace H := H.1 c
          refine AW_aload_n dX6_bandOf_54 rfl rfl ?_
          refine AW_getR dX6_bandOf_55 (bI_200 B) fl_X6_40 (bR_200_14 B) ?_
          refine AW_iload_n dX6_bandOf_58 rfl rfl ?_
          have hi1 := H.1
          replace H := H.2
          refine AW_iald dX6_bandOf_59 (bI_214 B) hi1 ?_
          exact AW_rI dX6_bandOf_60 rfl rfl H
        · replace H := H.2 c
          refine AW_aload_n dX6_bandOf_46 rfl rfl ?_
          refine AW_iload_n dX6_bandOf_47 rfl rfl ?_
          refine AW_vI (as := [(.int xa)]) (st := []) dX6_bandOf_48 (bI_200 B) (by decide) rfl mv_X6_heardOf mi_X6_heardOf ml_X6_176 (Nat.le_of_ble_eq_true rfl) rfl (Nat.le_refl 0) (Nat.le_refl 0) H (fun r3 v2 H => ?_)
          refine AW_goto (tgt := 60) dX6_bandOf_51 (by decide) ?_
          exact AW_rI dX6_bandOf_60 rfl rfl H
      · replace H := H.2 c
        refine AW_aload_n dX6_bandOf_32 rfl rfl ?_
        refine AW_getR dX6_bandOf_33 (bI_200 B) fl_X6_37 (bR_200_13 B) ?_
        refine AW_iload_n dX6_bandOf_36 rfl rfl ?_
        have hi4 := H.1
        replace H := H.2
        refine AW_iald dX6_bandOf_37 (bI_213 B) hi4 ?_
        refine AW_goto (tgt := 60) dX6_bandOf_38 (by decide) ?_
        exact AW_rI dX6_bandOf_60 rfl rfl H
    · replace H := H.2 c
      refine AW_aload_n dX6_bandOf_18 rfl rfl ?_
      refine AW_getR dX6_bandOf_19 (bI_200 B) fl_X6_34 (bR_200_12 B) ?_
      refine AW_iload_n dX6_bandOf_22 rfl rfl ?_
      have hi5 := H.1
      replace H := H.2
      refine AW_iald dX6_bandOf_23 (bI_212 B) hi5 ?_
      refine AW_goto (tgt := 60) dX6_bandOf_24 (by decide) ?_
      exact AW_rI dX6_bandOf_60 rfl rfl H
  · replace H := H.2 c
    refine AW_aload_n dX6_bandOf_4 rfl rfl ?_
    refine AW_getR dX6_bandOf_5 (bI_200 B) fl_X6_31 (bR_200_11 B) ?_
    refine AW_iload_n dX6_bandOf_8 rfl rfl ?_
    have hi6 := H.1
    replace H := H.2
    refine AW_iald dX6_bandOf_9 (bI_211 B) hi6 ?_
    refine AW_goto (tgt := 60) dX6_bandOf_10 (by decide) ?_
    exact AW_rI dX6_bandOf_60 rfl rfl H
set_option maxRecDepth 100000 in
set_option maxHeartbeats 4000000 in
theorem vc_X6_band {G : xG} {d : Nat} {z : xZ} {v : xS} {Q : Int32 → xS → Prop} (B : Base z) {xa : Int32} {xb : Int32} 
    (H : (oX6_isBand G d [(.ref 200), (.int xa)] z v (fun r2 v1 => ((r2 = 0 → Q (-1) v1) ∧ (¬ r2 = 0 → (oX6_in G d [(.int xb), (.int 0), (.int 4)] z v1 (fun r4 v3 => ((r4 = 0 → Q (-1) v3) ∧ (¬ r4 = 0 → (oX6_bandOf G d [(.ref 200), (.int xa), (.int xb)] z v3 (fun r6 v5 => (oX6_ask G d [(.ref 200), (.int r6), (.int 1)] z v5 (fun r8 v7 => Q r8 v7))))))))))))) :
    oX6_band G (d + 1) [(.ref 200), (.int xa), (.int xb)] z v Q := by
  refine Ok_of (own := RX6) (by decide) rfl (Nat.le_of_ble_eq_true rfl) ?_
  show AW G (d + 1) 0 0 yX6_band cX6_band 3 (some .int) RX6 0 0 0 [some (.ref 200), some (.int xa), some (.int xb)] [] z v _
  refine AW_aload_n dX6_band_0 rfl rfl ?_
  refine AW_iload_n dX6_band_1 rfl rfl ?_
  refine AW_vI (as := [(.int xa)]) (st := []) dX6_band_2 (bI_200 B) (by decide) rfl mv_X6_isBand mi_X6_isBand ml_X6_179 (Nat.le_of_ble_eq_true rfl) rfl (Nat.le_refl 0) (Nat.le_refl 0) H (fun r2 v1 H => ?_)
  refine AW_if_eq (tgt := 31) dX6_band_5 (by decide) (fun c => ?_) (fun c => ?_)
  · replace H := H.1 c
    refine AW_iconst (x := (-1)) dX6_band_31 (by decide) ?_
    exact AW_rI dX6_band_32 rfl rfl H
  · replace H := H.2 c
    refine AW_iload_n dX6_band_8 rfl rfl ?_
    refine AW_iconst (x := 0) dX6_band_9 (by decide) ?_
    refine AW_iconst (x := 4) dX6_band_10 (by decide) ?_
    refine AW_sI (as := [(.int xb), (.int 0), (.int 4)]) (st := []) dX6_band_11 mv_X6_in ms_X6_in ml_X6_92 (Nat.le_of_ble_eq_true rfl) rfl (Nat.le_refl 0) (Nat.le_refl 0) H (fun r4 v3 H => ?_)
    refine AW_if_eq (tgt := 31) dX6_band_14 (by decide) (fun c => ?_) (fun c => ?_)
    · replace H := H.1 c
      refine AW_iconst (x := (-1)) dX6_band_31 (by decide) ?_
      exact AW_rI dX6_band_32 rfl rfl H
    · replace H := H.2 c
      refine AW_aload_n dX6_band_17 rfl rfl ?_
      refine AW_aload_n dX6_band_18 rfl rfl ?_
      refine AW_iload_n dX6_band_19 rfl rfl ?_
      refine AW_iload_n dX6_band_20 rfl rfl ?_
      refine AW_vI (as := [(.int xa), (.int xb)]) (st := [(.ref 200)]) dX6_band_21 (bI_200 B) (by decide) rfl mv_X6_bandOf mi_X6_bandOf ml_X6_182 (Nat.le_of_ble_eq_true rfl) rfl (Nat.le_refl 0) (Nat.le_refl 0) H (fun r6 v5 H => ?_)
      refine AW_iconst (x := 1) dX6_band_24 (by decide) ?_
      refine AW_vI (as := [(.int r6), (.int 1)]) (st := []) dX6_band_25 (bI_200 B) (by decide) rfl mv_X6_ask mi_X6_ask ml_X6_118 (Nat.le_of_ble_eq_true rfl) rfl (Nat.le_refl 0) (Nat.le_refl 0) H (fun r8 v7 H => ?_)
      refine AW_goto (tgt := 32) dX6_band_28 (by decide) ?_
      exact AW_rI dX6_band_32 rfl rfl H
set_option maxRecDepth 100000 in
set_option maxHeartbeats 4000000 in
theorem vc_X6_inchesOf {G : xG} {d : Nat} {z : xZ} {v : xS} {Q : Int32 → xS → Prop} (B : Base z) {xa : Int32} {xb : Int32} 
    (H : (vp_in xb 10 ∧ (oX6_isHeard G d [(.ref 200), (.int xa), (.int xb)] z v (fun r3 v2 => ((r3 = 0 → Q 0 v2) ∧ (¬ r3 = 0 → (oX6_has G d [(.int (v2.1 200 15)), (.int xb)] z v2 (fun r5 v4 => ((¬ r5 = 0 → Q 0 v4) ∧ (r5 = 0 → (vp_in xa 3 ∧ ((¬ (v4.1 211 xa.toNatClampNeg) = 3 → (oX6_isA G d [(.ref 200), (.int xa), (.int 2)] z v4 (fun r8 v7 => ((r8 = 0 → (oX6_isA G d [(.ref 200), (.int xa), (.int 1)] z v7 (fun r10 v9 => ((r10 = 0 → ((1 ≤ (v.1 210 xb.toNatClampNeg) → Q 1 v9) ∧ (¬ 1 ≤ (v.1 210 xb.toNatClampNeg) → Q (v.1 210 xb.toNatClampNeg) v9))) ∧ (¬ r10 = 0 → ((2 ≤ (v.1 210 xb.toNatClampNeg) → Q 2 v9) ∧ (¬ 2 ≤ (v.1 210 xb.toNatClampNeg) → Q (v.1 210 xb.toNatClampNeg) v9))))))) ∧ (¬ r8 = 0 → ((2 ≤ (v.1 210 xb.toNatClampNeg) → (oX6_isA G d [(.ref 200), (.int xa), (.int 1)] z v7 (fun r12 v11 => ((r12 = 0 → ((1 ≤ (v.1 210 xb.toNatClampNeg) → Q 1 v11) ∧ (¬ 1 ≤ (v.1 210 xb.toNatClampNeg) → Q (v.1 210 xb.toNatClampNeg) v11))) ∧ (¬ r12 = 0 → ((2 ≤ (v.1 210 xb.toNatClampNeg) → Q 2 v11) ∧ (¬ 2 ≤ (v.1 210 xb.toNatClampNeg) → Q (v.1 210 xb.toNatClampNeg) v11))))))) ∧ (¬ 2 ≤ (v.1 210 xb.toNatClampNeg) → Q 0 v7))))))) ∧ ((v4.1 211 xa.toNatClampNeg) = 3 → (vp_in xa 3 ∧ ((xb < (v4.1 212 xa.toNatClampNeg) → Q 0 v4) ∧ (¬ xb < (v4.1 212 xa.toNatClampNeg) → (oX6_isA G d [(.ref 200), (.int xa), (.int 2)] z v4 (fun r15 v14 => ((r15 = 0 → (oX6_isA G d [(.ref 200), (.int xa), (.int 1)] z v14 (fun r17 v16 => ((r17 = 0 → ((1 ≤ (v.1 210 xb.toNatClampNeg) → Q 1 v16) ∧ (¬ 1 ≤ (v.1 210 xb.toNatClampNeg) → Q (v.1 210 xb.toNatClampNeg) v16))) ∧ (¬ r17 = 0 → ((2 ≤ (v.1 210 xb.toNatClampNeg) → Q 2 v16) ∧ (¬ 2 ≤ (v.1 210 xb.toNatClampNeg) → Q (v.1 210 xb.toNatClampNeg) v16))))))) ∧ (¬ r15 = 0 → ((2 ≤ (v.1 210 xb.toNatClampNeg) → (oX6_isA G d [(.ref 200), (.int xa), (.int 1)] z v14 (fun r19 v18 => ((r19 = 0 → ((1 ≤ (v.1 210 xb.toNatClampNeg) → Q 1 v18) ∧ (¬ 1 ≤ (v.1 210 xb.toNatClampNeg) → Q (v.1 210 xb.toNatClampNeg) v18))) ∧ (¬ r19 = 0 → ((2 ≤ (v.1 210 xb.toNatClampNeg) → Q 2 v18) ∧ (¬ 2 ≤ (v.1 210 xb.toNatClampNeg) → Q (v.1 210 xb.toNatClampNeg) v18))))))) ∧ (¬ 2 ≤ (v.1 210 xb.toNatClampNeg) → Q 0 v14)))))))))))))))))))))) :
    oX6_inchesOf G (d + 1) [(.ref 200), (.int xa), (.int xb)] z v Q := by
  refine Ok_of (own := RX6) (by decide) rfl (Nat.le_of_ble_eq_true rfl) ?_
  show AW G (d + 1) 0 0 yX6_inchesOf cX6_inchesOf 5 (some .int) RX6 0 0 0 [some (.ref 200), some (.int xa), some (.int xb), none, none] [] z v _
  refine AW_aload_n dX6_inchesOf_0 rfl rfl ?_
  refine AW_getR dX6_inchesOf_1 (bI_200 B) fl_X6_28 (bR_200_10 B) ?_
  refine AW_iload_n dX6_inchesOf_4 rfl rfl ?_
  have hi1 := H.1
  replace H := H.2
  refine AW_iald dX6_inchesOf_5 (bI_210 B) hi1 ?_
  refine AW_istore_n (L' := [some (.ref 200), some (.int xa), some (.int xb), some (.int (v.1 210 xb.toNatClampNeg)), none]) dX6_inchesOf_6 rfl (by decide) rfl ?_
  refine AW_aload_n dX6_inchesOf_7 rfl rfl ?_
  refine AW_iload_n dX6_inchesOf_8 rfl rfl ?_
  refine AW_iload_n dX6_inchesOf_9 rfl rfl ?_
  refine AW_vI (as := [(.int xa), (.int xb)]) (st := []) dX6_inchesOf_10 (bI_200 B) (by decide) rfl mv_X6_isHeard mi_X6_isHeard ml_X6_172 (Nat.le_of_ble_eq_true rfl) rfl (Nat.le_refl 0) (Nat.le_refl 0) H (fun r3 v2 H => ?_)
  refine AW_if_eq (tgt := 61) dX6_inchesOf_13 (by decide) (fun c => ?_) (fun c => ?_)
  · replace H := H.1 c
    refine AW_iconst (x := 0) dX6_inchesOf_61 (by decide) ?_
    exact AW_rI dX6_inchesOf_62 rfl rfl H
  · replace H := H.2 c
    refine AW_aload_n dX6_inchesOf_16 rfl rfl ?_
    refine AW_getI dX6_inchesOf_17 (bI_200 B) fl_X6_157 ?_
    refine AW_iload_n dX6_inchesOf_20 rfl rfl ?_
    refine AW_sI (as := [(.int (v2.1 200 15)), (.int xb)]) (st := []) dX6_inchesOf_21 mv_X6_has ms_X6_has ml_X6_185 (Nat.le_of_ble_eq_true rfl) rfl (Nat.le_refl 0) (Nat.le_refl 0) H (fun r5 v4 H => ?_)
    refine AW_if_ne (tgt := 61) dX6_inchesOf_24 (by decide) (fun c => ?_) (fun c => ?_)
    · replace H := H.1 c
      refine AW_iconst (x := 0) dX6_inchesOf_61 (by decide) ?_
      exact AW_rI dX6_inchesOf_62 rfl rfl H
    · replace H := H.2 c
      refine AW_aload_n dX6_inchesOf_27 rfl rfl ?_
      refine AW_getR dX6_inchesOf_28 (bI_200 B) fl_X6_31 (bR_200_11 B) ?_
      refine AW_iload_n dX6_inchesOf_31 rfl rfl ?_
      have hi6 := H.1
      replace H := H.2
      refine AW_iald dX6_inchesOf_32 (bI_211 B) hi6 ?_
      refine AW_iconst (x := 3) dX6_inchesOf_33 (by decide) ?_
      refine AW_icmp_ne (tgt := 47) dX6_inchesOf_34 (by decide) (fun c => ?_) (fun c => ?_)
      · replace H := H.1 c
        refine AW_aload_n dX6_inchesOf_47 rfl rfl ?_
        refine AW_iload_n dX6_inchesOf_48 rfl rfl ?_
        refine AW_iconst (x := 2) dX6_inchesOf_49 (by decide) ?_
        refine AW_vI (as := [(.int xa), (.int 2)]) (st := []) dX6_inchesOf_50 (bI_200 B) (by decide) rfl mv_X6_isA mi_X6_isA ml_X6_188 (Nat.le_of_ble_eq_true rfl) rfl (Nat.le_refl 0) (Nat.le_refl 0) H (fun r8 v7 H => ?_)
        refine AW_if_eq (tgt := 63) dX6_inchesOf_53 (by decide) (fun c => ?_) (fun c => ?_)
        · replace H := H.1 c
          refine AW_aload_n dX6_inchesOf_63 rfl rfl ?_
          refine AW_iload_n dX6_inchesOf_64 rfl rfl ?_
          refine AW_iconst (x := 1) dX6_inchesOf_65 (by decide) ?_
          refine AW_vI (as := [(.int xa), (.int 1)]) (st := []) dX6_inchesOf_66 (bI_200 B) (by decide) rfl mv_X6_isA mi_X6_isA ml_X6_188 (Nat.le_of_ble_eq_true rfl) rfl (Nat.le_refl 0) (Nat.le_refl 0) H (fun r10 v9 H => ?_)
          refine AW_if_eq (tgt := 76) dX6_inchesOf_69 (by decide) (fun c => ?_) (fun c => ?_)
          · replace H := H.1 c
            refine AW_iconst (x := 1) dX6_inchesOf_76 (by decide) ?_
            refine AW_istore (L' := [some (.ref 200), some (.int xa), some (.int xb), some (.int (v.1 210 xb.toNatClampNeg)), some (.int 1)]) dX6_inchesOf_77 (by decide) rfl ?_
            refine AW_iload_n dX6_inchesOf_79 rfl rfl ?_
            refine AW_iload dX6_inchesOf_80 rfl ?_
            refine AW_icmp_ge (tgt := 89) dX6_inchesOf_82 (by decide) (fun c => ?_) (fun c => ?_)
            · replace H := H.1 c
              refine AW_iload dX6_inchesOf_89 rfl ?_
              exact AW_rI dX6_inchesOf_91 rfl rfl H
            · replace H := H.2 c
              refine AW_iload_n dX6_inchesOf_85 rfl rfl ?_
              refine AW_goto (tgt := 91) dX6_inchesOf_86 (by decide) ?_
              exact AW_rI dX6_inchesOf_91 rfl rfl H
          · replace H := H.2 c
            refine AW_iconst (x := 2) dX6_inchesOf_72 (by decide) ?_
            refine AW_goto (tgt := 77) dX6_inchesOf_73 (by decide) ?_
            refine AW_istore (L' := [some (.ref 200), some (.int xa), some (.int xb), some (.int (v.1 210 xb.toNatClampNeg)), some (.int 2)]) dX6_inchesOf_77 (by decide) rfl ?_
            refine AW_iload_n dX6_inchesOf_79 rfl rfl ?_
            refine AW_iload dX6_inchesOf_80 rfl ?_
            refine AW_icmp_ge (tgt := 89) dX6_inchesOf_82 (by decide) (fun c => ?_) (fun c => ?_)
            · replace H := H.1 c
              refine AW_iload dX6_inchesOf_89 rfl ?_
              exact AW_rI dX6_inchesOf_91 rfl rfl H
            · replace H := H.2 c
              refine AW_iload_n dX6_inchesOf_85 rfl rfl ?_
              refine AW_goto (tgt := 91) dX6_inchesOf_86 (by decide) ?_
              exact AW_rI dX6_inchesOf_91 rfl rfl H
        · replace H := H.2 c
          refine AW_iload_n dX6_inchesOf_56 rfl rfl ?_
          refine AW_iconst (x := 2) dX6_inchesOf_57 (by decide) ?_
          refine AW_icmp_ge (tgt := 63) dX6_inchesOf_58 (by decide) (fun c => ?_) (fun c => ?_)
          · replace H := H.1 c
            refine AW_aload_n dX6_inchesOf_63 rfl rfl ?_
            refine AW_iload_n dX6_inchesOf_64 rfl rfl ?_
            refine AW_iconst (x := 1) dX6_inchesOf_65 (by decide) ?_
            refine AW_vI (as := [(.int xa), (.int 1)]) (st := []) dX6_inchesOf_66 (bI_200 B) (by decide) rfl mv_X6_isA mi_X6_isA ml_X6_188 (Nat.le_of_ble_eq_true rfl) rfl (Nat.le_refl 0) (Nat.le_refl 0) H (fun r12 v11 H => ?_)
            refine AW_if_eq (tgt := 76) dX6_inchesOf_69 (by decide) (fun c => ?_) (fun c => ?_)
            · replace H := H.1 c
              refine AW_iconst (x := 1) dX6_inchesOf_76 (by decide) ?_
              refine AW_istore (L' := [some (.ref 200), some (.int xa), some (.int xb), some (.int (v.1 210 xb.toNatClampNeg)), some (.int 1)]) dX6_inchesOf_77 (by decide) rfl ?_
              refine AW_iload_n dX6_inchesOf_79 rfl rfl ?_
              refine AW_iload dX6_inchesOf_80 rfl ?_
              refine AW_icmp_ge (tgt := 89) dX6_inchesOf_82 (by decide) (fun c => ?_) (fun c => ?_)
              · replace H := H.1 c
                refine AW_iload dX6_inchesOf_89 rfl ?_
                exact AW_rI dX6_inchesOf_91 rfl rfl H
              · replace H := H.2 c
                refine AW_iload_n dX6_inchesOf_85 rfl rfl ?_
                refine AW_goto (tgt := 91) dX6_inchesOf_86 (by decide) ?_
                exact AW_rI dX6_inchesOf_91 rfl rfl H
            · replace H := H.2 c
              refine AW_iconst (x := 2) dX6_inchesOf_72 (by decide) ?_
              refine AW_goto (tgt := 77) dX6_inchesOf_73 (by decide) ?_
              refine AW_istore (L' := [some (.ref 200), some (.int xa), some (.int xb), some (.int (v.1 210 xb.toNatClampNeg)), some (.int 2)]) dX6_inchesOf_77 (by decide) rfl ?_
              refine AW_iload_n dX6_inchesOf_79 rfl rfl ?_
              refine AW_iload dX6_inchesOf_80 rfl ?_
              refine AW_icmp_ge (tgt := 89) dX6_inchesOf_82 (by decide) (fun c => ?_) (fun c => ?_)
              · replace H := H.1 c
                refine AW_iload dX6_inchesOf_89 rfl ?_
                exact AW_rI dX6_inchesOf_91 rfl rfl H
              · replace H := H.2 c
                refine AW_iload_n dX6_inchesOf_85 rfl rfl ?_
                refine AW_goto (tgt := 91) dX6_inchesOf_86 (by decide) ?_
                exact AW_rI dX6_inchesOf_91 rfl rfl H
          · replace H := H.2 c
            refine AW_iconst (x := 0) dX6_inchesOf_61 (by decide) ?_
            exact AW_rI dX6_inchesOf_62 rfl rfl H
      · replace H := H.2 c
        refine AW_iload_n dX6_inchesOf_37 rfl rfl ?_
        refine AW_aload_n dX6_inchesOf_38 rfl rfl ?_
        refine AW_getR dX6_inchesOf_39 (bI_200 B) fl_X6_34 (bR_200_12 B) ?_
        refine AW_iload_n dX6_inchesOf_42 rfl rfl ?_
        have hi13 := H.1
        replace H := H.2
        refine AW_iald dX6_inchesOf_43 (bI_212 B) hi13 ?_
        refine AW_icmp_lt (tgt := 61) dX6_inchesOf_44 (by decide) (fun c => ?_) (fun c => ?_)
        · replace H := H.1 c
          refine AW_iconst (x := 0) dX6_inchesOf_61 (by decide) ?_
          exact AW_rI dX6_inchesOf_62 rfl rfl H
        · replace H := H.2 c
          refine AW_aload_n dX6_inchesOf_47 rfl rfl ?_
          refine AW_iload_n dX6_inchesOf_48 rfl rfl ?_
          refine AW_iconst (x := 2) dX6_inchesOf_49 (by decide) ?_
          refine AW_vI (as := [(.int xa), (.int 2)]) (st := []) dX6_inchesOf_50 (bI_200 B) (by decide) rfl mv_X6_isA mi_X6_isA ml_X6_188 (Nat.le_of_ble_eq_true rfl) rfl (Nat.le_refl 0) (Nat.le_refl 0) H (fun r15 v14 H => ?_)
          refine AW_if_eq (tgt := 63) dX6_inchesOf_53 (by decide) (fun c => ?_) (fun c => ?_)
          · replace H := H.1 c
            refine AW_aload_n dX6_inchesOf_63 rfl rfl ?_
            refine AW_iload_n dX6_inchesOf_64 rfl rfl ?_
            refine AW_iconst (x := 1) dX6_inchesOf_65 (by decide) ?_
            refine AW_vI (as := [(.int xa), (.int 1)]) (st := []) dX6_inchesOf_66 (bI_200 B) (by decide) rfl mv_X6_isA mi_X6_isA ml_X6_188 (Nat.le_of_ble_eq_true rfl) rfl (Nat.le_refl 0) (Nat.le_refl 0) H (fun r17 v16 H => ?_)
            refine AW_if_eq (tgt := 76) dX6_inchesOf_69 (by decide) (fun c => ?_) (fun c => ?_)
            · replace H := H.1 c
              refine AW_iconst (x := 1) dX6_inchesOf_76 (by decide) ?_
              refine AW_istore (L' := [some (.ref 200), some (.int xa), some (.int xb), some (.int (v.1 210 xb.toNatClampNeg)), some (.int 1)]) dX6_inchesOf_77 (by decide) rfl ?_
              refine AW_iload_n dX6_inchesOf_79 rfl rfl ?_
              refine AW_iload dX6_inchesOf_80 rfl ?_
              refine AW_icmp_ge (tgt := 89) dX6_inchesOf_82 (by decide) (fun c => ?_) (fun c => ?_)
              · replace H := H.1 c
                refine AW_iload dX6_inchesOf_89 rfl ?_
                exact AW_rI dX6_inchesOf_91 rfl rfl H
              · replace H := H.2 c
                refine AW_iload_n dX6_inchesOf_85 rfl rfl ?_
                refine AW_goto (tgt := 91) dX6_inchesOf_86 (by decide) ?_
                exact AW_rI dX6_inchesOf_91 rfl rfl H
            · replace H := H.2 c
              refine AW_iconst (x := 2) dX6_inchesOf_72 (by decide) ?_
              refine AW_goto (tgt := 77) dX6_inchesOf_73 (by decide) ?_
              refine AW_istore (L' := [some (.ref 200), some (.int xa), some (.int xb), some (.int (v.1 210 xb.toNatClampNeg)), some (.int 2)]) dX6_inchesOf_77 (by decide) rfl ?_
              refine AW_iload_n dX6_inchesOf_79 rfl rfl ?_
              refine AW_iload dX6_inchesOf_80 rfl ?_
              refine AW_icmp_ge (tgt := 89) dX6_inchesOf_82 (by decide) (fun c => ?_) (fun c => ?_)
              · replace H := H.1 c
                refine AW_iload dX6_inchesOf_89 rfl ?_
                exact AW_rI dX6_inchesOf_91 rfl rfl H
              · replace H := H.2 c
                refine AW_iload_n dX6_inchesOf_85 rfl rfl ?_
                refine AW_goto (tgt := 91) dX6_inchesOf_86 (by decide) ?_
                exact AW_rI dX6_inchesOf_91 rfl rfl H
          · replace H := H.2 c
            refine AW_iload_n dX6_inchesOf_56 rfl rfl ?_
            refine AW_iconst (x := 2) dX6_inchesOf_57 (by decide) ?_
            refine AW_icmp_ge (tgt := 63) dX6_inchesOf_58 (by decide) (fun c => ?_) (fun c => ?_)
            · replace H := H.1 c
              refine AW_aload_n dX6_inchesOf_63 rfl rfl ?_
              refine AW_iload_n dX6_inchesOf_64 rfl rfl ?_
              refine AW_iconst (x := 1) dX6_inchesOf_65 (by decide) ?_
              refine AW_vI (as := [(.int xa), (.int 1)]) (st := []) dX6_inchesOf_66 (bI_200 B) (by decide) rfl mv_X6_isA mi_X6_isA ml_X6_188 (Nat.le_of_ble_eq_true rfl) rfl (Nat.le_refl 0) (Nat.le_refl 0) H (fun r19 v18 H => ?_)
              refine AW_if_eq (tgt := 76) dX6_inchesOf_69 (by decide) (fun c => ?_) (fun c => ?_)
              · replace H := H.1 c
                refine AW_iconst (x := 1) dX6_inchesOf_76 (by decide) ?_
                refine AW_istore (L' := [some (.ref 200), some (.int xa), some (.int xb), some (.int (v.1 210 xb.toNatClampNeg)), some (.int 1)]) dX6_inchesOf_77 (by decide) rfl ?_
                refine AW_iload_n dX6_inchesOf_79 rfl rfl ?_
                refine AW_iload dX6_inchesOf_80 rfl ?_
                refine AW_icmp_ge (tgt := 89) dX6_inchesOf_82 (by decide) (fun c => ?_) (fun c => ?_)
                · replace H := H.1 c
                  refine AW_iload dX6_inchesOf_89 rfl ?_
                  exact AW_rI dX6_inchesOf_91 rfl rfl H
                · replace H := H.2 c
                  refine AW_iload_n dX6_inchesOf_85 rfl rfl ?_
                  refine AW_goto (tgt := 91) dX6_inchesOf_86 (by decide) ?_
                  exact AW_rI dX6_inchesOf_91 rfl rfl H
              · replace H := H.2 c
                refine AW_iconst (x := 2) dX6_inchesOf_72 (by decide) ?_
                refine AW_goto (tgt := 77) dX6_inchesOf_73 (by decide) ?_
                refine AW_istore (L' := [some (.ref 200), some (.int xa), some (.int xb), some (.int (v.1 210 xb.toNatClampNeg)), some (.int 2)]) dX6_inchesOf_77 (by decide) rfl ?_
                refine AW_iload_n dX6_inchesOf_79 rfl rfl ?_
                refine AW_iload dX6_inchesOf_80 rfl ?_
                refine AW_icmp_ge (tgt := 89) dX6_inchesOf_82 (by decide) (fun c => ?_) (fun c => ?_)
                · replace H := H.1 c
                  refine AW_iload dX6_inchesOf_89 rfl ?_
                  exact AW_rI dX6_inchesOf_91 rfl rfl H
                · replace H := H.2 c
                  refine AW_iload_n dX6_inchesOf_85 rfl rfl ?_
                  refine AW_goto (tgt := 91) dX6_inchesOf_86 (by decide) ?_
                  exact AW_rI dX6_inchesOf_91 rfl rfl H
            · replace H := H.2 c
              refine AW_iconst (x := 0) dX6_inchesOf_61 (by decide) ?_
              exact AW_rI dX6_inchesOf_62 rfl rfl H
set_option maxRecDepth 100000 in
set_option maxHeartbeats 4000000 in
theorem vc_X6_goSpot {G : xG} {d : Nat} {z : xZ} {v : xS} {Q : Int32 → xS → Prop} (B : Base z) {xa : Int32} {xb : Int32} {xc : Int32} 
    (H : (oX6_isSpot G d [(.ref 200), (.int xb)] z v (fun r2 v1 => ((¬ r2 = 0 → (vp_in xa 3 ∧ (((v1.1 212 xa.toNatClampNeg) ≤ xb → ((xc = 0 → (oX6_isSpot G d [(.ref 200), (.int (xb - (-1)))] z v1 (fun r5 v4 => ((r5 = 0 → Q 0 v4) ∧ (¬ r5 = 0 → (oX6_inchesOf G d [(.ref 200), (.int xa), (.int xb)] z v4 (fun r7 v6 => ((r7 ≤ 0 → Q r7 v6) ∧ (¬ r7 ≤ 0 → (vp_in xb 10 ∧ (vp_in xb 10 ∧ (∀ v10 : xS, v10 = wV v6 210 xb.toNatClampNeg ((v6.1 210 xb.toNatClampNeg) - r7) → (vp_in (xb - (-1)) 10 ∧ (vp_in (xb - (-1)) 10 ∧ (∀ v13 : xS, v13 = wV v10 210 (xb - (-1)).toNatClampNeg ((v10.1 210 (xb - (-1)).toNatClampNeg) + r7) → Q r7 v13))))))))))))))) ∧ (¬ xc = 0 → (oX6_isSpot G d [(.ref 200), (.int (xb + (-1)))] z v1 (fun r15 v14 => ((r15 = 0 → Q 0 v14) ∧ (¬ r15 = 0 → (oX6_inchesOf G d [(.ref 200), (.int xa), (.int xb)] z v14 (fun r17 v16 => ((r17 ≤ 0 → Q r17 v16) ∧ (¬ r17 ≤ 0 → (vp_in xb 10 ∧ (vp_in xb 10 ∧ (∀ v20 : xS, v20 = wV v16 210 xb.toNatClampNeg ((v16.1 210 xb.toNatClampNeg) - r17) → (vp_in (xb + (-1)) 10 ∧ (vp_in (xb + (-1)) 10 ∧ (∀ v23 : xS, v23 = wV v20 210 (xb + (-1)).toNatClampNeg ((v20.1 210 (xb + (-1)).toNatClampNeg) + r17) → Q r17 v23))))))))))))))))) ∧ (¬ (v1.1 212 xa.toNatClampNeg) ≤ xb → ((xc = 0 → (oX6_isSpot G d [(.ref 200), (.int (xb - 1))] z v1 (fun r25 v24 => ((r25 = 0 → Q 0 v24) ∧ (¬ r25 = 0 → (oX6_inchesOf G d [(.ref 200), (.int xa), (.int xb)] z v24 (fun r27 v26 => ((r27 ≤ 0 → Q r27 v26) ∧ (¬ r27 ≤ 0 → (vp_in xb 10 ∧ (vp_in xb 10 ∧ (∀ v30 : xS, v30 = wV v26 210 xb.toNatClampNeg ((v26.1 210 xb.toNatClampNeg) - r27) → (vp_in (xb - 1) 10 ∧ (vp_in (xb - 1) 10 ∧ (∀ v33 : xS, v33 = wV v30 210 (xb - 1).toNatClampNeg ((v30.1 210 (xb - 1).toNatClampNeg) + r27) → Q r27 v33))))))))))))))) ∧ (¬ xc = 0 → (oX6_isSpot G d [(.ref 200), (.int (xb + 1))] z v1 (fun r35 v34 => ((r35 = 0 → Q 0 v34) ∧ (¬ r35 = 0 → (oX6_inchesOf G d [(.ref 200), (.int xa), (.int xb)] z v34 (fun r37 v36 => ((r37 ≤ 0 → Q r37 v36) ∧ (¬ r37 ≤ 0 → (vp_in xb 10 ∧ (vp_in xb 10 ∧ (∀ v40 : xS, v40 = wV v36 210 xb.toNatClampNeg ((v36.1 210 xb.toNatClampNeg) - r37) → (vp_in (xb + 1) 10 ∧ (vp_in (xb + 1) 10 ∧ (∀ v43 : xS, v43 = wV v40 210 (xb + 1).toNatClampNeg ((v40.1 210 (xb + 1).toNatClampNeg) + r37) → Q r37 v43)))))))))))))))))))) ∧ (r2 = 0 → Q 0 v1))))) :
    oX6_goSpot G (d + 1) [(.ref 200), (.int xa), (.int xb), (.int xc)] z v Q := by
  refine Ok_of (own := RX6) (by decide) rfl (Nat.le_of_ble_eq_true rfl) ?_
  show AW G (d + 1) 0 0 yX6_goSpot cX6_goSpot 7 (some .int) RX6 0 0 0 [some (.ref 200), some (.int xa), some (.int xb), some (.int xc), none, none, none] [] z v _
  refine AW_aload_n dX6_goSpot_0 rfl rfl ?_
  refine AW_iload_n dX6_goSpot_1 rfl rfl ?_
  refine AW_vI (as := [(.int xb)]) (st := []) dX6_goSpot_2 (bI_200 B) (by decide) rfl mv_X6_isSpot mi_X6_isSpot ml_X6_163 (Nat.le_of_ble_eq_true rfl) rfl (Nat.le_refl 0) (Nat.le_refl 0) H (fun r2 v1 H => ?_)
  refine AW_if_ne (tgt := 10) dX6_goSpot_5 (by decide) (fun c => ?_) (fun c => ?_)
  · replace H := H.1 c
    refine AW_iload_n dX6_goSpot_10 rfl rfl ?_
    refine AW_aload_n dX6_goSpot_11 rfl rfl ?_
    refine AW_getR dX6_goSpot_12 (bI_200 B) fl_X6_34 (bR_200_12 B) ?_
    refine AW_iload_n dX6_goSpot_15 rfl rfl ?_
    have hi3 := H.1
    replace H := H.2
    refine AW_iald dX6_goSpot_16 (bI_212 B) hi3 ?_
    refine AW_icmp_ge (tgt := 24) dX6_goSpot_17 (by decide) (fun c => ?_) (fun c => ?_)
    · replace H := H.1 c
      refine AW_iconst (x := (-1)) dX6_goSpot_24 (by decide) ?_
      refine AW_istore (L' := [some (.ref 200), some (.int xa), some (.int xb), some (.int xc), some (.int (-1)), none, none]) dX6_goSpot_25 (by decide) rfl ?_
      refine AW_iload_n dX6_goSpot_27 rfl rfl ?_
      refine AW_if_eq (tgt := 38) dX6_goSpot_28 (by decide) (fun c => ?_) (fun c => ?_)
      · replace H := H.1 c
        refine AW_iload_n dX6_goSpot_38 rfl rfl ?_
        refine AW_iload dX6_goSpot_39 rfl ?_
        refine AW_isub dX6_goSpot_41 ?_
        refine AW_istore (L' := [some (.ref 200), some (.int xa), some (.int xb), some (.int xc), some (.int (-1)), some (.int (xb - (-1))), none]) dX6_goSpot_42 (by decide) rfl ?_
        refine AW_aload_n dX6_goSpot_44 rfl rfl ?_
        refine AW_iload dX6_goSpot_45 rfl ?_
        refine AW_vI (as := [(.int (xb - (-1)))]) (st := []) dX6_goSpot_47 (bI_200 B) (by decide) rfl mv_X6_isSpot mi_X6_isSpot ml_X6_163 (Nat.le_of_ble_eq_true rfl) rfl (Nat.le_refl 0) (Nat.le_refl 0) H (fun r5 v4 H => ?_)
        refine AW_if_eq (tgt := 62) dX6_goSpot_50 (by decide) (fun c => ?_) (fun c => ?_)
        · replace H := H.1 c
          refine AW_iconst (x := 0) dX6_goSpot_62 (by decide) ?_
          refine AW_istore (L' := [some (.ref 200), some (.int xa), some (.int xb), some (.int xc), some (.int (-1)), some (.int (xb - (-1))), some (.int 0)]) dX6_goSpot_63 (by decide) rfl ?_
          refine AW_iload dX6_goSpot_65 rfl ?_
          refine AW_if_le (tgt := 93) dX6_goSpot_67 (by decide) (fun _ => ?_) (fun q => absurd (by decide) q)
          refine AW_iload dX6_goSpot_93 rfl ?_
          exact AW_rI dX6_goSpot_95 rfl rfl H
        · replace H := H.2 c
          refine AW_aload_n dX6_goSpot_53 rfl rfl ?_
          refine AW_iload_n dX6_goSpot_54 rfl rfl ?_
          refine AW_iload_n dX6_goSpot_55 rfl rfl ?_
          refine AW_vI (as := [(.int xa), (.int xb)]) (st := []) dX6_goSpot_56 (bI_200 B) (by decide) rfl mv_X6_inchesOf mi_X6_inchesOf ml_X6_191 (Nat.le_of_ble_eq_true rfl) rfl (Nat.le_refl 0) (Nat.le_refl 0) H (fun r7 v6 H => ?_)
          refine AW_goto (tgt := 63) dX6_goSpot_59 (by decide) ?_
          refine AW_istore (L' := [some (.ref 200), some (.int xa), some (.int xb), some (.int xc), some (.int (-1)), some (.int (xb - (-1))), some (.int r7)]) dX6_goSpot_63 (by decide) rfl ?_
          refine AW_iload dX6_goSpot_65 rfl ?_
          refine AW_if_le (tgt := 93) dX6_goSpot_67 (by decide) (fun c => ?_) (fun c => ?_)
          · replace H := H.1 c
            refine AW_iload dX6_goSpot_93 rfl ?_
            exact AW_rI dX6_goSpot_95 rfl rfl H
          · replace H := H.2 c
            refine AW_aload_n dX6_goSpot_70 rfl rfl ?_
            refine AW_getR dX6_goSpot_71 (bI_200 B) fl_X6_28 (bR_200_10 B) ?_
            refine AW_iload_n dX6_goSpot_74 rfl rfl ?_
            refine AW_dup2 dX6_goSpot_75 rfl rfl ?_
            have hi8 := H.1
            replace H := H.2
            refine AW_iald dX6_goSpot_76 (bI_210 B) hi8 ?_
            refine AW_iload dX6_goSpot_77 rfl ?_
            refine AW_isub dX6_goSpot_79 ?_
            have hi9 := H.1
            replace H := H.2
            refine AW_iastN dX6_goSpot_80 (bI_210 B) hi9 (fun v10 hv10 => ?_)
            replace H := H v10 hv10
            refine AW_aload_n dX6_goSpot_81 rfl rfl ?_
            refine AW_getR dX6_goSpot_82 (bI_200 B) fl_X6_28 (bR_200_10 B) ?_
            refine AW_iload dX6_goSpot_85 rfl ?_
            refine AW_dup2 dX6_goSpot_87 rfl rfl ?_
            have hi11 := H.1
            replace H := H.2
            refine AW_iald dX6_goSpot_88 (bI_210 B) hi11 ?_
            refine AW_iload dX6_goSpot_89 rfl ?_
            refine AW_iadd dX6_goSpot_91 ?_
            have hi12 := H.1
            replace H := H.2
            refine AW_iastN dX6_goSpot_92 (bI_210 B) hi12 (fun v13 hv13 => ?_)
            replace H := H v13 hv13
            refine AW_iload dX6_goSpot_93 rfl ?_
            exact AW_rI dX6_goSpot_95 rfl rfl H
      · replace H := H.2 c
        refine AW_iload_n dX6_goSpot_31 rfl rfl ?_
        refine AW_iload dX6_goSpot_32 rfl ?_
        refine AW_iadd dX6_goSpot_34 ?_
        refine AW_goto (tgt := 42) dX6_goSpot_35 (by decide) ?_
        refine AW_istore (L' := [some (.ref 200), some (.int xa), some (.int xb), some (.int xc), some (.int (-1)), some (.int (xb + (-1))), none]) dX6_goSpot_42 (by decide) rfl ?_
        refine AW_aload_n dX6_goSpot_44 rfl rfl ?_
        refine AW_iload dX6_goSpot_45 rfl ?_
        refine AW_vI (as := [(.int (xb + (-1)))]) (st := []) dX6_goSpot_47 (bI_200 B) (by decide) rfl mv_X6_isSpot mi_X6_isSpot ml_X6_163 (Nat.le_of_ble_eq_true rfl) rfl (Nat.le_refl 0) (Nat.le_refl 0) H (fun r15 v14 H => ?_)
        refine AW_if_eq (tgt := 62) dX6_goSpot_50 (by decide) (fun c => ?_) (fun c => ?_)
        · replace H := H.1 c
          refine AW_iconst (x := 0) dX6_goSpot_62 (by decide) ?_
          refine AW_istore (L' := [some (.ref 200), some (.int xa), some (.int xb), some (.int xc), some (.int (-1)), some (.int (xb + (-1))), some (.int 0)]) dX6_goSpot_63 (by decide) rfl ?_
          refine AW_iload dX6_goSpot_65 rfl ?_
          refine AW_if_le (tgt := 93) dX6_goSpot_67 (by decide) (fun _ => ?_) (fun q => absurd (by decide) q)
          refine AW_iload dX6_goSpot_93 rfl ?_
          exact AW_rI dX6_goSpot_95 rfl rfl H
        · replace H := H.2 c
          refine AW_aload_n dX6_goSpot_53 rfl rfl ?_
          refine AW_iload_n dX6_goSpot_54 rfl rfl ?_
          refine AW_iload_n dX6_goSpot_55 rfl rfl ?_
          refine AW_vI (as := [(.int xa), (.int xb)]) (st := []) dX6_goSpot_56 (bI_200 B) (by decide) rfl mv_X6_inchesOf mi_X6_inchesOf ml_X6_191 (Nat.le_of_ble_eq_true rfl) rfl (Nat.le_refl 0) (Nat.le_refl 0) H (fun r17 v16 H => ?_)
          refine AW_goto (tgt := 63) dX6_goSpot_59 (by decide) ?_
          refine AW_istore (L' := [some (.ref 200), some (.int xa), some (.int xb), some (.int xc), some (.int (-1)), some (.int (xb + (-1))), some (.int r17)]) dX6_goSpot_63 (by decide) rfl ?_
          refine AW_iload dX6_goSpot_65 rfl ?_
          refine AW_if_le (tgt := 93) dX6_goSpot_67 (by decide) (fun c => ?_) (fun c => ?_)
          · replace H := H.1 c
            refine AW_iload dX6_goSpot_93 rfl ?_
            exact AW_rI dX6_goSpot_95 rfl rfl H
          · replace H := H.2 c
            refine AW_aload_n dX6_goSpot_70 rfl rfl ?_
            refine AW_getR dX6_goSpot_71 (bI_200 B) fl_X6_28 (bR_200_10 B) ?_
            refine AW_iload_n dX6_goSpot_74 rfl rfl ?_
            refine AW_dup2 dX6_goSpot_75 rfl rfl ?_
            have hi18 := H.1
            replace H := H.2
            refine AW_iald dX6_goSpot_76 (bI_210 B) hi18 ?_
            refine AW_iload dX6_goSpot_77 rfl ?_
            refine AW_isub dX6_goSpot_79 ?_
            have hi19 := H.1
            replace H := H.2
            refine AW_iastN dX6_goSpot_80 (bI_210 B) hi19 (fun v20 hv20 => ?_)
            replace H := H v20 hv20
            refine AW_aload_n dX6_goSpot_81 rfl rfl ?_
            refine AW_getR dX6_goSpot_82 (bI_200 B) fl_X6_28 (bR_200_10 B) ?_
            refine AW_iload dX6_goSpot_85 rfl ?_
            refine AW_dup2 dX6_goSpot_87 rfl rfl ?_
            have hi21 := H.1
            replace H := H.2
            refine AW_iald dX6_goSpot_88 (bI_210 B) hi21 ?_
            refine AW_iload dX6_goSpot_89 rfl ?_
            refine AW_iadd dX6_goSpot_91 ?_
            have hi22 := H.1
            replace H := H.2
            refine AW_iastN dX6_goSpot_92 (bI_210 B) hi22 (fun v23 hv23 => ?_)
            replace H := H v23 hv23
            refine AW_iload dX6_goSpot_93 rfl ?_
            exact AW_rI dX6_goSpot_95 rfl rfl H
    · replace H := H.2 c
      refine AW_iconst (x := 1) dX6_goSpot_20 (by decide) ?_
      refine AW_goto (tgt := 25) dX6_goSpot_21 (by decide) ?_
      refine AW_istore (L' := [some (.ref 200), some (.int xa), some (.int xb), some (.int xc), some (.int 1), none, none]) dX6_goSpot_25 (by decide) rfl ?_
      refine AW_iload_n dX6_goSpot_27 rfl rfl ?_
      refine AW_if_eq (tgt := 38) dX6_goSpot_28 (by decide) (fun c => ?_) (fun c => ?_)
      · replace H := H.1 c
        refine AW_iload_n dX6_goSpot_38 rfl rfl ?_
        refine AW_iload dX6_goSpot_39 rfl ?_
        refine AW_isub dX6_goSpot_41 ?_
        refine AW_istore (L' := [some (.ref 200), some (.int xa), some (.int xb), some (.int xc), some (.int 1), some (.int (xb - 1)), none]) dX6_goSpot_42 (by decide) rfl ?_
        refine AW_aload_n dX6_goSpot_44 rfl rfl ?_
        refine AW_iload dX6_goSpot_45 rfl ?_
        refine AW_vI (as := [(.int (xb - 1))]) (st := []) dX6_goSpot_47 (bI_200 B) (by decide) rfl mv_X6_isSpot mi_X6_isSpot ml_X6_163 (Nat.le_of_ble_eq_true rfl) rfl (Nat.le_refl 0) (Nat.le_refl 0) H (fun r25 v24 H => ?_)
        refine AW_if_eq (tgt := 62) dX6_goSpot_50 (by decide) (fun c => ?_) (fun c => ?_)
        · replace H := H.1 c
          refine AW_iconst (x := 0) dX6_goSpot_62 (by decide) ?_
          refine AW_istore (L' := [some (.ref 200), some (.int xa), some (.int xb), some (.int xc), some (.int 1), some (.int (xb - 1)), some (.int 0)]) dX6_goSpot_63 (by decide) rfl ?_
          refine AW_iload dX6_goSpot_65 rfl ?_
          refine AW_if_le (tgt := 93) dX6_goSpot_67 (by decide) (fun _ => ?_) (fun q => absurd (by decide) q)
          refine AW_iload dX6_goSpot_93 rfl ?_
          exact AW_rI dX6_goSpot_95 rfl rfl H
        · replace H := H.2 c
          refine AW_aload_n dX6_goSpot_53 rfl rfl ?_
          refine AW_iload_n dX6_goSpot_54 rfl rfl ?_
          refine AW_iload_n dX6_goSpot_55 rfl rfl ?_
          refine AW_vI (as := [(.int xa), (.int xb)]) (st := []) dX6_goSpot_56 (bI_200 B) (by decide) rfl mv_X6_inchesOf mi_X6_inchesOf ml_X6_191 (Nat.le_of_ble_eq_true rfl) rfl (Nat.le_refl 0) (Nat.le_refl 0) H (fun r27 v26 H => ?_)
          refine AW_goto (tgt := 63) dX6_goSpot_59 (by decide) ?_
          refine AW_istore (L' := [some (.ref 200), some (.int xa), some (.int xb), some (.int xc), some (.int 1), some (.int (xb - 1)), some (.int r27)]) dX6_goSpot_63 (by decide) rfl ?_
          refine AW_iload dX6_goSpot_65 rfl ?_
          refine AW_if_le (tgt := 93) dX6_goSpot_67 (by decide) (fun c => ?_) (fun c => ?_)
          · replace H := H.1 c
            refine AW_iload dX6_goSpot_93 rfl ?_
            exact AW_rI dX6_goSpot_95 rfl rfl H
          · replace H := H.2 c
            refine AW_aload_n dX6_goSpot_70 rfl rfl ?_
            refine AW_getR dX6_goSpot_71 (bI_200 B) fl_X6_28 (bR_200_10 B) ?_
            refine AW_iload_n dX6_goSpot_74 rfl rfl ?_
            refine AW_dup2 dX6_goSpot_75 rfl rfl ?_
            have hi28 := H.1
            replace H := H.2
            refine AW_iald dX6_goSpot_76 (bI_210 B) hi28 ?_
            refine AW_iload dX6_goSpot_77 rfl ?_
            refine AW_isub dX6_goSpot_79 ?_
            have hi29 := H.1
            replace H := H.2
            refine AW_iastN dX6_goSpot_80 (bI_210 B) hi29 (fun v30 hv30 => ?_)
            replace H := H v30 hv30
            refine AW_aload_n dX6_goSpot_81 rfl rfl ?_
            refine AW_getR dX6_goSpot_82 (bI_200 B) fl_X6_28 (bR_200_10 B) ?_
            refine AW_iload dX6_goSpot_85 rfl ?_
            refine AW_dup2 dX6_goSpot_87 rfl rfl ?_
            have hi31 := H.1
            replace H := H.2
            refine AW_iald dX6_goSpot_88 (bI_210 B) hi31 ?_
            refine AW_iload dX6_goSpot_89 rfl ?_
            refine AW_iadd dX6_goSpot_91 ?_
            have hi32 := H.1
            replace H := H.2
            refine AW_iastN dX6_goSpot_92 (bI_210 B) hi32 (fun v33 hv33 => ?_)
            replace H := H v33 hv33
            refine AW_iload dX6_goSpot_93 rfl ?_
            exact AW_rI dX6_goSpot_95 rfl rfl H
      · replace H := H.2 c
        refine AW_iload_n dX6_goSpot_31 rfl rfl ?_
        refine AW_iload dX6_goSpot_32 rfl ?_
        refine AW_iadd dX6_goSpot_34 ?_
        refine AW_goto (tgt := 42) dX6_goSpot_35 (by decide) ?_
        refine AW_istore (L' := [some (.ref 200), some (.int xa), some (.int xb), some (.int xc), some (.int 1), some (.int (xb + 1)), none]) dX6_goSpot_42 (by decide) rfl ?_
        refine AW_aload_n dX6_goSpot_44 rfl rfl ?_
        refine AW_iload dX6_goSpot_45 rfl ?_
        refine AW_vI (as := [(.int (xb + 1))]) (st := []) dX6_goSpot_47 (bI_200 B) (by decide) rfl mv_X6_isSpot mi_X6_isSpot ml_X6_163 (Nat.le_of_ble_eq_true rfl) rfl (Nat.le_refl 0) (Nat.le_refl 0) H (fun r35 v34 H => ?_)
        refine AW_if_eq (tgt := 62) dX6_goSpot_50 (by decide) (fun c => ?_) (fun c => ?_)
        · replace H := H.1 c
          refine AW_iconst (x := 0) dX6_goSpot_62 (by decide) ?_
          refine AW_istore (L' := [some (.ref 200), some (.int xa), some (.int xb), some (.int xc), some (.int 1), some (.int (xb + 1)), some (.int 0)]) dX6_goSpot_63 (by decide) rfl ?_
          refine AW_iload dX6_goSpot_65 rfl ?_
          refine AW_if_le (tgt := 93) dX6_goSpot_67 (by decide) (fun _ => ?_) (fun q => absurd (by decide) q)
          refine AW_iload dX6_goSpot_93 rfl ?_
          exact AW_rI dX6_goSpot_95 rfl rfl H
        · replace H := H.2 c
          refine AW_aload_n dX6_goSpot_53 rfl rfl ?_
          refine AW_iload_n dX6_goSpot_54 rfl rfl ?_
          refine AW_iload_n dX6_goSpot_55 rfl rfl ?_
          refine AW_vI (as := [(.int xa), (.int xb)]) (st := []) dX6_goSpot_56 (bI_200 B) (by decide) rfl mv_X6_inchesOf mi_X6_inchesOf ml_X6_191 (Nat.le_of_ble_eq_true rfl) rfl (Nat.le_refl 0) (Nat.le_refl 0) H (fun r37 v36 H => ?_)
          refine AW_goto (tgt := 63) dX6_goSpot_59 (by decide) ?_
          refine AW_istore (L' := [some (.ref 200), some (.int xa), some (.int xb), some (.int xc), some (.int 1), some (.int (xb + 1)), some (.int r37)]) dX6_goSpot_63 (by decide) rfl ?_
          refine AW_iload dX6_goSpot_65 rfl ?_
          refine AW_if_le (tgt := 93) dX6_goSpot_67 (by decide) (fun c => ?_) (fun c => ?_)
          · replace H := H.1 c
            refine AW_iload dX6_goSpot_93 rfl ?_
            exact AW_rI dX6_goSpot_95 rfl rfl H
          · replace H := H.2 c
            refine AW_aload_n dX6_goSpot_70 rfl rfl ?_
            refine AW_getR dX6_goSpot_71 (bI_200 B) fl_X6_28 (bR_200_10 B) ?_
            refine AW_iload_n dX6_goSpot_74 rfl rfl ?_
            refine AW_dup2 dX6_goSpot_75 rfl rfl ?_
            have hi38 := H.1
            replace H := H.2
            refine AW_iald dX6_goSpot_76 (bI_210 B) hi38 ?_
            refine AW_iload dX6_goSpot_77 rfl ?_
            refine AW_isub dX6_goSpot_79 ?_
            have hi39 := H.1
            replace H := H.2
            refine AW_iastN dX6_goSpot_80 (bI_210 B) hi39 (fun v40 hv40 => ?_)
            replace H := H v40 hv40
            refine AW_aload_n dX6_goSpot_81 rfl rfl ?_
            refine AW_getR dX6_goSpot_82 (bI_200 B) fl_X6_28 (bR_200_10 B) ?_
            refine AW_iload dX6_goSpot_85 rfl ?_
            refine AW_dup2 dX6_goSpot_87 rfl rfl ?_
            have hi41 := H.1
            replace H := H.2
            refine AW_iald dX6_goSpot_88 (bI_210 B) hi41 ?_
            refine AW_iload dX6_goSpot_89 rfl ?_
            refine AW_iadd dX6_goSpot_91 ?_
            have hi42 := H.1
            replace H := H.2
            refine AW_iastN dX6_goSpot_92 (bI_210 B) hi42 (fun v43 hv43 => ?_)
            replace H := H v43 hv43
            refine AW_iload dX6_goSpot_93 rfl ?_
            exact AW_rI dX6_goSpot_95 rfl rfl H
  · replace H := H.2 c
    refine AW_iconst (x := 0) dX6_goSpot_8 (by decide) ?_
    exact AW_rI dX6_goSpot_9 rfl rfl H
set_option maxRecDepth 100000 in
set_option maxHeartbeats 4000000 in
theorem vc_X6_play {G : xG} {d : Nat} {z : xZ} {v : xS} {Q : Int32 → xS → Prop} (B : Base z) {xa : Int32} {xb : Int32} 
    (H : ((¬ xb = 0 → ((¬ xb = 1 → (vp_in xa 3 ∧ ((¬ (v.1 211 xa.toNatClampNeg) = 5 → aX6_play G (d + 1) 46 [some (.ref 200), some (.int xa), some (.int xb), some (.int 0), some (.int 0), some (.int 1), none] [] z v Q) ∧ ((v.1 211 xa.toNatClampNeg) = 5 → aX6_play G (d + 1) 46 [some (.ref 200), some (.int xa), some (.int xb), some (.int 1), some (.int 0), some (.int 1), none] [] z v Q)))) ∧ (xb = 1 → (vp_in xa 3 ∧ ((¬ (v.1 211 xa.toNatClampNeg) = 5 → aX6_play G (d + 1) 46 [some (.ref 200), some (.int xa), some (.int xb), some (.int 1), some (.int 0), some (.int 1), none] [] z v Q) ∧ ((v.1 211 xa.toNatClampNeg) = 5 → aX6_play G (d + 1) 46 [some (.ref 200), some (.int xa), some (.int xb), some (.int 0), some (.int 0), some (.int 1), none] [] z v Q)))))) ∧ (xb = 0 → Q 0 v))) :
    oX6_play G (d + 1) [(.ref 200), (.int xa), (.int xb)] z v Q := by
  refine Ok_of (own := RX6) (by decide) rfl (Nat.le_of_ble_eq_true rfl) ?_
  show AW G (d + 1) 0 0 yX6_play cX6_play 7 (some .int) RX6 0 0 0 [some (.ref 200), some (.int xa), some (.int xb), none, none, none, none] [] z v _
  refine AW_iload_n dX6_play_0 rfl rfl ?_
  refine AW_if_ne (tgt := 6) dX6_play_1 (by decide) (fun c => ?_) (fun c => ?_)
  · replace H := H.1 c
    refine AW_iload_n dX6_play_6 rfl rfl ?_
    refine AW_iconst (x := 1) dX6_play_7 (by decide) ?_
    refine AW_icmp_ne (tgt := 15) dX6_play_8 (by decide) (fun c => ?_) (fun c => ?_)
    · replace H := H.1 c
      refine AW_iconst (x := 0) dX6_play_15 (by decide) ?_
      refine AW_aload_n dX6_play_16 rfl rfl ?_
      refine AW_getR dX6_play_17 (bI_200 B) fl_X6_31 (bR_200_11 B) ?_
      refine AW_iload_n dX6_play_20 rfl rfl ?_
      have hi1 := H.1
      replace H := H.2
      refine AW_iald dX6_play_21 (bI_211 B) hi1 ?_
      refine AW_iconst (x := 5) dX6_play_22 (by decide) ?_
      refine AW_icmp_ne (tgt := 30) dX6_play_23 (by decide) (fun c => ?_) (fun c => ?_)
      · replace H := H.1 c
        refine AW_iconst (x := 0) dX6_play_30 (by decide) ?_
        refine AW_icmp_eq (tgt := 38) dX6_play_31 (by decide) (fun _ => ?_) (fun q => absurd (by decide) q)
        refine AW_iconst (x := 0) dX6_play_38 (by decide) ?_
        refine AW_istore_n (L' := [some (.ref 200), some (.int xa), some (.int xb), some (.int 0), none, none, none]) dX6_play_39 rfl (by decide) rfl ?_
        refine AW_iconst (x := 0) dX6_play_40 (by decide) ?_
        refine AW_istore (L' := [some (.ref 200), some (.int xa), some (.int xb), some (.int 0), some (.int 0), none, none]) dX6_play_41 (by decide) rfl ?_
        refine AW_iconst (x := 1) dX6_play_43 (by decide) ?_
        refine AW_istore (L' := [some (.ref 200), some (.int xa), some (.int xb), some (.int 0), some (.int 0), some (.int 1), none]) dX6_play_44 (by decide) rfl ?_
        exact H
      · replace H := H.2 c
        refine AW_iconst (x := 1) dX6_play_26 (by decide) ?_
        refine AW_goto (tgt := 31) dX6_play_27 (by decide) ?_
        refine AW_icmp_eq (tgt := 38) dX6_play_31 (by decide) (fun q => absurd q (by decide)) (fun _ => ?_)
        refine AW_iconst (x := 1) dX6_play_34 (by decide) ?_
        refine AW_goto (tgt := 39) dX6_play_35 (by decide) ?_
        refine AW_istore_n (L' := [some (.ref 200), some (.int xa), some (.int xb), some (.int 1), none, none, none]) dX6_play_39 rfl (by decide) rfl ?_
        refine AW_iconst (x := 0) dX6_play_40 (by decide) ?_
        refine AW_istore (L' := [some (.ref 200), some (.int xa), some (.int xb), some (.int 1), some (.int 0), none, none]) dX6_play_41 (by decide) rfl ?_
        refine AW_iconst (x := 1) dX6_play_43 (by decide) ?_
        refine AW_istore (L' := [some (.ref 200), some (.int xa), some (.int xb), some (.int 1), some (.int 0), some (.int 1), none]) dX6_play_44 (by decide) rfl ?_
        exact H
    · replace H := H.2 c
      refine AW_iconst (x := 1) dX6_play_11 (by decide) ?_
      refine AW_goto (tgt := 16) dX6_play_12 (by decide) ?_
      refine AW_aload_n dX6_play_16 rfl rfl ?_
      refine AW_getR dX6_play_17 (bI_200 B) fl_X6_31 (bR_200_11 B) ?_
      refine AW_iload_n dX6_play_20 rfl rfl ?_
      have hi2 := H.1
      replace H := H.2
      refine AW_iald dX6_play_21 (bI_211 B) hi2 ?_
      refine AW_iconst (x := 5) dX6_play_22 (by decide) ?_
      refine AW_icmp_ne (tgt := 30) dX6_play_23 (by decide) (fun c => ?_) (fun c => ?_)
      · replace H := H.1 c
        refine AW_iconst (x := 0) dX6_play_30 (by decide) ?_
        refine AW_icmp_eq (tgt := 38) dX6_play_31 (by decide) (fun q => absurd q (by decide)) (fun _ => ?_)
        refine AW_iconst (x := 1) dX6_play_34 (by decide) ?_
        refine AW_goto (tgt := 39) dX6_play_35 (by decide) ?_
        refine AW_istore_n (L' := [some (.ref 200), some (.int xa), some (.int xb), some (.int 1), none, none, none]) dX6_play_39 rfl (by decide) rfl ?_
        refine AW_iconst (x := 0) dX6_play_40 (by decide) ?_
        refine AW_istore (L' := [some (.ref 200), some (.int xa), some (.int xb), some (.int 1), some (.int 0), none, none]) dX6_play_41 (by decide) rfl ?_
        refine AW_iconst (x := 1) dX6_play_43 (by decide) ?_
        refine AW_istore (L' := [some (.ref 200), some (.int xa), some (.int xb), some (.int 1), some (.int 0), some (.int 1), none]) dX6_play_44 (by decide) rfl ?_
        exact H
      · replace H := H.2 c
        refine AW_iconst (x := 1) dX6_play_26 (by decide) ?_
        refine AW_goto (tgt := 31) dX6_play_27 (by decide) ?_
        refine AW_icmp_eq (tgt := 38) dX6_play_31 (by decide) (fun _ => ?_) (fun q => absurd (by decide) q)
        refine AW_iconst (x := 0) dX6_play_38 (by decide) ?_
        refine AW_istore_n (L' := [some (.ref 200), some (.int xa), some (.int xb), some (.int 0), none, none, none]) dX6_play_39 rfl (by decide) rfl ?_
        refine AW_iconst (x := 0) dX6_play_40 (by decide) ?_
        refine AW_istore (L' := [some (.ref 200), some (.int xa), some (.int xb), some (.int 0), some (.int 0), none, none]) dX6_play_41 (by decide) rfl ?_
        refine AW_iconst (x := 1) dX6_play_43 (by decide) ?_
        refine AW_istore (L' := [some (.ref 200), some (.int xa), some (.int xb), some (.int 0), some (.int 0), some (.int 1), none]) dX6_play_44 (by decide) rfl ?_
        exact H
  · replace H := H.2 c
    refine AW_iconst (x := 0) dX6_play_4 (by decide) ?_
    exact AW_rI dX6_play_5 rfl rfl H
set_option maxRecDepth 100000 in
set_option maxHeartbeats 4000000 in
theorem vc_X6_play_46 {G : xG} {d : Nat} {z : xZ} {v : xS} {Q : Int32 → xS → Prop} (B : Base z)  {l1 : Int32} {l2 : Int32} {l3 : Int32} {l4 : Int32} {l5 : Int32} 
    (H : ((10 ≤ l5 → Q l4 v) ∧ (¬ 10 ≤ l5 → ((l3 = 0 → (vp_in l1 3 ∧ (oX6_goSpot G d [(.ref 200), (.int l1), (.int ((v.1 212 l1.toNatClampNeg) - (10 - l5))), (.int l3)] z v (fun r3 v2 => (vp_in l1 3 ∧ (oX6_goSpot G d [(.ref 200), (.int l1), (.int ((v2.1 212 l1.toNatClampNeg) + (10 - l5))), (.int l3)] z v2 (fun r6 v5 => aX6_play G (d + 1) 46 [some (.ref 200), some (.int l1), some (.int l2), some (.int l3), some (.int ((l4 + r3) + r6)), some (.int (l5 + 1)), none] [] z v5 Q))))))) ∧ (¬ l3 = 0 → (vp_in l1 3 ∧ (oX6_goSpot G d [(.ref 200), (.int l1), (.int ((v.1 212 l1.toNatClampNeg) - l5)), (.int l3)] z v (fun r9 v8 => (vp_in l1 3 ∧ (oX6_goSpot G d [(.ref 200), (.int l1), (.int ((v8.1 212 l1.toNatClampNeg) + l5)), (.int l3)] z v8 (fun r12 v11 => aX6_play G (d + 1) 46 [some (.ref 200), some (.int l1), some (.int l2), some (.int l3), some (.int ((l4 + r9) + r12)), some (.int (l5 + 1)), none] [] z v11 Q))))))))))) :
    aX6_play G (d + 1) 46 [some (.ref 200), some (.int l1), some (.int l2), some (.int l3), some (.int l4), some (.int l5), none] [] z v Q := by
  refine AW_iload dX6_play_46 rfl ?_
  refine AW_bipush (x := 10) dX6_play_48 (by decide) ?_
  refine AW_icmp_ge (tgt := 115) dX6_play_50 (by decide) (fun c => ?_) (fun c => ?_)
  · replace H := H.1 c
    refine AW_iload dX6_play_115 rfl ?_
    exact AW_rI dX6_play_117 rfl rfl H
  · replace H := H.2 c
    refine AW_iload_n dX6_play_53 rfl rfl ?_
    refine AW_if_eq (tgt := 62) dX6_play_54 (by decide) (fun c => ?_) (fun c => ?_)
    · replace H := H.1 c
      refine AW_bipush (x := 10) dX6_play_62 (by decide) ?_
      refine AW_iload dX6_play_64 rfl ?_
      refine AW_isub dX6_play_66 ?_
      refine AW_istore (L' := [some (.ref 200), some (.int l1), some (.int l2), some (.int l3), some (.int l4), some (.int l5), some (.int (10 - l5))]) dX6_play_67 (by decide) rfl ?_
      refine AW_iload dX6_play_69 rfl ?_
      refine AW_aload_n dX6_play_71 rfl rfl ?_
      refine AW_iload_n dX6_play_72 rfl rfl ?_
      refine AW_aload_n dX6_play_73 rfl rfl ?_
      refine AW_getR dX6_play_74 (bI_200 B) fl_X6_34 (bR_200_12 B) ?_
      refine AW_iload_n dX6_play_77 rfl rfl ?_
      have hi1 := H.1
      replace H := H.2
      refine AW_iald dX6_play_78 (bI_212 B) hi1 ?_
      refine AW_iload dX6_play_79 rfl ?_
      refine AW_isub dX6_play_81 ?_
      refine AW_iload_n dX6_play_82 rfl rfl ?_
      refine AW_vI (as := [(.int l1), (.int ((v.1 212 l1.toNatClampNeg) - (10 - l5))), (.int l3)]) (st := [(.int l4)]) dX6_play_83 (bI_200 B) (by decide) rfl mv_X6_goSpot mi_X6_goSpot ml_X6_194 (Nat.le_of_ble_eq_true rfl) rfl (Nat.le_refl 0) (Nat.le_refl 0) H (fun r3 v2 H => ?_)
      refine AW_iadd dX6_play_86 ?_
      refine AW_istore (L' := [some (.ref 200), some (.int l1), some (.int l2), some (.int l3), some (.int (l4 + r3)), some (.int l5), some (.int (10 - l5))]) dX6_play_87 (by decide) rfl ?_
      refine AW_iload dX6_play_89 rfl ?_
      refine AW_aload_n dX6_play_91 rfl rfl ?_
      refine AW_iload_n dX6_play_92 rfl rfl ?_
      refine AW_aload_n dX6_play_93 rfl rfl ?_
      refine AW_getR dX6_play_94 (bI_200 B) fl_X6_34 (bR_200_12 B) ?_
      refine AW_iload_n dX6_play_97 rfl rfl ?_
      have hi4 := H.1
      replace H := H.2
      refine AW_iald dX6_play_98 (bI_212 B) hi4 ?_
      refine AW_iload dX6_play_99 rfl ?_
      refine AW_iadd dX6_play_101 ?_
      refine AW_iload_n dX6_play_102 rfl rfl ?_
      refine AW_vI (as := [(.int l1), (.int ((v2.1 212 l1.toNatClampNeg) + (10 - l5))), (.int l3)]) (st := [(.int (l4 + r3))]) dX6_play_103 (bI_200 B) (by decide) rfl mv_X6_goSpot mi_X6_goSpot ml_X6_194 (Nat.le_of_ble_eq_true rfl) rfl (Nat.le_refl 0) (Nat.le_refl 0) H (fun r6 v5 H => ?_)
      refine AW_iadd dX6_play_106 ?_
      refine AW_istore (L' := [some (.ref 200), some (.int l1), some (.int l2), some (.int l3), some (.int ((l4 + r3) + r6)), some (.int l5), some (.int (10 - l5))]) dX6_play_107 (by decide) rfl ?_
      refine AW_iinc (x' := l5 + 1) (L' := [some (.ref 200), some (.int l1), some (.int l2), some (.int l3), some (.int ((l4 + r3) + r6)), some (.int (l5 + 1)), some (.int (10 - l5))]) dX6_play_109 rfl rfl (by decide) rfl ?_
      refine AW_goto (tgt := 46) dX6_play_112 (by decide) ?_
      refine AW_sub (L' := [some (.ref 200), some (.int l1), some (.int l2), some (.int l3), some (.int ((l4 + r3) + r6)), some (.int (l5 + 1)), none]) (show xle _ _ from ⟨rfl, ⟨rfl, ⟨rfl, ⟨rfl, ⟨rfl, ⟨rfl, trivial⟩⟩⟩⟩⟩⟩) ?_
      exact H
    · replace H := H.2 c
      refine AW_iload dX6_play_57 rfl ?_
      refine AW_goto (tgt := 67) dX6_play_59 (by decide) ?_
      refine AW_istore (L' := [some (.ref 200), some (.int l1), some (.int l2), some (.int l3), some (.int l4), some (.int l5), some (.int l5)]) dX6_play_67 (by decide) rfl ?_
      refine AW_iload dX6_play_69 rfl ?_
      refine AW_aload_n dX6_play_71 rfl rfl ?_
      refine AW_iload_n dX6_play_72 rfl rfl ?_
      refine AW_aload_n dX6_play_73 rfl rfl ?_
      refine AW_getR dX6_play_74 (bI_200 B) fl_X6_34 (bR_200_12 B) ?_
      refine AW_iload_n dX6_play_77 rfl rfl ?_
      have hi7 := H.1
      replace H := H.2
      refine AW_iald dX6_play_78 (bI_212 B) hi7 ?_
      refine AW_iload dX6_play_79 rfl ?_
      refine AW_isub dX6_play_81 ?_
      refine AW_iload_n dX6_play_82 rfl rfl ?_
      refine AW_vI (as := [(.int l1), (.int ((v.1 212 l1.toNatClampNeg) - l5)), (.int l3)]) (st := [(.int l4)]) dX6_play_83 (bI_200 B) (by decide) rfl mv_X6_goSpot mi_X6_goSpot ml_X6_194 (Nat.le_of_ble_eq_true rfl) rfl (Nat.le_refl 0) (Nat.le_refl 0) H (fun r9 v8 H => ?_)
      refine AW_iadd dX6_play_86 ?_
      refine AW_istore (L' := [some (.ref 200), some (.int l1), some (.int l2), some (.int l3), some (.int (l4 + r9)), some (.int l5), some (.int l5)]) dX6_play_87 (by decide) rfl ?_
      refine AW_iload dX6_play_89 rfl ?_
      refine AW_aload_n dX6_play_91 rfl rfl ?_
      refine AW_iload_n dX6_play_92 rfl rfl ?_
      refine AW_aload_n dX6_play_93 rfl rfl ?_
      refine AW_getR dX6_play_94 (bI_200 B) fl_X6_34 (bR_200_12 B) ?_
      refine AW_iload_n dX6_play_97 rfl rfl ?_
      have hi10 := H.1
      replace H := H.2
      refine AW_iald dX6_play_98 (bI_212 B) hi10 ?_
      refine AW_iload dX6_play_99 rfl ?_
      refine AW_iadd dX6_play_101 ?_
      refine AW_iload_n dX6_play_102 rfl rfl ?_
      refine AW_vI (as := [(.int l1), (.int ((v8.1 212 l1.toNatClampNeg) + l5)), (.int l3)]) (st := [(.int (l4 + r9))]) dX6_play_103 (bI_200 B) (by decide) rfl mv_X6_goSpot mi_X6_goSpot ml_X6_194 (Nat.le_of_ble_eq_true rfl) rfl (Nat.le_refl 0) (Nat.le_refl 0) H (fun r12 v11 H => ?_)
      refine AW_iadd dX6_play_106 ?_
      refine AW_istore (L' := [some (.ref 200), some (.int l1), some (.int l2), some (.int l3), some (.int ((l4 + r9) + r12)), some (.int l5), some (.int l5)]) dX6_play_107 (by decide) rfl ?_
      refine AW_iinc (x' := l5 + 1) (L' := [some (.ref 200), some (.int l1), some (.int l2), some (.int l3), some (.int ((l4 + r9) + r12)), some (.int (l5 + 1)), some (.int l5)]) dX6_play_109 rfl rfl (by decide) rfl ?_
      refine AW_goto (tgt := 46) dX6_play_112 (by decide) ?_
      refine AW_sub (L' := [some (.ref 200), some (.int l1), some (.int l2), some (.int l3), some (.int ((l4 + r9) + r12)), some (.int (l5 + 1)), none]) (show xle _ _ from ⟨rfl, ⟨rfl, ⟨rfl, ⟨rfl, ⟨rfl, ⟨rfl, trivial⟩⟩⟩⟩⟩⟩) ?_
      exact H
set_option maxRecDepth 100000 in
set_option maxHeartbeats 4000000 in
theorem vc_X6_programs {G : xG} {d : Nat} {z : xZ} {v : xS} {Q : Int32 → xS → Prop} (B : Base z)  
    (H : aX6_programs G (d + 1) 4 [some (.ref 200), some (.int 1), some (.int 0)] [] z v Q) :
    oX6_programs G (d + 1) [(.ref 200)] z v Q := by
  refine Ok_of (own := RX6) (by decide) rfl (Nat.le_of_ble_eq_true rfl) ?_
  show AW G (d + 1) 0 0 yX6_programs cX6_programs 3 (some .int) RX6 0 0 0 [some (.ref 200), none, none] [] z v _
  refine AW_iconst (x := 1) dX6_programs_0 (by decide) ?_
  refine AW_istore_n (L' := [some (.ref 200), some (.int 1), none]) dX6_programs_1 rfl (by decide) rfl ?_
  refine AW_iconst (x := 0) dX6_programs_2 (by decide) ?_
  refine AW_istore_n (L' := [some (.ref 200), some (.int 1), some (.int 0)]) dX6_programs_3 rfl (by decide) rfl ?_
  exact H
set_option maxRecDepth 100000 in
set_option maxHeartbeats 4000000 in
theorem vc_X6_programs_4 {G : xG} {d : Nat} {z : xZ} {v : xS} {Q : Int32 → xS → Prop} (B : Base z)  {l1 : Int32} {l2 : Int32} 
    (H : (((v.1 200 9) ≤ l2 → Q l1 v) ∧ (¬ (v.1 200 9) ≤ l2 → aX6_programs G (d + 1) 4 [some (.ref 200), some (.int (l1 * 3)), some (.int (l2 + 1))] [] z v Q))) :
    aX6_programs G (d + 1) 4 [some (.ref 200), some (.int l1), some (.int l2)] [] z v Q := by
  refine AW_iload_n dX6_programs_4 rfl rfl ?_
  refine AW_aload_n dX6_programs_5 rfl rfl ?_
  refine AW_getI dX6_programs_6 (bI_200 B) fl_X6_154 ?_
  refine AW_icmp_ge (tgt := 22) dX6_programs_9 (by decide) (fun c => ?_) (fun c => ?_)
  · replace H := H.1 c
    refine AW_iload_n dX6_programs_22 rfl rfl ?_
    exact AW_rI dX6_programs_23 rfl rfl H
  · replace H := H.2 c
    refine AW_iload_n dX6_programs_12 rfl rfl ?_
    refine AW_iconst (x := 3) dX6_programs_13 (by decide) ?_
    refine AW_imul dX6_programs_14 ?_
    refine AW_istore_n (L' := [some (.ref 200), some (.int (l1 * 3)), some (.int l2)]) dX6_programs_15 rfl (by decide) rfl ?_
    refine AW_iinc (x' := l2 + 1) (L' := [some (.ref 200), some (.int (l1 * 3)), some (.int (l2 + 1))]) dX6_programs_16 rfl rfl (by decide) rfl ?_
    refine AW_goto (tgt := 4) dX6_programs_19 (by decide) ?_
    exact H
set_option maxRecDepth 100000 in
set_option maxHeartbeats 4000000 in
theorem vc_X6_tuneOf {G : xG} {d : Nat} {z : xZ} {v : xS} {Q : Int32 → xS → Prop} (B : Base z) {xa : Int32} {xb : Int32} 
    (H : ((¬ xb = 0 → ((¬ xb = 1 → Q ((xa / 9) - (xa / 9) / 3 * 3) v) ∧ (xb = 1 → Q ((xa / 3) - (xa / 3) / 3 * 3) v))) ∧ (xb = 0 → Q (xa - xa / 3 * 3) v))) :
    oX6_tuneOf G (d + 1) [(.int xa), (.int xb)] z v Q := by
  refine Ok_of (own := RX6) (by decide) rfl (Nat.le_of_ble_eq_true rfl) ?_
  show AW G (d + 1) 0 0 yX6_tuneOf cX6_tuneOf 2 (some .int) RX6 0 0 0 [some (.int xa), some (.int xb)] [] z v _
  refine AW_iload_n dX6_tuneOf_0 rfl rfl ?_
  refine AW_if_ne (tgt := 10) dX6_tuneOf_1 (by decide) (fun c => ?_) (fun c => ?_)
  · replace H := H.1 c
    refine AW_iload_n dX6_tuneOf_10 rfl rfl ?_
    refine AW_iconst (x := 1) dX6_tuneOf_11 (by decide) ?_
    refine AW_icmp_ne (tgt := 23) dX6_tuneOf_12 (by decide) (fun c => ?_) (fun c => ?_)
    · replace H := H.1 c
      refine AW_iload_n dX6_tuneOf_23 rfl rfl ?_
      refine AW_bipush (x := 9) dX6_tuneOf_24 (by decide) ?_
      refine AW_idiv dX6_tuneOf_26 (by decide) ?_
      refine AW_iconst (x := 3) dX6_tuneOf_27 (by decide) ?_
      refine AW_irem dX6_tuneOf_28 (by decide) ?_
      exact AW_rI dX6_tuneOf_29 rfl rfl H
    · replace H := H.2 c
      refine AW_iload_n dX6_tuneOf_15 rfl rfl ?_
      refine AW_iconst (x := 3) dX6_tuneOf_16 (by decide) ?_
      refine AW_idiv dX6_tuneOf_17 (by decide) ?_
      refine AW_iconst (x := 3) dX6_tuneOf_18 (by decide) ?_
      refine AW_irem dX6_tuneOf_19 (by decide) ?_
      refine AW_goto (tgt := 29) dX6_tuneOf_20 (by decide) ?_
      exact AW_rI dX6_tuneOf_29 rfl rfl H
  · replace H := H.2 c
    refine AW_iload_n dX6_tuneOf_4 rfl rfl ?_
    refine AW_iconst (x := 3) dX6_tuneOf_5 (by decide) ?_
    refine AW_irem dX6_tuneOf_6 (by decide) ?_
    refine AW_goto (tgt := 29) dX6_tuneOf_7 (by decide) ?_
    exact AW_rI dX6_tuneOf_29 rfl rfl H
set_option maxRecDepth 100000 in
set_option maxHeartbeats 4000000 in
theorem vc_X6_breathOf {G : xG} {d : Nat} {z : xZ} {v : xS} {Q : Int32 → xS → Prop} (B : Base z) {xa : Int32} 
    (H : aX6_breathOf G (d + 1) 4 [some (.ref 200), some (.int xa), some (.int 0), some (.int 0)] [] z v Q) :
    oX6_breathOf G (d + 1) [(.ref 200), (.int xa)] z v Q := by
  refine Ok_of (own := RX6) (by decide) rfl (Nat.le_of_ble_eq_true rfl) ?_
  show AW G (d + 1) 0 0 yX6_breathOf cX6_breathOf 4 (some .int) RX6 0 0 0 [some (.ref 200), some (.int xa), none, none] [] z v _
  refine AW_iconst (x := 0) dX6_breathOf_0 (by decide) ?_
  refine AW_istore_n (L' := [some (.ref 200), some (.int xa), some (.int 0), none]) dX6_breathOf_1 rfl (by decide) rfl ?_
  refine AW_iconst (x := 0) dX6_breathOf_2 (by decide) ?_
  refine AW_istore_n (L' := [some (.ref 200), some (.int xa), some (.int 0), some (.int 0)]) dX6_breathOf_3 rfl (by decide) rfl ?_
  exact H
set_option maxRecDepth 100000 in
set_option maxHeartbeats 4000000 in
theorem vc_X6_breathOf_4 {G : xG} {d : Nat} {z : xZ} {v : xS} {Q : Int32 → xS → Prop} (B : Base z)  {l1 : Int32} {l2 : Int32} {l3 : Int32} 
    (H : (((v.1 200 9) ≤ l3 → Q l2 v) ∧ (¬ (v.1 200 9) ≤ l3 → (oX6_tuneOf G d [(.int l1), (.int l3)] z v (fun r2 v1 => ((¬ r2 = 0 → (vp_in l3 3 ∧ aX6_breathOf G (d + 1) 4 [some (.ref 200), some (.int l1), some (.int (l2 + (v1.1 213 l3.toNatClampNeg))), some (.int (l3 + 1))] [] z v1 Q)) ∧ (r2 = 0 → aX6_breathOf G (d + 1) 4 [some (.ref 200), some (.int l1), some (.int (l2 + 0)), some (.int (l3 + 1))] [] z v1 Q))))))) :
    aX6_breathOf G (d + 1) 4 [some (.ref 200), some (.int l1), some (.int l2), some (.int l3)] [] z v Q := by
  refine AW_iload_n dX6_breathOf_4 rfl rfl ?_
  refine AW_aload_n dX6_breathOf_5 rfl rfl ?_
  refine AW_getI dX6_breathOf_6 (bI_200 B) fl_X6_154 ?_
  refine AW_icmp_ge (tgt := 39) dX6_breathOf_9 (by decide) (fun c => ?_) (fun c => ?_)
  · replace H := H.1 c
    refine AW_iload_n dX6_breathOf_39 rfl rfl ?_
    exact AW_rI dX6_breathOf_40 rfl rfl H
  · replace H := H.2 c
    refine AW_iload_n dX6_breathOf_12 rfl rfl ?_
    refine AW_iload_n dX6_breathOf_13 rfl rfl ?_
    refine AW_iload_n dX6_breathOf_14 rfl rfl ?_
    refine AW_sI (as := [(.int l1), (.int l3)]) (st := [(.int l2)]) dX6_breathOf_15 mv_X6_tuneOf ms_X6_tuneOf ml_X6_198 (Nat.le_of_ble_eq_true rfl) rfl (Nat.le_refl 0) (Nat.le_refl 0) H (fun r2 v1 H => ?_)
    refine AW_if_ne (tgt := 25) dX6_breathOf_18 (by decide) (fun c => ?_) (fun c => ?_)
    · replace H := H.1 c
      refine AW_aload_n dX6_breathOf_25 rfl rfl ?_
      refine AW_getR dX6_breathOf_26 (bI_200 B) fl_X6_37 (bR_200_13 B) ?_
      refine AW_iload_n dX6_breathOf_29 rfl rfl ?_
      have hi3 := H.1
      replace H := H.2
      refine AW_iald dX6_breathOf_30 (bI_213 B) hi3 ?_
      refine AW_iadd dX6_breathOf_31 ?_
      refine AW_istore_n (L' := [some (.ref 200), some (.int l1), some (.int (l2 + (v1.1 213 l3.toNatClampNeg))), some (.int l3)]) dX6_breathOf_32 rfl (by decide) rfl ?_
      refine AW_iinc (x' := l3 + 1) (L' := [some (.ref 200), some (.int l1), some (.int (l2 + (v1.1 213 l3.toNatClampNeg))), some (.int (l3 + 1))]) dX6_breathOf_33 rfl rfl (by decide) rfl ?_
      refine AW_goto (tgt := 4) dX6_breathOf_36 (by decide) ?_
      exact H
    · replace H := H.2 c
      refine AW_iconst (x := 0) dX6_breathOf_21 (by decide) ?_
      refine AW_goto (tgt := 31) dX6_breathOf_22 (by decide) ?_
      refine AW_iadd dX6_breathOf_31 ?_
      refine AW_istore_n (L' := [some (.ref 200), some (.int l1), some (.int (l2 + 0)), some (.int l3)]) dX6_breathOf_32 rfl (by decide) rfl ?_
      refine AW_iinc (x' := l3 + 1) (L' := [some (.ref 200), some (.int l1), some (.int (l2 + 0)), some (.int (l3 + 1))]) dX6_breathOf_33 rfl rfl (by decide) rfl ?_
      refine AW_goto (tgt := 4) dX6_breathOf_36 (by decide) ?_
      exact H
set_option maxRecDepth 100000 in
set_option maxHeartbeats 4000000 in
theorem vc_X6_passEvening {G : xG} {d : Nat} {z : xZ} {v : xS} {Q : Int32 → xS → Prop} (B : Base z) {xa : Int32} 
    (H : aX6_passEvening G (d + 1) 4 [some (.ref 200), some (.int xa), some (.int 0), some (.int 0), none] [] z v Q) :
    oX6_passEvening G (d + 1) [(.ref 200), (.int xa)] z v Q := by
  refine Ok_of (own := RX6) (by decide) rfl (Nat.le_of_ble_eq_true rfl) ?_
  show AW G (d + 1) 0 0 yX6_passEvening cX6_passEvening 5 (some .int) RX6 0 0 0 [some (.ref 200), some (.int xa), none, none, none] [] z v _
  refine AW_iconst (x := 0) dX6_passEvening_0 (by decide) ?_
  refine AW_istore_n (L' := [some (.ref 200), some (.int xa), some (.int 0), none, none]) dX6_passEvening_1 rfl (by decide) rfl ?_
  refine AW_iconst (x := 0) dX6_passEvening_2 (by decide) ?_
  refine AW_istore_n (L' := [some (.ref 200), some (.int xa), some (.int 0), some (.int 0), none]) dX6_passEvening_3 rfl (by decide) rfl ?_
  exact H
set_option maxRecDepth 100000 in
set_option maxHeartbeats 4000000 in
theorem vc_X6_passEvening_4 {G : xG} {d : Nat} {z : xZ} {v : xS} {Q : Int32 → xS → Prop} (B : Base z)  {l1 : Int32} {l2 : Int32} {l3 : Int32} 
    (H : (((v.1 200 9) ≤ l3 → Q l2 v) ∧ (¬ (v.1 200 9) ≤ l3 → (oX6_tuneOf G d [(.int l1), (.int l3)] z v (fun r2 v1 => (oX6_play G d [(.ref 200), (.int l3), (.int r2)] z v1 (fun r4 v3 => (vp_in l3 3 ∧ (vp_in l3 3 ∧ (∀ v7 : xS, v7 = wV v3 214 l3.toNatClampNeg ((v3.1 214 l3.toNatClampNeg) + r4) → aX6_passEvening G (d + 1) 4 [some (.ref 200), some (.int l1), some (.int (l2 + r4)), some (.int (l3 + 1)), none] [] z v7 Q)))))))))) :
    aX6_passEvening G (d + 1) 4 [some (.ref 200), some (.int l1), some (.int l2), some (.int l3), none] [] z v Q := by
  refine AW_iload_n dX6_passEvening_4 rfl rfl ?_
  refine AW_aload_n dX6_passEvening_5 rfl rfl ?_
  refine AW_getI dX6_passEvening_6 (bI_200 B) fl_X6_154 ?_
  refine AW_icmp_ge (tgt := 46) dX6_passEvening_9 (by decide) (fun c => ?_) (fun c => ?_)
  · replace H := H.1 c
    refine AW_iload_n dX6_passEvening_46 rfl rfl ?_
    exact AW_rI dX6_passEvening_47 rfl rfl H
  · replace H := H.2 c
    refine AW_aload_n dX6_passEvening_12 rfl rfl ?_
    refine AW_iload_n dX6_passEvening_13 rfl rfl ?_
    refine AW_iload_n dX6_passEvening_14 rfl rfl ?_
    refine AW_iload_n dX6_passEvening_15 rfl rfl ?_
    refine AW_sI (as := [(.int l1), (.int l3)]) (st := [(.int l3), (.ref 200)]) dX6_passEvening_16 mv_X6_tuneOf ms_X6_tuneOf ml_X6_198 (Nat.le_of_ble_eq_true rfl) rfl (Nat.le_refl 0) (Nat.le_refl 0) H (fun r2 v1 H => ?_)
    refine AW_vI (as := [(.int l3), (.int r2)]) (st := []) dX6_passEvening_19 (bI_200 B) (by decide) rfl mv_X6_play mi_X6_play ml_X6_201 (Nat.le_of_ble_eq_true rfl) rfl (Nat.le_refl 0) (Nat.le_refl 0) H (fun r4 v3 H => ?_)
    refine AW_istore (L' := [some (.ref 200), some (.int l1), some (.int l2), some (.int l3), some (.int r4)]) dX6_passEvening_22 (by decide) rfl ?_
    refine AW_aload_n dX6_passEvening_24 rfl rfl ?_
    refine AW_getR dX6_passEvening_25 (bI_200 B) fl_X6_40 (bR_200_14 B) ?_
    refine AW_iload_n dX6_passEvening_28 rfl rfl ?_
    refine AW_dup2 dX6_passEvening_29 rfl rfl ?_
    have hi5 := H.1
    replace H := H.2
    refine AW_iald dX6_passEvening_30 (bI_214 B) hi5 ?_
    refine AW_iload dX6_passEvening_31 rfl ?_
    refine AW_iadd dX6_passEvening_33 ?_
    have hi6 := H.1
    replace H := H.2
    refine AW_iastN dX6_passEvening_34 (bI_214 B) hi6 (fun v7 hv7 => ?_)
    replace H := H v7 hv7
    refine AW_iload_n dX6_passEvening_35 rfl rfl ?_
    refine AW_iload dX6_passEvening_36 rfl ?_
    refine AW_iadd dX6_passEvening_38 ?_
    refine AW_istore_n (L' := [some (.ref 200), some (.int l1), some (.int (l2 + r4)), some (.int l3), some (.int r4)]) dX6_passEvening_39 rfl (by decide) rfl ?_
    refine AW_iinc (x' := l3 + 1) (L' := [some (.ref 200), some (.int l1), some (.int (l2 + r4)), some (.int (l3 + 1)), some (.int r4)]) dX6_passEvening_40 rfl rfl (by decide) rfl ?_
    refine AW_goto (tgt := 4) dX6_passEvening_43 (by decide) ?_
    refine AW_sub (L' := [some (.ref 200), some (.int l1), some (.int (l2 + r4)), some (.int (l3 + 1)), none]) (show xle _ _ from ⟨rfl, ⟨rfl, ⟨rfl, ⟨rfl, trivial⟩⟩⟩⟩) ?_
    exact H
set_option maxRecDepth 100000 in
set_option maxHeartbeats 4000000 in
theorem vc_X6_write {G : xG} {d : Nat} {z : xZ} {v : xS} {Q : xS → Prop} (B : Base z) {g ng : Nat} {xa : Int32} (hg : xin z g 10 ng)
    (H : aX6_write G (d + 1) 2 [some (.ref 200), some (.ref g), some (.int xa), some (.int 0)] [] z v Q) :
    oX6_write G (d + 1) [(.ref 200), (.ref g), (.int xa)] z v Q := by
  refine Ok_of (own := RX6) (by decide) rfl (Nat.le_of_ble_eq_true rfl) ?_
  show AW G (d + 1) 0 0 yX6_write cX6_write 4 none RX6 0 0 0 [some (.ref 200), some (.ref g), some (.int xa), none] [] z v _
  refine AW_iconst (x := 0) dX6_write_0 (by decide) ?_
  refine AW_istore_n (L' := [some (.ref 200), some (.ref g), some (.int xa), some (.int 0)]) dX6_write_1 rfl (by decide) rfl ?_
  exact H
set_option maxRecDepth 100000 in
set_option maxHeartbeats 4000000 in
theorem vc_X6_write_2 {G : xG} {d : Nat} {z : xZ} {v : xS} {Q : xS → Prop} (B : Base z) {g ng : Nat} {l2 : Int32} {l3 : Int32} (hg : xin z g 10 ng)
    (H : ((10 ≤ l3 → aX6_write G (d + 1) 27 [some (.ref 200), some (.ref g), some (.int l2), some (.int 0)] [] z v Q) ∧ (¬ 10 ≤ l3 → (vp_in l3 10 ∧ (vp_in (l2 + l3) ng ∧ (∀ v3 : xS, v3 = wV v g (l2 + l3).toNatClampNeg (v.1 210 l3.toNatClampNeg) → aX6_write G (d + 1) 2 [some (.ref 200), some (.ref g), some (.int l2), some (.int (l3 + 1))] [] z v3 Q)))))) :
    aX6_write G (d + 1) 2 [some (.ref 200), some (.ref g), some (.int l2), some (.int l3)] [] z v Q := by
  refine AW_iload_n dX6_write_2 rfl rfl ?_
  refine AW_bipush (x := 10) dX6_write_3 (by decide) ?_
  refine AW_icmp_ge (tgt := 25) dX6_write_5 (by decide) (fun c => ?_) (fun c => ?_)
  · replace H := H.1 c
    refine AW_iconst (x := 0) dX6_write_25 (by decide) ?_
    refine AW_istore_n (L' := [some (.ref 200), some (.ref g), some (.int l2), some (.int 0)]) dX6_write_26 rfl (by decide) rfl ?_
    exact H
  · replace H := H.2 c
    refine AW_aload_n dX6_write_8 rfl rfl ?_
    refine AW_iload_n dX6_write_9 rfl rfl ?_
    refine AW_iload_n dX6_write_10 rfl rfl ?_
    refine AW_iadd dX6_write_11 ?_
    refine AW_aload_n dX6_write_12 rfl rfl ?_
    refine AW_getR dX6_write_13 (bI_200 B) fl_X6_28 (bR_200_10 B) ?_
    refine AW_iload_n dX6_write_16 rfl rfl ?_
    have hi1 := H.1
    replace H := H.2
    refine AW_iald dX6_write_17 (bI_210 B) hi1 ?_
    have hi2 := H.1
    replace H := H.2
    refine AW_iastN dX6_write_18 hg hi2 (fun v3 hv3 => ?_)
    replace H := H v3 hv3
    refine AW_iinc (x' := l3 + 1) (L' := [some (.ref 200), some (.ref g), some (.int l2), some (.int (l3 + 1))]) dX6_write_19 rfl rfl (by decide) rfl ?_
    refine AW_goto (tgt := 2) dX6_write_22 (by decide) ?_
    exact H
set_option maxRecDepth 100000 in
set_option maxHeartbeats 4000000 in
theorem vc_X6_write_27 {G : xG} {d : Nat} {z : xZ} {v : xS} {Q : xS → Prop} (B : Base z) {g ng : Nat} {l2 : Int32} {l3 : Int32} (hg : xin z g 10 ng)
    (H : ((3 ≤ l3 → Q v) ∧ (¬ 3 ≤ l3 → (vp_in l3 3 ∧ (vp_in ((l2 + 10) + l3) ng ∧ (∀ v3 : xS, v3 = wV v g ((l2 + 10) + l3).toNatClampNeg (v.1 214 l3.toNatClampNeg) → aX6_write G (d + 1) 27 [some (.ref 200), some (.ref g), some (.int l2), some (.int (l3 + 1))] [] z v3 Q)))))) :
    aX6_write G (d + 1) 27 [some (.ref 200), some (.ref g), some (.int l2), some (.int l3)] [] z v Q := by
  refine AW_iload_n dX6_write_27 rfl rfl ?_
  refine AW_iconst (x := 3) dX6_write_28 (by decide) ?_
  refine AW_icmp_ge (tgt := 52) dX6_write_29 (by decide) (fun c => ?_) (fun c => ?_)
  · replace H := H.1 c
    exact AW_rV dX6_write_52 rfl H
  · replace H := H.2 c
    refine AW_aload_n dX6_write_32 rfl rfl ?_
    refine AW_iload_n dX6_write_33 rfl rfl ?_
    refine AW_bipush (x := 10) dX6_write_34 (by decide) ?_
    refine AW_iadd dX6_write_36 ?_
    refine AW_iload_n dX6_write_37 rfl rfl ?_
    refine AW_iadd dX6_write_38 ?_
    refine AW_aload_n dX6_write_39 rfl rfl ?_
    refine AW_getR dX6_write_40 (bI_200 B) fl_X6_40 (bR_200_14 B) ?_
    refine AW_iload_n dX6_write_43 rfl rfl ?_
    have hi1 := H.1
    replace H := H.2
    refine AW_iald dX6_write_44 (bI_214 B) hi1 ?_
    have hi2 := H.1
    replace H := H.2
    refine AW_iastN dX6_write_45 hg hi2 (fun v3 hv3 => ?_)
    replace H := H v3 hv3
    refine AW_iinc (x' := l3 + 1) (L' := [some (.ref 200), some (.ref g), some (.int l2), some (.int (l3 + 1))]) dX6_write_46 rfl rfl (by decide) rfl ?_
    refine AW_goto (tgt := 27) dX6_write_49 (by decide) ?_
    exact H
set_option maxRecDepth 100000 in
set_option maxHeartbeats 4000000 in
theorem vc_X6_read {G : xG} {d : Nat} {z : xZ} {v : xS} {Q : xS → Prop} (B : Base z) {g ng : Nat} {xa : Int32} (hg : xin z g 10 ng)
    (H : aX6_read G (d + 1) 2 [some (.ref 200), some (.ref g), some (.int xa), some (.int 0)] [] z v Q) :
    oX6_read G (d + 1) [(.ref 200), (.ref g), (.int xa)] z v Q := by
  refine Ok_of (own := RX6) (by decide) rfl (Nat.le_of_ble_eq_true rfl) ?_
  show AW G (d + 1) 0 0 yX6_read cX6_read 4 none RX6 0 0 0 [some (.ref 200), some (.ref g), some (.int xa), none] [] z v _
  refine AW_iconst (x := 0) dX6_read_0 (by decide) ?_
  refine AW_istore_n (L' := [some (.ref 200), some (.ref g), some (.int xa), some (.int 0)]) dX6_read_1 rfl (by decide) rfl ?_
  exact H
set_option maxRecDepth 100000 in
set_option maxHeartbeats 4000000 in
theorem vc_X6_read_2 {G : xG} {d : Nat} {z : xZ} {v : xS} {Q : xS → Prop} (B : Base z) {g ng : Nat} {l2 : Int32} {l3 : Int32} (hg : xin z g 10 ng)
    (H : ((10 ≤ l3 → aX6_read G (d + 1) 27 [some (.ref 200), some (.ref g), some (.int l2), some (.int 0)] [] z v Q) ∧ (¬ 10 ≤ l3 → (vp_in (l2 + l3) ng ∧ (vp_in l3 10 ∧ (∀ v3 : xS, v3 = wV v 210 l3.toNatClampNeg (v.1 g (l2 + l3).toNatClampNeg) → aX6_read G (d + 1) 2 [some (.ref 200), some (.ref g), some (.int l2), some (.int (l3 + 1))] [] z v3 Q)))))) :
    aX6_read G (d + 1) 2 [some (.ref 200), some (.ref g), some (.int l2), some (.int l3)] [] z v Q := by
  refine AW_iload_n dX6_read_2 rfl rfl ?_
  refine AW_bipush (x := 10) dX6_read_3 (by decide) ?_
  refine AW_icmp_ge (tgt := 25) dX6_read_5 (by decide) (fun c => ?_) (fun c => ?_)
  · replace H := H.1 c
    refine AW_iconst (x := 0) dX6_read_25 (by decide) ?_
    refine AW_istore_n (L' := [some (.ref 200), some (.ref g), some (.int l2), some (.int 0)]) dX6_read_26 rfl (by decide) rfl ?_
    exact H
  · replace H := H.2 c
    refine AW_aload_n dX6_read_8 rfl rfl ?_
    refine AW_getR dX6_read_9 (bI_200 B) fl_X6_28 (bR_200_10 B) ?_
    refine AW_iload_n dX6_read_12 rfl rfl ?_
    refine AW_aload_n dX6_read_13 rfl rfl ?_
    refine AW_iload_n dX6_read_14 rfl rfl ?_
    refine AW_iload_n dX6_read_15 rfl rfl ?_
    refine AW_iadd dX6_read_16 ?_
    have hi1 := H.1
    replace H := H.2
    refine AW_iald dX6_read_17 hg hi1 ?_
    have hi2 := H.1
    replace H := H.2
    refine AW_iastN dX6_read_18 (bI_210 B) hi2 (fun v3 hv3 => ?_)
    replace H := H v3 hv3
    refine AW_iinc (x' := l3 + 1) (L' := [some (.ref 200), some (.ref g), some (.int l2), some (.int (l3 + 1))]) dX6_read_19 rfl rfl (by decide) rfl ?_
    refine AW_goto (tgt := 2) dX6_read_22 (by decide) ?_
    exact H
set_option maxRecDepth 100000 in
set_option maxHeartbeats 4000000 in
theorem vc_X6_read_27 {G : xG} {d : Nat} {z : xZ} {v : xS} {Q : xS → Prop} (B : Base z) {g ng : Nat} {l2 : Int32} {l3 : Int32} (hg : xin z g 10 ng)
    (H : ((3 ≤ l3 → Q v) ∧ (¬ 3 ≤ l3 → (vp_in ((l2 + 10) + l3) ng ∧ (vp_in l3 3 ∧ (∀ v3 : xS, v3 = wV v 214 l3.toNatClampNeg (v.1 g ((l2 + 10) + l3).toNatClampNeg) → aX6_read G (d + 1) 27 [some (.ref 200), some (.ref g), some (.int l2), some (.int (l3 + 1))] [] z v3 Q)))))) :
    aX6_read G (d + 1) 27 [some (.ref 200), some (.ref g), some (.int l2), some (.int l3)] [] z v Q := by
  refine AW_iload_n dX6_read_27 rfl rfl ?_
  refine AW_iconst (x := 3) dX6_read_28 (by decide) ?_
  refine AW_icmp_ge (tgt := 52) dX6_read_29 (by decide) (fun c => ?_) (fun c => ?_)
  · replace H := H.1 c
    exact AW_rV dX6_read_52 rfl H
  · replace H := H.2 c
    refine AW_aload_n dX6_read_32 rfl rfl ?_
    refine AW_getR dX6_read_33 (bI_200 B) fl_X6_40 (bR_200_14 B) ?_
    refine AW_iload_n dX6_read_36 rfl rfl ?_
    refine AW_aload_n dX6_read_37 rfl rfl ?_
    refine AW_iload_n dX6_read_38 rfl rfl ?_
    refine AW_bipush (x := 10) dX6_read_39 (by decide) ?_
    refine AW_iadd dX6_read_41 ?_
    refine AW_iload_n dX6_read_42 rfl rfl ?_
    refine AW_iadd dX6_read_43 ?_
    have hi1 := H.1
    replace H := H.2
    refine AW_iald dX6_read_44 hg hi1 ?_
    have hi2 := H.1
    replace H := H.2
    refine AW_iastN dX6_read_45 (bI_214 B) hi2 (fun v3 hv3 => ?_)
    replace H := H v3 hv3
    refine AW_iinc (x' := l3 + 1) (L' := [some (.ref 200), some (.ref g), some (.int l2), some (.int (l3 + 1))]) dX6_read_46 rfl rfl (by decide) rfl ?_
    refine AW_goto (tgt := 27) dX6_read_49 (by decide) ?_
    exact H
set_option maxRecDepth 100000 in
set_option maxHeartbeats 4000000 in
theorem vc_X6_wouldMove {G : xG} {d : Nat} {z : xZ} {v : xS} {Q : Int32 → xS → Prop} (B : Base z) {xa : Int32} {xb : Int32} 
    (H : (oX6_write G d [(.ref 200), (.ref 223), (.int 0)] z v (fun v1 => (oX6_play G d [(.ref 200), (.int xa), (.int xb)] z v1 (fun r3 v2 => (oX6_read G d [(.ref 200), (.ref 223), (.int 0)] z v2 (fun v4 => Q r3 v4))))))) :
    oX6_wouldMove G (d + 1) [(.ref 200), (.int xa), (.int xb)] z v Q := by
  refine Ok_of (own := RX6) (by decide) rfl (Nat.le_of_ble_eq_true rfl) ?_
  show AW G (d + 1) 0 0 yX6_wouldMove cX6_wouldMove 4 (some .int) RX6 0 0 0 [some (.ref 200), some (.int xa), some (.int xb), none] [] z v _
  refine AW_aload_n dX6_wouldMove_0 rfl rfl ?_
  refine AW_aload_n dX6_wouldMove_1 rfl rfl ?_
  refine AW_getR dX6_wouldMove_2 (bI_200 B) fl_X6_55 (bR_200_23 B) ?_
  refine AW_iconst (x := 0) dX6_wouldMove_5 (by decide) ?_
  refine AW_vV (as := [(.ref 223), (.int 0)]) (st := []) dX6_wouldMove_6 (bI_200 B) (by decide) rfl mv_X6_write mi_X6_write ml_X6_204 (Nat.le_of_ble_eq_true rfl) rfl (Nat.le_refl 0) (Nat.le_refl 0) H (fun v1 H => ?_)
  refine AW_aload_n dX6_wouldMove_9 rfl rfl ?_
  refine AW_iload_n dX6_wouldMove_10 rfl rfl ?_
  refine AW_iload_n dX6_wouldMove_11 rfl rfl ?_
  refine AW_vI (as := [(.int xa), (.int xb)]) (st := []) dX6_wouldMove_12 (bI_200 B) (by decide) rfl mv_X6_play mi_X6_play ml_X6_201 (Nat.le_of_ble_eq_true rfl) rfl (Nat.le_refl 0) (Nat.le_refl 0) H (fun r3 v2 H => ?_)
  refine AW_istore_n (L' := [some (.ref 200), some (.int xa), some (.int xb), some (.int r3)]) dX6_wouldMove_15 rfl (by decide) rfl ?_
  refine AW_aload_n dX6_wouldMove_16 rfl rfl ?_
  refine AW_aload_n dX6_wouldMove_17 rfl rfl ?_
  refine AW_getR dX6_wouldMove_18 (bI_200 B) fl_X6_55 (bR_200_23 B) ?_
  refine AW_iconst (x := 0) dX6_wouldMove_21 (by decide) ?_
  refine AW_vV (as := [(.ref 223), (.int 0)]) (st := []) dX6_wouldMove_22 (bI_200 B) (by decide) rfl mv_X6_read mi_X6_read ml_X6_208 (Nat.le_of_ble_eq_true rfl) rfl (Nat.le_refl 0) (Nat.le_refl 0) H (fun v4 H => ?_)
  refine AW_iload_n dX6_wouldMove_25 rfl rfl ?_
  exact AW_rI dX6_wouldMove_26 rfl rfl H
set_option maxRecDepth 100000 in
set_option maxHeartbeats 4000000 in
theorem vc_X6_mark {G : xG} {d : Nat} {z : xZ} {v : xS} {Q : Int32 → xS → Prop} (B : Base z) {xa : Int32} {xb : Int32} 
    (H : (oX6_isBand G d [(.ref 200), (.int xa)] z v (fun r2 v1 => ((r2 = 0 → Q (-1) v1) ∧ (¬ r2 = 0 → (oX6_in G d [(.int xb), (.int 1), (.int 5)] z v1 (fun r4 v3 => ((¬ r4 = 0 → (oX6_isA G d [(.ref 200), (.int xa), (.int xb)] z v3 (fun r6 v5 => ((¬ r6 = 0 → aX6_mark G (d + 1) 39 [some (.ref 200), some (.int xa), some (.int xb), some (.int 0), some (.int 0)] [] z v5 Q) ∧ (r6 = 0 → (oX6_meet G d [(.ref 200), (.int 3)] z v5 (fun r8 v7 => Q r8 v7))))))) ∧ (r4 = 0 → Q (-1) v3))))))))) :
    oX6_mark G (d + 1) [(.ref 200), (.int xa), (.int xb)] z v Q := by
  refine Ok_of (own := RX6) (by decide) rfl (Nat.le_of_ble_eq_true rfl) ?_
  show AW G (d + 1) 0 0 yX6_mark cX6_mark 5 (some .int) RX6 0 0 0 [some (.ref 200), some (.int xa), some (.int xb), none, none] [] z v _
  refine AW_aload_n dX6_mark_0 rfl rfl ?_
  refine AW_iload_n dX6_mark_1 rfl rfl ?_
  refine AW_vI (as := [(.int xa)]) (st := []) dX6_mark_2 (bI_200 B) (by decide) rfl mv_X6_isBand mi_X6_isBand ml_X6_179 (Nat.le_of_ble_eq_true rfl) rfl (Nat.le_refl 0) (Nat.le_refl 0) H (fun r2 v1 H => ?_)
  refine AW_if_eq (tgt := 17) dX6_mark_5 (by decide) (fun c => ?_) (fun c => ?_)
  · replace H := H.1 c
    refine AW_iconst (x := (-1)) dX6_mark_17 (by decide) ?_
    exact AW_rI dX6_mark_18 rfl rfl H
  · replace H := H.2 c
    refine AW_iload_n dX6_mark_8 rfl rfl ?_
    refine AW_iconst (x := 1) dX6_mark_9 (by decide) ?_
    refine AW_iconst (x := 5) dX6_mark_10 (by decide) ?_
    refine AW_sI (as := [(.int xb), (.int 1), (.int 5)]) (st := []) dX6_mark_11 mv_X6_in ms_X6_in ml_X6_92 (Nat.le_of_ble_eq_true rfl) rfl (Nat.le_refl 0) (Nat.le_refl 0) H (fun r4 v3 H => ?_)
    refine AW_if_ne (tgt := 19) dX6_mark_14 (by decide) (fun c => ?_) (fun c => ?_)
    · replace H := H.1 c
      refine AW_aload_n dX6_mark_19 rfl rfl ?_
      refine AW_iload_n dX6_mark_20 rfl rfl ?_
      refine AW_iload_n dX6_mark_21 rfl rfl ?_
      refine AW_vI (as := [(.int xa), (.int xb)]) (st := []) dX6_mark_22 (bI_200 B) (by decide) rfl mv_X6_isA mi_X6_isA ml_X6_188 (Nat.le_of_ble_eq_true rfl) rfl (Nat.le_refl 0) (Nat.le_refl 0) H (fun r6 v5 H => ?_)
      refine AW_if_ne (tgt := 34) dX6_mark_25 (by decide) (fun c => ?_) (fun c => ?_)
      · replace H := H.1 c
        refine AW_iconst (x := 0) dX6_mark_34 (by decide) ?_
        refine AW_istore_n (L' := [some (.ref 200), some (.int xa), some (.int xb), some (.int 0), none]) dX6_mark_35 rfl (by decide) rfl ?_
        refine AW_iconst (x := 0) dX6_mark_36 (by decide) ?_
        refine AW_istore (L' := [some (.ref 200), some (.int xa), some (.int xb), some (.int 0), some (.int 0)]) dX6_mark_37 (by decide) rfl ?_
        exact H
      · replace H := H.2 c
        refine AW_aload_n dX6_mark_28 rfl rfl ?_
        refine AW_iconst (x := 3) dX6_mark_29 (by decide) ?_
        refine AW_vI (as := [(.int 3)]) (st := []) dX6_mark_30 (bI_200 B) (by decide) rfl mv_X6_meet mi_X6_meet ml_X6_100 (Nat.le_of_ble_eq_true rfl) rfl (Nat.le_refl 0) (Nat.le_refl 0) H (fun r8 v7 H => ?_)
        exact AW_rI dX6_mark_33 rfl rfl H
    · replace H := H.2 c
      refine AW_iconst (x := (-1)) dX6_mark_17 (by decide) ?_
      exact AW_rI dX6_mark_18 rfl rfl H
set_option maxRecDepth 100000 in
set_option maxHeartbeats 4000000 in
theorem vc_X6_mark_39 {G : xG} {d : Nat} {z : xZ} {v : xS} {Q : Int32 → xS → Prop} (B : Base z)  {l1 : Int32} {l2 : Int32} {l3 : Int32} {l4 : Int32} 
    (H : (((v.1 200 8) ≤ l4 → ((¬ l2 = 1 → ((¬ l2 = 2 → ((¬ l2 = 3 → ((¬ l2 = 4 → (oX6_wouldMove G d [(.ref 200), (.int l1), (.int 2)] z v (fun r2 v1 => Q r2 v1))) ∧ (l2 = 4 → (vp_in l1 3 ∧ Q (v.1 213 l1.toNatClampNeg) v)))) ∧ (l2 = 3 → (vp_in l1 3 ∧ Q (((v.1 200 8) - 1) - (v.1 212 l1.toNatClampNeg)) v)))) ∧ (l2 = 2 → Q l3 v))) ∧ (l2 = 1 → (oX6_wouldMove G d [(.ref 200), (.int l1), (.int 1)] z v (fun r6 v5 => Q r6 v5))))) ∧ (¬ (v.1 200 8) ≤ l4 → (oX6_isHeard G d [(.ref 200), (.int l1), (.int l4)] z v (fun r8 v7 => ((r8 = 0 → aX6_mark G (d + 1) 39 [some (.ref 200), some (.int l1), some (.int l2), some (.int (l3 + 0)), some (.int (l4 + 1))] [] z v7 Q) ∧ (¬ r8 = 0 → (vp_in l4 10 ∧ ((2 ≤ (v7.1 210 l4.toNatClampNeg) → aX6_mark G (d + 1) 39 [some (.ref 200), some (.int l1), some (.int l2), some (.int (l3 + 0)), some (.int (l4 + 1))] [] z v7 Q) ∧ (¬ 2 ≤ (v7.1 210 l4.toNatClampNeg) → aX6_mark G (d + 1) 39 [some (.ref 200), some (.int l1), some (.int l2), some (.int (l3 + 1)), some (.int (l4 + 1))] [] z v7 Q)))))))))) :
    aX6_mark G (d + 1) 39 [some (.ref 200), some (.int l1), some (.int l2), some (.int l3), some (.int l4)] [] z v Q := by
  refine AW_iload dX6_mark_39 rfl ?_
  refine AW_aload_n dX6_mark_41 rfl rfl ?_
  refine AW_getI dX6_mark_42 (bI_200 B) fl_X6_151 ?_
  refine AW_icmp_ge (tgt := 83) dX6_mark_45 (by decide) (fun c => ?_) (fun c => ?_)
  · replace H := H.1 c
    refine AW_iload_n dX6_mark_83 rfl rfl ?_
    refine AW_iconst (x := 1) dX6_mark_84 (by decide) ?_
    refine AW_icmp_ne (tgt := 97) dX6_mark_85 (by decide) (fun c => ?_) (fun c => ?_)
    · replace H := H.1 c
      refine AW_iload_n dX6_mark_97 rfl rfl ?_
      refine AW_iconst (x := 2) dX6_mark_98 (by decide) ?_
      refine AW_icmp_ne (tgt := 106) dX6_mark_99 (by decide) (fun c => ?_) (fun c => ?_)
      · replace H := H.1 c
        refine AW_iload_n dX6_mark_106 rfl rfl ?_
        refine AW_iconst (x := 3) dX6_mark_107 (by decide) ?_
        refine AW_icmp_ne (tgt := 127) dX6_mark_108 (by decide) (fun c => ?_) (fun c => ?_)
        · replace H := H.1 c
          refine AW_iload_n dX6_mark_127 rfl rfl ?_
          refine AW_iconst (x := 4) dX6_mark_128 (by decide) ?_
          refine AW_icmp_ne (tgt := 141) dX6_mark_129 (by decide) (fun c => ?_) (fun c => ?_)
          · replace H := H.1 c
            refine AW_aload_n dX6_mark_141 rfl rfl ?_
            refine AW_iload_n dX6_mark_142 rfl rfl ?_
            refine AW_iconst (x := 2) dX6_mark_143 (by decide) ?_
            refine AW_vI (as := [(.int l1), (.int 2)]) (st := []) dX6_mark_144 (bI_200 B) (by decide) rfl mv_X6_wouldMove mi_X6_wouldMove ml_X6_211 (Nat.le_of_ble_eq_true rfl) rfl (Nat.le_refl 0) (Nat.le_refl 0) H (fun r2 v1 H => ?_)
            exact AW_rI dX6_mark_147 rfl rfl H
          · replace H := H.2 c
            refine AW_aload_n dX6_mark_132 rfl rfl ?_
            refine AW_getR dX6_mark_133 (bI_200 B) fl_X6_37 (bR_200_13 B) ?_
            refine AW_iload_n dX6_mark_136 rfl rfl ?_
            have hi3 := H.1
            replace H := H.2
            refine AW_iald dX6_mark_137 (bI_213 B) hi3 ?_
            refine AW_goto (tgt := 147) dX6_mark_138 (by decide) ?_
            exact AW_rI dX6_mark_147 rfl rfl H
        · replace H := H.2 c
          refine AW_aload_n dX6_mark_111 rfl rfl ?_
          refine AW_getI dX6_mark_112 (bI_200 B) fl_X6_151 ?_
          refine AW_iconst (x := 1) dX6_mark_115 (by decide) ?_
          refine AW_isub dX6_mark_116 ?_
          refine AW_aload_n dX6_mark_117 rfl rfl ?_
          refine AW_getR dX6_mark_118 (bI_200 B) fl_X6_34 (bR_200_12 B) ?_
          refine AW_iload_n dX6_mark_121 rfl rfl ?_
          have hi4 := H.1
          replace H := H.2
          refine AW_iald dX6_mark_122 (bI_212 B) hi4 ?_
          refine AW_isub dX6_mark_123 ?_
          refine AW_goto (tgt := 147) dX6_mark_124 (by decide) ?_
          exact AW_rI dX6_mark_147 rfl rfl H
      · replace H := H.2 c
        refine AW_iload_n dX6_mark_102 rfl rfl ?_
        refine AW_goto (tgt := 147) dX6_mark_103 (by decide) ?_
        exact AW_rI dX6_mark_147 rfl rfl H
    · replace H := H.2 c
      refine AW_aload_n dX6_mark_88 rfl rfl ?_
      refine AW_iload_n dX6_mark_89 rfl rfl ?_
      refine AW_iconst (x := 1) dX6_mark_90 (by decide) ?_
      refine AW_vI (as := [(.int l1), (.int 1)]) (st := []) dX6_mark_91 (bI_200 B) (by decide) rfl mv_X6_wouldMove mi_X6_wouldMove ml_X6_211 (Nat.le_of_ble_eq_true rfl) rfl (Nat.le_refl 0) (Nat.le_refl 0) H (fun r6 v5 H => ?_)
      refine AW_goto (tgt := 147) dX6_mark_94 (by decide) ?_
      exact AW_rI dX6_mark_147 rfl rfl H
  · replace H := H.2 c
    refine AW_iload_n dX6_mark_48 rfl rfl ?_
    refine AW_aload_n dX6_mark_49 rfl rfl ?_
    refine AW_iload_n dX6_mark_50 rfl rfl ?_
    refine AW_iload dX6_mark_51 rfl ?_
    refine AW_vI (as := [(.int l1), (.int l4)]) (st := [(.int l3)]) dX6_mark_53 (bI_200 B) (by decide) rfl mv_X6_isHeard mi_X6_isHeard ml_X6_172 (Nat.le_of_ble_eq_true rfl) rfl (Nat.le_refl 0) (Nat.le_refl 0) H (fun r8 v7 H => ?_)
    refine AW_if_eq (tgt := 74) dX6_mark_56 (by decide) (fun c => ?_) (fun c => ?_)
    · replace H := H.1 c
      refine AW_iconst (x := 0) dX6_mark_74 (by decide) ?_
      refine AW_iadd dX6_mark_75 ?_
      refine AW_istore_n (L' := [some (.ref 200), some (.int l1), some (.int l2), some (.int (l3 + 0)), some (.int l4)]) dX6_mark_76 rfl (by decide) rfl ?_
      refine AW_iinc (x' := l4 + 1) (L' := [some (.ref 200), some (.int l1), some (.int l2), some (.int (l3 + 0)), some (.int (l4 + 1))]) dX6_mark_77 rfl rfl (by decide) rfl ?_
      refine AW_goto (tgt := 39) dX6_mark_80 (by decide) ?_
      exact H
    · replace H := H.2 c
      refine AW_aload_n dX6_mark_59 rfl rfl ?_
      refine AW_getR dX6_mark_60 (bI_200 B) fl_X6_28 (bR_200_10 B) ?_
      refine AW_iload dX6_mark_63 rfl ?_
      have hi9 := H.1
      replace H := H.2
      refine AW_iald dX6_mark_65 (bI_210 B) hi9 ?_
      refine AW_iconst (x := 2) dX6_mark_66 (by decide) ?_
      refine AW_icmp_ge (tgt := 74) dX6_mark_67 (by decide) (fun c => ?_) (fun c => ?_)
      · replace H := H.1 c
        refine AW_iconst (x := 0) dX6_mark_74 (by decide) ?_
        refine AW_iadd dX6_mark_75 ?_
        refine AW_istore_n (L' := [some (.ref 200), some (.int l1), some (.int l2), some (.int (l3 + 0)), some (.int l4)]) dX6_mark_76 rfl (by decide) rfl ?_
        refine AW_iinc (x' := l4 + 1) (L' := [some (.ref 200), some (.int l1), some (.int l2), some (.int (l3 + 0)), some (.int (l4 + 1))]) dX6_mark_77 rfl rfl (by decide) rfl ?_
        refine AW_goto (tgt := 39) dX6_mark_80 (by decide) ?_
        exact H
      · replace H := H.2 c
        refine AW_iconst (x := 1) dX6_mark_70 (by decide) ?_
        refine AW_goto (tgt := 75) dX6_mark_71 (by decide) ?_
        refine AW_iadd dX6_mark_75 ?_
        refine AW_istore_n (L' := [some (.ref 200), some (.int l1), some (.int l2), some (.int (l3 + 1)), some (.int l4)]) dX6_mark_76 rfl (by decide) rfl ?_
        refine AW_iinc (x' := l4 + 1) (L' := [some (.ref 200), some (.int l1), some (.int l2), some (.int (l3 + 1)), some (.int (l4 + 1))]) dX6_mark_77 rfl rfl (by decide) rfl ?_
        refine AW_goto (tgt := 39) dX6_mark_80 (by decide) ?_
        exact H
set_option maxRecDepth 100000 in
set_option maxHeartbeats 4000000 in
theorem vc_X6_isSet {G : xG} {d : Nat} {z : xZ} {v : xS} {Q : Int32 → xS → Prop} (B : Base z) {xa : Int32} 
    (H : (oX6_in G d [(.int xa), (.int 0), (.int ((1 <<< ((v.1 200 8) &&& 31)) - 1))] z v (fun r2 v1 => (xbl r2 ∧ Q r2 v1)))) :
    oX6_isSet G (d + 1) [(.ref 200), (.int xa)] z v Q := by
  refine Ok_of (own := RX6) (by decide) rfl (Nat.le_of_ble_eq_true rfl) ?_
  show AW G (d + 1) 0 0 yX6_isSet cX6_isSet 2 (some .boolean) RX6 0 0 0 [some (.ref 200), some (.int xa)] [] z v _
  refine AW_iload_n dX6_isSet_0 rfl rfl ?_
  refine AW_iconst (x := 0) dX6_isSet_1 (by decide) ?_
  refine AW_iconst (x := 1) dX6_isSet_2 (by decide) ?_
  refine AW_aload_n dX6_isSet_3 rfl rfl ?_
  refine AW_getI dX6_isSet_4 (bI_200 B) fl_X6_151 ?_
  refine AW_ishl dX6_isSet_7 ?_
  refine AW_iconst (x := 1) dX6_isSet_8 (by decide) ?_
  refine AW_isub dX6_isSet_9 ?_
  refine AW_sI (as := [(.int xa), (.int 0), (.int ((1 <<< ((v.1 200 8) &&& 31)) - 1))]) (st := []) dX6_isSet_10 mv_X6_in ms_X6_in ml_X6_92 (Nat.le_of_ble_eq_true rfl) rfl (Nat.le_refl 0) (Nat.le_refl 0) H (fun r2 v1 H => ?_)
  exact AW_rI dX6_isSet_13 rfl H.1 H.2
set_option maxRecDepth 100000 in
set_option maxHeartbeats 4000000 in
theorem vc_X6_frost {G : xG} {d : Nat} {z : xZ} {v : xS} {Q : Int32 → xS → Prop} (B : Base z) {xa : Int32} 
    (H : (oX6_isSet G d [(.ref 200), (.int xa)] z v (fun r2 v1 => ((¬ r2 = 0 → (∀ v3 : xS, v3 = wV v1 200 15 xa → Q (v1.1 200 15) v3)) ∧ (r2 = 0 → Q (-1) v1))))) :
    oX6_frost G (d + 1) [(.ref 200), (.int xa)] z v Q := by
  refine Ok_of (own := RX6) (by decide) rfl (Nat.le_of_ble_eq_true rfl) ?_
  show AW G (d + 1) 0 0 yX6_frost cX6_frost 3 (some .int) RX6 0 0 0 [some (.ref 200), some (.int xa), none] [] z v _
  refine AW_aload_n dX6_frost_0 rfl rfl ?_
  refine AW_iload_n dX6_frost_1 rfl rfl ?_
  refine AW_vI (as := [(.int xa)]) (st := []) dX6_frost_2 (bI_200 B) (by decide) rfl mv_X6_isSet mi_X6_isSet ml_X6_214 (Nat.le_of_ble_eq_true rfl) rfl (Nat.le_refl 0) (Nat.le_refl 0) H (fun r2 v1 H => ?_)
  refine AW_if_ne (tgt := 10) dX6_frost_5 (by decide) (fun c => ?_) (fun c => ?_)
  · replace H := H.1 c
    refine AW_aload_n dX6_frost_10 rfl rfl ?_
    refine AW_getI dX6_frost_11 (bI_200 B) fl_X6_157 ?_
    refine AW_istore_n (L' := [some (.ref 200), some (.int xa), some (.int (v1.1 200 15))]) dX6_frost_14 rfl (by decide) rfl ?_
    refine AW_aload_n dX6_frost_15 rfl rfl ?_
    refine AW_iload_n dX6_frost_16 rfl rfl ?_
    refine AW_putIN dX6_frost_17 (bI_200 B) fl_X6_157 rfl rfl rfl (fun v3 hv3 => ?_)
    replace H := H v3 hv3
    refine AW_iload_n dX6_frost_20 rfl rfl ?_
    exact AW_rI dX6_frost_21 rfl rfl H
  · replace H := H.2 c
    refine AW_iconst (x := (-1)) dX6_frost_8 (by decide) ?_
    exact AW_rI dX6_frost_9 rfl rfl H
set_option maxRecDepth 100000 in
set_option maxHeartbeats 4000000 in
theorem vc_X6_move {G : xG} {d : Nat} {z : xZ} {v : xS} {Q : Int32 → xS → Prop} (B : Base z) {xa : Int32} {xb : Int32} 
    (H : (oX6_isBand G d [(.ref 200), (.int xa)] z v (fun r2 v1 => ((r2 = 0 → Q (-1) v1) ∧ (¬ r2 = 0 → (oX6_isSpot G d [(.ref 200), (.int xb)] z v1 (fun r4 v3 => ((¬ r4 = 0 → (vp_in xa 3 ∧ (vp_in xa 3 ∧ (∀ v7 : xS, v7 = wV v3 212 xa.toNatClampNeg xb → Q (v3.1 212 xa.toNatClampNeg) v7)))) ∧ (r4 = 0 → Q (-1) v3))))))))) :
    oX6_move G (d + 1) [(.ref 200), (.int xa), (.int xb)] z v Q := by
  refine Ok_of (own := RX6) (by decide) rfl (Nat.le_of_ble_eq_true rfl) ?_
  show AW G (d + 1) 0 0 yX6_move cX6_move 4 (some .int) RX6 0 0 0 [some (.ref 200), some (.int xa), some (.int xb), none] [] z v _
  refine AW_aload_n dX6_move_0 rfl rfl ?_
  refine AW_iload_n dX6_move_1 rfl rfl ?_
  refine AW_vI (as := [(.int xa)]) (st := []) dX6_move_2 (bI_200 B) (by decide) rfl mv_X6_isBand mi_X6_isBand ml_X6_179 (Nat.le_of_ble_eq_true rfl) rfl (Nat.le_refl 0) (Nat.le_refl 0) H (fun r2 v1 H => ?_)
  refine AW_if_eq (tgt := 16) dX6_move_5 (by decide) (fun c => ?_) (fun c => ?_)
  · replace H := H.1 c
    refine AW_iconst (x := (-1)) dX6_move_16 (by decide) ?_
    exact AW_rI dX6_move_17 rfl rfl H
  · replace H := H.2 c
    refine AW_aload_n dX6_move_8 rfl rfl ?_
    refine AW_iload_n dX6_move_9 rfl rfl ?_
    refine AW_vI (as := [(.int xb)]) (st := []) dX6_move_10 (bI_200 B) (by decide) rfl mv_X6_isSpot mi_X6_isSpot ml_X6_163 (Nat.le_of_ble_eq_true rfl) rfl (Nat.le_refl 0) (Nat.le_refl 0) H (fun r4 v3 H => ?_)
    refine AW_if_ne (tgt := 18) dX6_move_13 (by decide) (fun c => ?_) (fun c => ?_)
    · replace H := H.1 c
      refine AW_aload_n dX6_move_18 rfl rfl ?_
      refine AW_getR dX6_move_19 (bI_200 B) fl_X6_34 (bR_200_12 B) ?_
      refine AW_iload_n dX6_move_22 rfl rfl ?_
      have hi5 := H.1
      replace H := H.2
      refine AW_iald dX6_move_23 (bI_212 B) hi5 ?_
      refine AW_istore_n (L' := [some (.ref 200), some (.int xa), some (.int xb), some (.int (v3.1 212 xa.toNatClampNeg))]) dX6_move_24 rfl (by decide) rfl ?_
      refine AW_aload_n dX6_move_25 rfl rfl ?_
      refine AW_getR dX6_move_26 (bI_200 B) fl_X6_34 (bR_200_12 B) ?_
      refine AW_iload_n dX6_move_29 rfl rfl ?_
      refine AW_iload_n dX6_move_30 rfl rfl ?_
      have hi6 := H.1
      replace H := H.2
      refine AW_iastN dX6_move_31 (bI_212 B) hi6 (fun v7 hv7 => ?_)
      replace H := H v7 hv7
      refine AW_iload_n dX6_move_32 rfl rfl ?_
      exact AW_rI dX6_move_33 rfl rfl H
    · replace H := H.2 c
      refine AW_iconst (x := (-1)) dX6_move_16 (by decide) ?_
      exact AW_rI dX6_move_17 rfl rfl H
set_option maxRecDepth 100000 in
set_option maxHeartbeats 4000000 in
theorem vc_X6_isProgram {G : xG} {d : Nat} {z : xZ} {v : xS} {Q : Int32 → xS → Prop} (B : Base z) {xa : Int32} 
    (H : (oX6_programs G d [(.ref 200)] z v (fun r2 v1 => (oX6_in G d [(.int xa), (.int 0), (.int (r2 - 1))] z v1 (fun r4 v3 => (xbl r4 ∧ Q r4 v3)))))) :
    oX6_isProgram G (d + 1) [(.ref 200), (.int xa)] z v Q := by
  refine Ok_of (own := RX6) (by decide) rfl (Nat.le_of_ble_eq_true rfl) ?_
  show AW G (d + 1) 0 0 yX6_isProgram cX6_isProgram 2 (some .boolean) RX6 0 0 0 [some (.ref 200), some (.int xa)] [] z v _
  refine AW_iload_n dX6_isProgram_0 rfl rfl ?_
  refine AW_iconst (x := 0) dX6_isProgram_1 (by decide) ?_
  refine AW_aload_n dX6_isProgram_2 rfl rfl ?_
  refine AW_vI (as := []) (st := [(.int 0), (.int xa)]) dX6_isProgram_3 (bI_200 B) (by decide) rfl mv_X6_programs mi_X6_programs ml_X6_217 (Nat.le_of_ble_eq_true rfl) rfl (Nat.le_refl 0) (Nat.le_refl 0) H (fun r2 v1 H => ?_)
  refine AW_iconst (x := 1) dX6_isProgram_6 (by decide) ?_
  refine AW_isub dX6_isProgram_7 ?_
  refine AW_sI (as := [(.int xa), (.int 0), (.int (r2 - 1))]) (st := []) dX6_isProgram_8 mv_X6_in ms_X6_in ml_X6_92 (Nat.le_of_ble_eq_true rfl) rfl (Nat.le_refl 0) (Nat.le_refl 0) H (fun r4 v3 H => ?_)
  exact AW_rI dX6_isProgram_11 rfl H.1 H.2
set_option maxRecDepth 100000 in
set_option maxHeartbeats 4000000 in
theorem vc_X6_goEvening {G : xG} {d : Nat} {z : xZ} {v : xS} {Q : Int32 → xS → Prop} (B : Base z) {xa : Int32} 
    (H : (oX6_write G d [(.ref 200), (.ref 226), (.int (14 * (v.1 200 24)))] z v (fun v1 => (vp_in (v1.1 200 24) 60 ∧ (∀ v3 : xS, v3 = wV v1 225 (v1.1 200 24).toNatClampNeg xa → (∀ v4 : xS, v4 = wV v3 200 24 ((v3.1 200 24) + 1) → (oX6_passEvening G d [(.ref 200), (.int xa)] z v4 (fun r6 v5 => Q r6 v5)))))))) :
    oX6_goEvening G (d + 1) [(.ref 200), (.int xa)] z v Q := by
  refine Ok_of (own := RX6) (by decide) rfl (Nat.le_of_ble_eq_true rfl) ?_
  show AW G (d + 1) 0 0 yX6_goEvening cX6_goEvening 2 (some .int) RX6 0 0 0 [some (.ref 200), some (.int xa)] [] z v _
  refine AW_aload_n dX6_goEvening_0 rfl rfl ?_
  refine AW_aload_n dX6_goEvening_1 rfl rfl ?_
  refine AW_getR dX6_goEvening_2 (bI_200 B) fl_X6_61 (bR_200_26 B) ?_
  refine AW_bipush (x := 14) dX6_goEvening_5 (by decide) ?_
  refine AW_aload_n dX6_goEvening_7 rfl rfl ?_
  refine AW_getI dX6_goEvening_8 (bI_200 B) fl_X6_160 ?_
  refine AW_imul dX6_goEvening_11 ?_
  refine AW_vV (as := [(.ref 226), (.int (14 * (v.1 200 24)))]) (st := []) dX6_goEvening_12 (bI_200 B) (by decide) rfl mv_X6_write mi_X6_write ml_X6_204 (Nat.le_of_ble_eq_true rfl) rfl (Nat.le_refl 0) (Nat.le_refl 0) H (fun v1 H => ?_)
  refine AW_aload_n dX6_goEvening_15 rfl rfl ?_
  refine AW_getR dX6_goEvening_16 (bI_200 B) fl_X6_58 (bR_200_25 B) ?_
  refine AW_aload_n dX6_goEvening_19 rfl rfl ?_
  refine AW_getI dX6_goEvening_20 (bI_200 B) fl_X6_160 ?_
  refine AW_iload_n dX6_goEvening_23 rfl rfl ?_
  have hi2 := H.1
  replace H := H.2
  refine AW_iastN dX6_goEvening_24 (bI_225 B) hi2 (fun v3 hv3 => ?_)
  replace H := H v3 hv3
  refine AW_aload_n dX6_goEvening_25 rfl rfl ?_
  refine AW_dup dX6_goEvening_26 rfl ?_
  refine AW_getI dX6_goEvening_27 (bI_200 B) fl_X6_160 ?_
  refine AW_iconst (x := 1) dX6_goEvening_30 (by decide) ?_
  refine AW_iadd dX6_goEvening_31 ?_
  refine AW_putIN dX6_goEvening_32 (bI_200 B) fl_X6_160 rfl rfl rfl (fun v4 hv4 => ?_)
  replace H := H v4 hv4
  refine AW_aload_n dX6_goEvening_35 rfl rfl ?_
  refine AW_iload_n dX6_goEvening_36 rfl rfl ?_
  refine AW_vI (as := [(.int xa)]) (st := []) dX6_goEvening_37 (bI_200 B) (by decide) rfl mv_X6_passEvening mi_X6_passEvening ml_X6_221 (Nat.le_of_ble_eq_true rfl) rfl (Nat.le_refl 0) (Nat.le_refl 0) H (fun r6 v5 H => ?_)
  exact AW_rI dX6_goEvening_40 rfl rfl H
set_option maxRecDepth 100000 in
set_option maxHeartbeats 4000000 in
theorem vc_X6_evening {G : xG} {d : Nat} {z : xZ} {v : xS} {Q : Int32 → xS → Prop} (B : Base z) {xa : Int32} 
    (H : (oX6_isProgram G d [(.ref 200), (.int xa)] z v (fun r2 v1 => ((¬ r2 = 0 → ((¬ (v1.1 200 8) = 0 → ((¬ (v1.1 200 24) = 60 → (oX6_goEvening G d [(.ref 200), (.int xa)] z v1 (fun r4 v3 => (oX6_breathOf G d [(.ref 200), (.int xa)] z v3 (fun r6 v5 => (oX6_ask G d [(.ref 200), (.int r6), (.int r4)] z v5 (fun r8 v7 => Q r8 v7))))))) ∧ ((v1.1 200 24) = 60 → Q (-2) v1))) ∧ ((v1.1 200 8) = 0 → Q (-4) v1))) ∧ (r2 = 0 → Q (-1) v1))))) :
    oX6_evening G (d + 1) [(.ref 200), (.int xa)] z v Q := by
  refine Ok_of (own := RX6) (by decide) rfl (Nat.le_of_ble_eq_true rfl) ?_
  show AW G (d + 1) 0 0 yX6_evening cX6_evening 3 (some .int) RX6 0 0 0 [some (.ref 200), some (.int xa), none] [] z v _
  refine AW_aload_n dX6_evening_0 rfl rfl ?_
  refine AW_iload_n dX6_evening_1 rfl rfl ?_
  refine AW_vI (as := [(.int xa)]) (st := []) dX6_evening_2 (bI_200 B) (by decide) rfl mv_X6_isProgram mi_X6_isProgram ml_X6_224 (Nat.le_of_ble_eq_true rfl) rfl (Nat.le_refl 0) (Nat.le_refl 0) H (fun r2 v1 H => ?_)
  refine AW_if_ne (tgt := 10) dX6_evening_5 (by decide) (fun c => ?_) (fun c => ?_)
  · replace H := H.1 c
    refine AW_aload_n dX6_evening_10 rfl rfl ?_
    refine AW_getI dX6_evening_11 (bI_200 B) fl_X6_151 ?_
    refine AW_if_ne (tgt := 20) dX6_evening_14 (by decide) (fun c => ?_) (fun c => ?_)
    · replace H := H.1 c
      refine AW_aload_n dX6_evening_20 rfl rfl ?_
      refine AW_getI dX6_evening_21 (bI_200 B) fl_X6_160 ?_
      refine AW_bipush (x := 60) dX6_evening_24 (by decide) ?_
      refine AW_icmp_ne (tgt := 32) dX6_evening_26 (by decide) (fun c => ?_) (fun c => ?_)
      · replace H := H.1 c
        refine AW_aload_n dX6_evening_32 rfl rfl ?_
        refine AW_iload_n dX6_evening_33 rfl rfl ?_
        refine AW_vI (as := [(.int xa)]) (st := []) dX6_evening_34 (bI_200 B) (by decide) rfl mv_X6_goEvening mi_X6_goEvening ml_X6_227 (Nat.le_of_ble_eq_true rfl) rfl (Nat.le_refl 0) (Nat.le_refl 0) H (fun r4 v3 H => ?_)
        refine AW_istore_n (L' := [some (.ref 200), some (.int xa), some (.int r4)]) dX6_evening_37 rfl (by decide) rfl ?_
        refine AW_aload_n dX6_evening_38 rfl rfl ?_
        refine AW_aload_n dX6_evening_39 rfl rfl ?_
        refine AW_iload_n dX6_evening_40 rfl rfl ?_
        refine AW_vI (as := [(.int xa)]) (st := [(.ref 200)]) dX6_evening_41 (bI_200 B) (by decide) rfl mv_X6_breathOf mi_X6_breathOf ml_X6_230 (Nat.le_of_ble_eq_true rfl) rfl (Nat.le_refl 0) (Nat.le_refl 0) H (fun r6 v5 H => ?_)
        refine AW_iload_n dX6_evening_44 rfl rfl ?_
        refine AW_vI (as := [(.int r6), (.int r4)]) (st := []) dX6_evening_45 (bI_200 B) (by decide) rfl mv_X6_ask mi_X6_ask ml_X6_118 (Nat.le_of_ble_eq_true rfl) rfl (Nat.le_refl 0) (Nat.le_refl 0) H (fun r8 v7 H => ?_)
        exact AW_rI dX6_evening_48 rfl rfl H
      · replace H := H.2 c
        refine AW_bipush (x := (-2)) dX6_evening_29 (by decide) ?_
        exact AW_rI dX6_evening_31 rfl rfl H
    · replace H := H.2 c
      refine AW_bipush (x := (-4)) dX6_evening_17 (by decide) ?_
      exact AW_rI dX6_evening_19 rfl rfl H
  · replace H := H.2 c
    refine AW_iconst (x := (-1)) dX6_evening_8 (by decide) ?_
    exact AW_rI dX6_evening_9 rfl rfl H
set_option maxRecDepth 100000 in
set_option maxHeartbeats 4000000 in
theorem vc_X6_undo {G : xG} {d : Nat} {z : xZ} {v : xS} {Q : Int32 → xS → Prop} (B : Base z) {xa : Int32} 
    (H : (oX6_in G d [(.int xa), (.int 0), (.int (v.1 200 24))] z v (fun r2 v1 => ((¬ r2 = 0 → ((((v1.1 200 24) - xa) ≤ 0 → Q ((v1.1 200 24) - xa) v1) ∧ (¬ ((v1.1 200 24) - xa) ≤ 0 → (oX6_read G d [(.ref 200), (.ref 226), (.int (14 * xa))] z v1 (fun v3 => (∀ v4 : xS, v4 = wV v3 200 24 xa → Q ((v1.1 200 24) - xa) v4)))))) ∧ (r2 = 0 → Q (-1) v1))))) :
    oX6_undo G (d + 1) [(.ref 200), (.int xa)] z v Q := by
  refine Ok_of (own := RX6) (by decide) rfl (Nat.le_of_ble_eq_true rfl) ?_
  show AW G (d + 1) 0 0 yX6_undo cX6_undo 3 (some .int) RX6 0 0 0 [some (.ref 200), some (.int xa), none] [] z v _
  refine AW_iload_n dX6_undo_0 rfl rfl ?_
  refine AW_iconst (x := 0) dX6_undo_1 (by decide) ?_
  refine AW_aload_n dX6_undo_2 rfl rfl ?_
  refine AW_getI dX6_undo_3 (bI_200 B) fl_X6_160 ?_
  refine AW_sI (as := [(.int xa), (.int 0), (.int (v.1 200 24))]) (st := []) dX6_undo_6 mv_X6_in ms_X6_in ml_X6_92 (Nat.le_of_ble_eq_true rfl) rfl (Nat.le_refl 0) (Nat.le_refl 0) H (fun r2 v1 H => ?_)
  refine AW_if_ne (tgt := 14) dX6_undo_9 (by decide) (fun c => ?_) (fun c => ?_)
  · replace H := H.1 c
    refine AW_aload_n dX6_undo_14 rfl rfl ?_
    refine AW_getI dX6_undo_15 (bI_200 B) fl_X6_160 ?_
    refine AW_iload_n dX6_undo_18 rfl rfl ?_
    refine AW_isub dX6_undo_19 ?_
    refine AW_istore_n (L' := [some (.ref 200), some (.int xa), some (.int ((v1.1 200 24) - xa))]) dX6_undo_20 rfl (by decide) rfl ?_
    refine AW_iload_n dX6_undo_21 rfl rfl ?_
    refine AW_if_le (tgt := 42) dX6_undo_22 (by decide) (fun c => ?_) (fun c => ?_)
    · replace H := H.1 c
      refine AW_iload_n dX6_undo_42 rfl rfl ?_
      exact AW_rI dX6_undo_43 rfl rfl H
    · replace H := H.2 c
      refine AW_aload_n dX6_undo_25 rfl rfl ?_
      refine AW_aload_n dX6_undo_26 rfl rfl ?_
      refine AW_getR dX6_undo_27 (bI_200 B) fl_X6_61 (bR_200_26 B) ?_
      refine AW_bipush (x := 14) dX6_undo_30 (by decide) ?_
      refine AW_iload_n dX6_undo_32 rfl rfl ?_
      refine AW_imul dX6_undo_33 ?_
      refine AW_vV (as := [(.ref 226), (.int (14 * xa))]) (st := []) dX6_undo_34 (bI_200 B) (by decide) rfl mv_X6_read mi_X6_read ml_X6_208 (Nat.le_of_ble_eq_true rfl) rfl (Nat.le_refl 0) (Nat.le_refl 0) H (fun v3 H => ?_)
      refine AW_aload_n dX6_undo_37 rfl rfl ?_
      refine AW_iload_n dX6_undo_38 rfl rfl ?_
      refine AW_putIN dX6_undo_39 (bI_200 B) fl_X6_160 rfl rfl rfl (fun v4 hv4 => ?_)
      replace H := H v4 hv4
      refine AW_iload_n dX6_undo_42 rfl rfl ?_
      exact AW_rI dX6_undo_43 rfl rfl H
  · replace H := H.2 c
    refine AW_iconst (x := (-1)) dX6_undo_12 (by decide) ?_
    exact AW_rI dX6_undo_13 rfl rfl H
set_option maxRecDepth 100000 in
set_option maxHeartbeats 4000000 in
theorem vc_X6_allHigh {G : xG} {d : Nat} {z : xZ} {v : xS} {Q : Int32 → xS → Prop} (B : Base z)  
    (H : aX6_allHigh G (d + 1) 4 [some (.ref 200), some (.int 0), some (.int 0)] [] z v Q) :
    oX6_allHigh G (d + 1) [(.ref 200)] z v Q := by
  refine Ok_of (own := RX6) (by decide) rfl (Nat.le_of_ble_eq_true rfl) ?_
  show AW G (d + 1) 0 0 yX6_allHigh cX6_allHigh 3 (some .int) RX6 0 0 0 [some (.ref 200), none, none] [] z v _
  refine AW_iconst (x := 0) dX6_allHigh_0 (by decide) ?_
  refine AW_istore_n (L' := [some (.ref 200), some (.int 0), none]) dX6_allHigh_1 rfl (by decide) rfl ?_
  refine AW_iconst (x := 0) dX6_allHigh_2 (by decide) ?_
  refine AW_istore_n (L' := [some (.ref 200), some (.int 0), some (.int 0)]) dX6_allHigh_3 rfl (by decide) rfl ?_
  exact H
set_option maxRecDepth 100000 in
set_option maxHeartbeats 4000000 in
theorem vc_X6_allHigh_4 {G : xG} {d : Nat} {z : xZ} {v : xS} {Q : Int32 → xS → Prop} (B : Base z)  {l1 : Int32} {l2 : Int32} 
    (H : (((v.1 200 8) ≤ l2 → Q l1 v) ∧ (¬ (v.1 200 8) ≤ l2 → (vp_in l2 10 ∧ aX6_allHigh G (d + 1) 4 [some (.ref 200), some (.int (l1 + (v.1 210 l2.toNatClampNeg))), some (.int (l2 + 1))] [] z v Q)))) :
    aX6_allHigh G (d + 1) 4 [some (.ref 200), some (.int l1), some (.int l2)] [] z v Q := by
  refine AW_iload_n dX6_allHigh_4 rfl rfl ?_
  refine AW_aload_n dX6_allHigh_5 rfl rfl ?_
  refine AW_getI dX6_allHigh_6 (bI_200 B) fl_X6_151 ?_
  refine AW_icmp_ge (tgt := 27) dX6_allHigh_9 (by decide) (fun c => ?_) (fun c => ?_)
  · replace H := H.1 c
    refine AW_iload_n dX6_allHigh_27 rfl rfl ?_
    exact AW_rI dX6_allHigh_28 rfl rfl H
  · replace H := H.2 c
    refine AW_iload_n dX6_allHigh_12 rfl rfl ?_
    refine AW_aload_n dX6_allHigh_13 rfl rfl ?_
    refine AW_getR dX6_allHigh_14 (bI_200 B) fl_X6_28 (bR_200_10 B) ?_
    refine AW_iload_n dX6_allHigh_17 rfl rfl ?_
    have hi1 := H.1
    replace H := H.2
    refine AW_iald dX6_allHigh_18 (bI_210 B) hi1 ?_
    refine AW_iadd dX6_allHigh_19 ?_
    refine AW_istore_n (L' := [some (.ref 200), some (.int (l1 + (v.1 210 l2.toNatClampNeg))), some (.int l2)]) dX6_allHigh_20 rfl (by decide) rfl ?_
    refine AW_iinc (x' := l2 + 1) (L' := [some (.ref 200), some (.int (l1 + (v.1 210 l2.toNatClampNeg))), some (.int (l2 + 1))]) dX6_allHigh_21 rfl rfl (by decide) rfl ?_
    refine AW_goto (tgt := 4) dX6_allHigh_24 (by decide) ?_
    exact H
set_option maxRecDepth 100000 in
set_option maxHeartbeats 4000000 in
theorem vc_X6_heights {G : xG} {d : Nat} {z : xZ} {v : xS} {Q : Int32 → xS → Prop} (B : Base z) {xa : Int32} 
    (H : (oX6_isRow G d [(.int xa)] z v (fun r2 v1 => ((¬ r2 = 0 → (oX6_row G d [(.ref 200), (.int xa), (.int (v1.1 200 8))] z v1 (fun r4 v3 => aX6_heights G (d + 1) 21 [some (.ref 200), some (.int xa), some (.int 0)] [] z v3 Q))) ∧ (r2 = 0 → Q (-1) v1))))) :
    oX6_heights G (d + 1) [(.ref 200), (.int xa)] z v Q := by
  refine Ok_of (own := RX6) (by decide) rfl (Nat.le_of_ble_eq_true rfl) ?_
  show AW G (d + 1) 0 0 yX6_heights cX6_heights 3 (some .int) RX6 0 0 0 [some (.ref 200), some (.int xa), none] [] z v _
  refine AW_iload_n dX6_heights_0 rfl rfl ?_
  refine AW_sI (as := [(.int xa)]) (st := []) dX6_heights_1 mv_X6_isRow ms_X6_isRow ml_X6_96 (Nat.le_of_ble_eq_true rfl) rfl (Nat.le_refl 0) (Nat.le_refl 0) H (fun r2 v1 H => ?_)
  refine AW_if_ne (tgt := 9) dX6_heights_4 (by decide) (fun c => ?_) (fun c => ?_)
  · replace H := H.1 c
    refine AW_aload_n dX6_heights_9 rfl rfl ?_
    refine AW_iload_n dX6_heights_10 rfl rfl ?_
    refine AW_aload_n dX6_heights_11 rfl rfl ?_
    refine AW_getI dX6_heights_12 (bI_200 B) fl_X6_151 ?_
    refine AW_vI (as := [(.int xa), (.int (v1.1 200 8))]) (st := []) dX6_heights_15 (bI_200 B) (by decide) rfl mv_X6_row mi_X6_row ml_X6_233 (Nat.le_of_ble_eq_true rfl) rfl (Nat.le_refl 0) (Nat.le_refl 0) H (fun r4 v3 H => ?_)
    refine AW_pop dX6_heights_18 rfl ?_
    refine AW_iconst (x := 0) dX6_heights_19 (by decide) ?_
    refine AW_istore_n (L' := [some (.ref 200), some (.int xa), some (.int 0)]) dX6_heights_20 rfl (by decide) rfl ?_
    exact H
  · replace H := H.2 c
    refine AW_iconst (x := (-1)) dX6_heights_7 (by decide) ?_
    exact AW_rI dX6_heights_8 rfl rfl H
set_option maxRecDepth 100000 in
set_option maxHeartbeats 4000000 in
theorem vc_X6_heights_21 {G : xG} {d : Nat} {z : xZ} {v : xS} {Q : Int32 → xS → Prop} (B : Base z)  {l1 : Int32} {l2 : Int32} 
    (H : (((v.1 200 8) ≤ l2 → (oX6_allHigh G d [(.ref 200)] z v (fun r2 v1 => Q r2 v1))) ∧ (¬ (v.1 200 8) ≤ l2 → (vp_in l2 10 ∧ (oX6_setRow G d [(.ref 200), (.int l1), (.int l2), (.int (v.1 210 l2.toNatClampNeg))] z v (fun v4 => aX6_heights G (d + 1) 21 [some (.ref 200), some (.int l1), some (.int (l2 + 1))] [] z v4 Q)))))) :
    aX6_heights G (d + 1) 21 [some (.ref 200), some (.int l1), some (.int l2)] [] z v Q := by
  refine AW_iload_n dX6_heights_21 rfl rfl ?_
  refine AW_aload_n dX6_heights_22 rfl rfl ?_
  refine AW_getI dX6_heights_23 (bI_200 B) fl_X6_151 ?_
  refine AW_icmp_ge (tgt := 47) dX6_heights_26 (by decide) (fun c => ?_) (fun c => ?_)
  · replace H := H.1 c
    refine AW_aload_n dX6_heights_47 rfl rfl ?_
    refine AW_vI (as := []) (st := []) dX6_heights_48 (bI_200 B) (by decide) rfl mv_X6_allHigh mi_X6_allHigh ml_X6_236 (Nat.le_of_ble_eq_true rfl) rfl (Nat.le_refl 0) (Nat.le_refl 0) H (fun r2 v1 H => ?_)
    exact AW_rI dX6_heights_51 rfl rfl H
  · replace H := H.2 c
    refine AW_aload_n dX6_heights_29 rfl rfl ?_
    refine AW_iload_n dX6_heights_30 rfl rfl ?_
    refine AW_iload_n dX6_heights_31 rfl rfl ?_
    refine AW_aload_n dX6_heights_32 rfl rfl ?_
    refine AW_getR dX6_heights_33 (bI_200 B) fl_X6_28 (bR_200_10 B) ?_
    refine AW_iload_n dX6_heights_36 rfl rfl ?_
    have hi3 := H.1
    replace H := H.2
    refine AW_iald dX6_heights_37 (bI_210 B) hi3 ?_
    refine AW_vV (as := [(.int l1), (.int l2), (.int (v.1 210 l2.toNatClampNeg))]) (st := []) dX6_heights_38 (bI_200 B) (by decide) rfl mv_X6_setRow mi_X6_setRow ml_X6_107 (Nat.le_of_ble_eq_true rfl) rfl (Nat.le_refl 0) (Nat.le_refl 0) H (fun v4 H => ?_)
    refine AW_iinc (x' := l2 + 1) (L' := [some (.ref 200), some (.int l1), some (.int (l2 + 1))]) dX6_heights_41 rfl rfl (by decide) rfl ?_
    refine AW_goto (tgt := 21) dX6_heights_44 (by decide) ?_
    exact H
set_option maxRecDepth 100000 in
set_option maxHeartbeats 4000000 in
theorem vc_X6_keep {G : xG} {d : Nat} {z : xZ} {v : xS} {Q : Int32 → xS → Prop} (B : Base z) {xa : Int32} 
    (H : (oX6_in G d [(.int xa), (.int 0), (.int 2)] z v (fun r2 v1 => ((¬ r2 = 0 → ((¬ (v1.1 200 8) = 0 → (vp_in (920 * xa) 2760 ∧ (∀ v4 : xS, v4 = wV v1 227 (920 * xa).toNatClampNeg (v1.1 200 24) → (vp_in ((920 * xa) + 1) 2760 ∧ (∀ v6 : xS, v6 = wV v4 227 ((920 * xa) + 1).toNatClampNeg (v4.1 200 15) → aX6_keep G (d + 1) 51 [some (.ref 200), some (.int xa), some (.int (920 * xa)), some (.int 0)] [] z v6 Q))))) ∧ ((v1.1 200 8) = 0 → Q (-4) v1))) ∧ (r2 = 0 → Q (-1) v1))))) :
    oX6_keep G (d + 1) [(.ref 200), (.int xa)] z v Q := by
  refine Ok_of (own := RX6) (by decide) rfl (Nat.le_of_ble_eq_true rfl) ?_
  show AW G (d + 1) 0 0 yX6_keep cX6_keep 4 (some .int) RX6 0 0 0 [some (.ref 200), some (.int xa), none, none] [] z v _
  refine AW_iload_n dX6_keep_0 rfl rfl ?_
  refine AW_iconst (x := 0) dX6_keep_1 (by decide) ?_
  refine AW_iconst (x := 2) dX6_keep_2 (by decide) ?_
  refine AW_sI (as := [(.int xa), (.int 0), (.int 2)]) (st := []) dX6_keep_3 mv_X6_in ms_X6_in ml_X6_92 (Nat.le_of_ble_eq_true rfl) rfl (Nat.le_refl 0) (Nat.le_refl 0) H (fun r2 v1 H => ?_)
  refine AW_if_ne (tgt := 11) dX6_keep_6 (by decide) (fun c => ?_) (fun c => ?_)
  · replace H := H.1 c
    refine AW_aload_n dX6_keep_11 rfl rfl ?_
    refine AW_getI dX6_keep_12 (bI_200 B) fl_X6_151 ?_
    refine AW_if_ne (tgt := 21) dX6_keep_15 (by decide) (fun c => ?_) (fun c => ?_)
    · replace H := H.1 c
      refine AW_sipush (x := 920) dX6_keep_21 (by decide) ?_
      refine AW_iload_n dX6_keep_24 rfl rfl ?_
      refine AW_imul dX6_keep_25 ?_
      refine AW_istore_n (L' := [some (.ref 200), some (.int xa), some (.int (920 * xa)), none]) dX6_keep_26 rfl (by decide) rfl ?_
      refine AW_aload_n dX6_keep_27 rfl rfl ?_
      refine AW_getR dX6_keep_28 (bI_200 B) fl_X6_64 (bR_200_27 B) ?_
      refine AW_iload_n dX6_keep_31 rfl rfl ?_
      refine AW_aload_n dX6_keep_32 rfl rfl ?_
      refine AW_getI dX6_keep_33 (bI_200 B) fl_X6_160 ?_
      have hi3 := H.1
      replace H := H.2
      refine AW_iastN dX6_keep_36 (bI_227 B) hi3 (fun v4 hv4 => ?_)
      replace H := H v4 hv4
      refine AW_aload_n dX6_keep_37 rfl rfl ?_
      refine AW_getR dX6_keep_38 (bI_200 B) fl_X6_64 (bR_200_27 B) ?_
      refine AW_iload_n dX6_keep_41 rfl rfl ?_
      refine AW_iconst (x := 1) dX6_keep_42 (by decide) ?_
      refine AW_iadd dX6_keep_43 ?_
      refine AW_aload_n dX6_keep_44 rfl rfl ?_
      refine AW_getI dX6_keep_45 (bI_200 B) fl_X6_157 ?_
      have hi5 := H.1
      replace H := H.2
      refine AW_iastN dX6_keep_48 (bI_227 B) hi5 (fun v6 hv6 => ?_)
      replace H := H v6 hv6
      refine AW_iconst (x := 0) dX6_keep_49 (by decide) ?_
      refine AW_istore_n (L' := [some (.ref 200), some (.int xa), some (.int (920 * xa)), some (.int 0)]) dX6_keep_50 rfl (by decide) rfl ?_
      exact H
    · replace H := H.2 c
      refine AW_bipush (x := (-4)) dX6_keep_18 (by decide) ?_
      exact AW_rI dX6_keep_20 rfl rfl H
  · replace H := H.2 c
    refine AW_iconst (x := (-1)) dX6_keep_9 (by decide) ?_
    exact AW_rI dX6_keep_10 rfl rfl H
set_option maxRecDepth 100000 in
set_option maxHeartbeats 4000000 in
theorem vc_X6_keep_51 {G : xG} {d : Nat} {z : xZ} {v : xS} {Q : Int32 → xS → Prop} (B : Base z)  {l1 : Int32} {l2 : Int32} {l3 : Int32} 
    (H : ((3 ≤ l3 → (oX6_write G d [(.ref 200), (.ref 227), (.int (l2 + 5))] z v (fun v1 => aX6_keep G (d + 1) 91 [some (.ref 200), some (.int l1), some (.int l2), some (.int 0)] [] z v1 Q))) ∧ (¬ 3 ≤ l3 → (vp_in l3 3 ∧ (vp_in ((l2 + 2) + l3) 2760 ∧ (∀ v4 : xS, v4 = wV v 227 ((l2 + 2) + l3).toNatClampNeg (v.1 212 l3.toNatClampNeg) → aX6_keep G (d + 1) 51 [some (.ref 200), some (.int l1), some (.int l2), some (.int (l3 + 1))] [] z v4 Q)))))) :
    aX6_keep G (d + 1) 51 [some (.ref 200), some (.int l1), some (.int l2), some (.int l3)] [] z v Q := by
  refine AW_iload_n dX6_keep_51 rfl rfl ?_
  refine AW_iconst (x := 3) dX6_keep_52 (by decide) ?_
  refine AW_icmp_ge (tgt := 78) dX6_keep_53 (by decide) (fun c => ?_) (fun c => ?_)
  · replace H := H.1 c
    refine AW_aload_n dX6_keep_78 rfl rfl ?_
    refine AW_aload_n dX6_keep_79 rfl rfl ?_
    refine AW_getR dX6_keep_80 (bI_200 B) fl_X6_64 (bR_200_27 B) ?_
    refine AW_iload_n dX6_keep_83 rfl rfl ?_
    refine AW_iconst (x := 5) dX6_keep_84 (by decide) ?_
    refine AW_iadd dX6_keep_85 ?_
    refine AW_vV (as := [(.ref 227), (.int (l2 + 5))]) (st := []) dX6_keep_86 (bI_200 B) (by decide) rfl mv_X6_write mi_X6_write ml_X6_204 (Nat.le_of_ble_eq_true rfl) rfl (Nat.le_refl 0) (Nat.le_refl 0) H (fun v1 H => ?_)
    refine AW_iconst (x := 0) dX6_keep_89 (by decide) ?_
    refine AW_istore_n (L' := [some (.ref 200), some (.int l1), some (.int l2), some (.int 0)]) dX6_keep_90 rfl (by decide) rfl ?_
    exact H
  · replace H := H.2 c
    refine AW_aload_n dX6_keep_56 rfl rfl ?_
    refine AW_getR dX6_keep_57 (bI_200 B) fl_X6_64 (bR_200_27 B) ?_
    refine AW_iload_n dX6_keep_60 rfl rfl ?_
    refine AW_iconst (x := 2) dX6_keep_61 (by decide) ?_
    refine AW_iadd dX6_keep_62 ?_
    refine AW_iload_n dX6_keep_63 rfl rfl ?_
    refine AW_iadd dX6_keep_64 ?_
    refine AW_aload_n dX6_keep_65 rfl rfl ?_
    refine AW_getR dX6_keep_66 (bI_200 B) fl_X6_34 (bR_200_12 B) ?_
    refine AW_iload_n dX6_keep_69 rfl rfl ?_
    have hi2 := H.1
    replace H := H.2
    refine AW_iald dX6_keep_70 (bI_212 B) hi2 ?_
    have hi3 := H.1
    replace H := H.2
    refine AW_iastN dX6_keep_71 (bI_227 B) hi3 (fun v4 hv4 => ?_)
    replace H := H v4 hv4
    refine AW_iinc (x' := l3 + 1) (L' := [some (.ref 200), some (.int l1), some (.int l2), some (.int (l3 + 1))]) dX6_keep_72 rfl rfl (by decide) rfl ?_
    refine AW_goto (tgt := 51) dX6_keep_75 (by decide) ?_
    exact H
set_option maxRecDepth 100000 in
set_option maxHeartbeats 4000000 in
theorem vc_X6_keep_91 {G : xG} {d : Nat} {z : xZ} {v : xS} {Q : Int32 → xS → Prop} (B : Base z)  {l1 : Int32} {l2 : Int32} {l3 : Int32} 
    (H : ((60 ≤ l3 → aX6_keep G (d + 1) 122 [some (.ref 200), some (.int l1), some (.int l2), some (.int 0)] [] z v Q) ∧ (¬ 60 ≤ l3 → (vp_in l3 60 ∧ (vp_in ((l2 + 20) + l3) 2760 ∧ (∀ v3 : xS, v3 = wV v 227 ((l2 + 20) + l3).toNatClampNeg (v.1 225 l3.toNatClampNeg) → aX6_keep G (d + 1) 91 [some (.ref 200), some (.int l1), some (.int l2), some (.int (l3 + 1))] [] z v3 Q)))))) :
    aX6_keep G (d + 1) 91 [some (.ref 200), some (.int l1), some (.int l2), some (.int l3)] [] z v Q := by
  refine AW_iload_n dX6_keep_91 rfl rfl ?_
  refine AW_bipush (x := 60) dX6_keep_92 (by decide) ?_
  refine AW_icmp_ge (tgt := 120) dX6_keep_94 (by decide) (fun c => ?_) (fun c => ?_)
  · replace H := H.1 c
    refine AW_iconst (x := 0) dX6_keep_120 (by decide) ?_
    refine AW_istore_n (L' := [some (.ref 200), some (.int l1), some (.int l2), some (.int 0)]) dX6_keep_121 rfl (by decide) rfl ?_
    exact H
  · replace H := H.2 c
    refine AW_aload_n dX6_keep_97 rfl rfl ?_
    refine AW_getR dX6_keep_98 (bI_200 B) fl_X6_64 (bR_200_27 B) ?_
    refine AW_iload_n dX6_keep_101 rfl rfl ?_
    refine AW_bipush (x := 20) dX6_keep_102 (by decide) ?_
    refine AW_iadd dX6_keep_104 ?_
    refine AW_iload_n dX6_keep_105 rfl rfl ?_
    refine AW_iadd dX6_keep_106 ?_
    refine AW_aload_n dX6_keep_107 rfl rfl ?_
    refine AW_getR dX6_keep_108 (bI_200 B) fl_X6_58 (bR_200_25 B) ?_
    refine AW_iload_n dX6_keep_111 rfl rfl ?_
    have hi1 := H.1
    replace H := H.2
    refine AW_iald dX6_keep_112 (bI_225 B) hi1 ?_
    have hi2 := H.1
    replace H := H.2
    refine AW_iastN dX6_keep_113 (bI_227 B) hi2 (fun v3 hv3 => ?_)
    replace H := H v3 hv3
    refine AW_iinc (x' := l3 + 1) (L' := [some (.ref 200), some (.int l1), some (.int l2), some (.int (l3 + 1))]) dX6_keep_114 rfl rfl (by decide) rfl ?_
    refine AW_goto (tgt := 91) dX6_keep_117 (by decide) ?_
    exact H
set_option maxRecDepth 100000 in
set_option maxHeartbeats 4000000 in
theorem vc_X6_keep_122 {G : xG} {d : Nat} {z : xZ} {v : xS} {Q : Int32 → xS → Prop} (B : Base z)  {l1 : Int32} {l2 : Int32} {l3 : Int32} 
    (H : ((840 ≤ l3 → Q (v.1 200 24) v) ∧ (¬ 840 ≤ l3 → (vp_in l3 840 ∧ (vp_in ((l2 + 80) + l3) 2760 ∧ (∀ v3 : xS, v3 = wV v 227 ((l2 + 80) + l3).toNatClampNeg (v.1 226 l3.toNatClampNeg) → aX6_keep G (d + 1) 122 [some (.ref 200), some (.int l1), some (.int l2), some (.int (l3 + 1))] [] z v3 Q)))))) :
    aX6_keep G (d + 1) 122 [some (.ref 200), some (.int l1), some (.int l2), some (.int l3)] [] z v Q := by
  refine AW_iload_n dX6_keep_122 rfl rfl ?_
  refine AW_sipush (x := 840) dX6_keep_123 (by decide) ?_
  refine AW_icmp_ge (tgt := 152) dX6_keep_126 (by decide) (fun c => ?_) (fun c => ?_)
  · replace H := H.1 c
    refine AW_aload_n dX6_keep_152 rfl rfl ?_
    refine AW_getI dX6_keep_153 (bI_200 B) fl_X6_160 ?_
    exact AW_rI dX6_keep_156 rfl rfl H
  · replace H := H.2 c
    refine AW_aload_n dX6_keep_129 rfl rfl ?_
    refine AW_getR dX6_keep_130 (bI_200 B) fl_X6_64 (bR_200_27 B) ?_
    refine AW_iload_n dX6_keep_133 rfl rfl ?_
    refine AW_bipush (x := 80) dX6_keep_134 (by decide) ?_
    refine AW_iadd dX6_keep_136 ?_
    refine AW_iload_n dX6_keep_137 rfl rfl ?_
    refine AW_iadd dX6_keep_138 ?_
    refine AW_aload_n dX6_keep_139 rfl rfl ?_
    refine AW_getR dX6_keep_140 (bI_200 B) fl_X6_61 (bR_200_26 B) ?_
    refine AW_iload_n dX6_keep_143 rfl rfl ?_
    have hi1 := H.1
    replace H := H.2
    refine AW_iald dX6_keep_144 (bI_226 B) hi1 ?_
    have hi2 := H.1
    replace H := H.2
    refine AW_iastN dX6_keep_145 (bI_227 B) hi2 (fun v3 hv3 => ?_)
    replace H := H v3 hv3
    refine AW_iinc (x' := l3 + 1) (L' := [some (.ref 200), some (.int l1), some (.int l2), some (.int (l3 + 1))]) dX6_keep_146 rfl rfl (by decide) rfl ?_
    refine AW_goto (tgt := 122) dX6_keep_149 (by decide) ?_
    exact H
set_option maxRecDepth 100000 in
set_option maxHeartbeats 4000000 in
theorem vc_X6_on {G : xG} {d : Nat} {z : xZ} {v : xS} {Q : Int32 → xS → Prop} (B : Base z) {xa : Int32} 
    (H : (oX6_in G d [(.int xa), (.int 0), (.int 2)] z v (fun r2 v1 => ((¬ r2 = 0 → (vp_in (920 * xa) 2760 ∧ ((¬ (v1.1 227 (920 * xa).toNatClampNeg) = (-9) → (vp_in (920 * xa) 2760 ∧ (∀ v5 : xS, v5 = wV v1 200 24 (v1.1 227 (920 * xa).toNatClampNeg) → (vp_in ((920 * xa) + 1) 2760 ∧ (∀ v7 : xS, v7 = wV v5 200 15 (v5.1 227 ((920 * xa) + 1).toNatClampNeg) → aX6_on G (d + 1) 58 [some (.ref 200), some (.int xa), some (.int (920 * xa)), some (.int 0)] [] z v7 Q))))) ∧ ((v1.1 227 (920 * xa).toNatClampNeg) = (-9) → (oX6_meet G d [(.ref 200), (.int 1)] z v1 (fun r9 v8 => Q r9 v8)))))) ∧ (r2 = 0 → Q (-1) v1))))) :
    oX6_on G (d + 1) [(.ref 200), (.int xa)] z v Q := by
  refine Ok_of (own := RX6) (by decide) rfl (Nat.le_of_ble_eq_true rfl) ?_
  show AW G (d + 1) 0 0 yX6_on cX6_on 4 (some .int) RX6 0 0 0 [some (.ref 200), some (.int xa), none, none] [] z v _
  refine AW_iload_n dX6_on_0 rfl rfl ?_
  refine AW_iconst (x := 0) dX6_on_1 (by decide) ?_
  refine AW_iconst (x := 2) dX6_on_2 (by decide) ?_
  refine AW_sI (as := [(.int xa), (.int 0), (.int 2)]) (st := []) dX6_on_3 mv_X6_in ms_X6_in ml_X6_92 (Nat.le_of_ble_eq_true rfl) rfl (Nat.le_refl 0) (Nat.le_refl 0) H (fun r2 v1 H => ?_)
  refine AW_if_ne (tgt := 11) dX6_on_6 (by decide) (fun c => ?_) (fun c => ?_)
  · replace H := H.1 c
    refine AW_sipush (x := 920) dX6_on_11 (by decide) ?_
    refine AW_iload_n dX6_on_14 rfl rfl ?_
    refine AW_imul dX6_on_15 ?_
    refine AW_istore_n (L' := [some (.ref 200), some (.int xa), some (.int (920 * xa)), none]) dX6_on_16 rfl (by decide) rfl ?_
    refine AW_aload_n dX6_on_17 rfl rfl ?_
    refine AW_getR dX6_on_18 (bI_200 B) fl_X6_64 (bR_200_27 B) ?_
    refine AW_iload_n dX6_on_21 rfl rfl ?_
    have hi3 := H.1
    replace H := H.2
    refine AW_iald dX6_on_22 (bI_227 B) hi3 ?_
    refine AW_bipush (x := (-9)) dX6_on_23 (by decide) ?_
    refine AW_icmp_ne (tgt := 34) dX6_on_25 (by decide) (fun c => ?_) (fun c => ?_)
    · replace H := H.1 c
      refine AW_aload_n dX6_on_34 rfl rfl ?_
      refine AW_aload_n dX6_on_35 rfl rfl ?_
      refine AW_getR dX6_on_36 (bI_200 B) fl_X6_64 (bR_200_27 B) ?_
      refine AW_iload_n dX6_on_39 rfl rfl ?_
      have hi4 := H.1
      replace H := H.2
      refine AW_iald dX6_on_40 (bI_227 B) hi4 ?_
      refine AW_putIN dX6_on_41 (bI_200 B) fl_X6_160 rfl rfl rfl (fun v5 hv5 => ?_)
      replace H := H v5 hv5
      refine AW_aload_n dX6_on_44 rfl rfl ?_
      refine AW_aload_n dX6_on_45 rfl rfl ?_
      refine AW_getR dX6_on_46 (bI_200 B) fl_X6_64 (bR_200_27 B) ?_
      refine AW_iload_n dX6_on_49 rfl rfl ?_
      refine AW_iconst (x := 1) dX6_on_50 (by decide) ?_
      refine AW_iadd dX6_on_51 ?_
      have hi6 := H.1
      replace H := H.2
      refine AW_iald dX6_on_52 (bI_227 B) hi6 ?_
      refine AW_putIN dX6_on_53 (bI_200 B) fl_X6_157 rfl rfl rfl (fun v7 hv7 => ?_)
      replace H := H v7 hv7
      refine AW_iconst (x := 0) dX6_on_56 (by decide) ?_
      refine AW_istore_n (L' := [some (.ref 200), some (.int xa), some (.int (920 * xa)), some (.int 0)]) dX6_on_57 rfl (by decide) rfl ?_
      exact H
    · replace H := H.2 c
      refine AW_aload_n dX6_on_28 rfl rfl ?_
      refine AW_iconst (x := 1) dX6_on_29 (by decide) ?_
      refine AW_vI (as := [(.int 1)]) (st := []) dX6_on_30 (bI_200 B) (by decide) rfl mv_X6_meet mi_X6_meet ml_X6_100 (Nat.le_of_ble_eq_true rfl) rfl (Nat.le_refl 0) (Nat.le_refl 0) H (fun r9 v8 H => ?_)
      exact AW_rI dX6_on_33 rfl rfl H
  · replace H := H.2 c
    refine AW_iconst (x := (-1)) dX6_on_9 (by decide) ?_
    exact AW_rI dX6_on_10 rfl rfl H
set_option maxRecDepth 100000 in
set_option maxHeartbeats 4000000 in
theorem vc_X6_on_58 {G : xG} {d : Nat} {z : xZ} {v : xS} {Q : Int32 → xS → Prop} (B : Base z)  {l1 : Int32} {l2 : Int32} {l3 : Int32} 
    (H : ((3 ≤ l3 → (oX6_read G d [(.ref 200), (.ref 227), (.int (l2 + 5))] z v (fun v1 => aX6_on G (d + 1) 98 [some (.ref 200), some (.int l1), some (.int l2), some (.int 0)] [] z v1 Q))) ∧ (¬ 3 ≤ l3 → (vp_in ((l2 + 2) + l3) 2760 ∧ (vp_in l3 3 ∧ (∀ v4 : xS, v4 = wV v 212 l3.toNatClampNeg (v.1 227 ((l2 + 2) + l3).toNatClampNeg) → aX6_on G (d + 1) 58 [some (.ref 200), some (.int l1), some (.int l2), some (.int (l3 + 1))] [] z v4 Q)))))) :
    aX6_on G (d + 1) 58 [some (.ref 200), some (.int l1), some (.int l2), some (.int l3)] [] z v Q := by
  refine AW_iload_n dX6_on_58 rfl rfl ?_
  refine AW_iconst (x := 3) dX6_on_59 (by decide) ?_
  refine AW_icmp_ge (tgt := 85) dX6_on_60 (by decide) (fun c => ?_) (fun c => ?_)
  · replace H := H.1 c
    refine AW_aload_n dX6_on_85 rfl rfl ?_
    refine AW_aload_n dX6_on_86 rfl rfl ?_
    refine AW_getR dX6_on_87 (bI_200 B) fl_X6_64 (bR_200_27 B) ?_
    refine AW_iload_n dX6_on_90 rfl rfl ?_
    refine AW_iconst (x := 5) dX6_on_91 (by decide) ?_
    refine AW_iadd dX6_on_92 ?_
    refine AW_vV (as := [(.ref 227), (.int (l2 + 5))]) (st := []) dX6_on_93 (bI_200 B) (by decide) rfl mv_X6_read mi_X6_read ml_X6_208 (Nat.le_of_ble_eq_true rfl) rfl (Nat.le_refl 0) (Nat.le_refl 0) H (fun v1 H => ?_)
    refine AW_iconst (x := 0) dX6_on_96 (by decide) ?_
    refine AW_istore_n (L' := [some (.ref 200), some (.int l1), some (.int l2), some (.int 0)]) dX6_on_97 rfl (by decide) rfl ?_
    exact H
  · replace H := H.2 c
    refine AW_aload_n dX6_on_63 rfl rfl ?_
    refine AW_getR dX6_on_64 (bI_200 B) fl_X6_34 (bR_200_12 B) ?_
    refine AW_iload_n dX6_on_67 rfl rfl ?_
    refine AW_aload_n dX6_on_68 rfl rfl ?_
    refine AW_getR dX6_on_69 (bI_200 B) fl_X6_64 (bR_200_27 B) ?_
    refine AW_iload_n dX6_on_72 rfl rfl ?_
    refine AW_iconst (x := 2) dX6_on_73 (by decide) ?_
    refine AW_iadd dX6_on_74 ?_
    refine AW_iload_n dX6_on_75 rfl rfl ?_
    refine AW_iadd dX6_on_76 ?_
    have hi2 := H.1
    replace H := H.2
    refine AW_iald dX6_on_77 (bI_227 B) hi2 ?_
    have hi3 := H.1
    replace H := H.2
    refine AW_iastN dX6_on_78 (bI_212 B) hi3 (fun v4 hv4 => ?_)
    replace H := H v4 hv4
    refine AW_iinc (x' := l3 + 1) (L' := [some (.ref 200), some (.int l1), some (.int l2), some (.int (l3 + 1))]) dX6_on_79 rfl rfl (by decide) rfl ?_
    refine AW_goto (tgt := 58) dX6_on_82 (by decide) ?_
    exact H
set_option maxRecDepth 100000 in
set_option maxHeartbeats 4000000 in
theorem vc_X6_on_98 {G : xG} {d : Nat} {z : xZ} {v : xS} {Q : Int32 → xS → Prop} (B : Base z)  {l1 : Int32} {l2 : Int32} {l3 : Int32} 
    (H : ((60 ≤ l3 → aX6_on G (d + 1) 129 [some (.ref 200), some (.int l1), some (.int l2), some (.int 0)] [] z v Q) ∧ (¬ 60 ≤ l3 → (vp_in ((l2 + 20) + l3) 2760 ∧ (vp_in l3 60 ∧ (∀ v3 : xS, v3 = wV v 225 l3.toNatClampNeg (v.1 227 ((l2 + 20) + l3).toNatClampNeg) → aX6_on G (d + 1) 98 [some (.ref 200), some (.int l1), some (.int l2), some (.int (l3 + 1))] [] z v3 Q)))))) :
    aX6_on G (d + 1) 98 [some (.ref 200), some (.int l1), some (.int l2), some (.int l3)] [] z v Q := by
  refine AW_iload_n dX6_on_98 rfl rfl ?_
  refine AW_bipush (x := 60) dX6_on_99 (by decide) ?_
  refine AW_icmp_ge (tgt := 127) dX6_on_101 (by decide) (fun c => ?_) (fun c => ?_)
  · replace H := H.1 c
    refine AW_iconst (x := 0) dX6_on_127 (by decide) ?_
    refine AW_istore_n (L' := [some (.ref 200), some (.int l1), some (.int l2), some (.int 0)]) dX6_on_128 rfl (by decide) rfl ?_
    exact H
  · replace H := H.2 c
    refine AW_aload_n dX6_on_104 rfl rfl ?_
    refine AW_getR dX6_on_105 (bI_200 B) fl_X6_58 (bR_200_25 B) ?_
    refine AW_iload_n dX6_on_108 rfl rfl ?_
    refine AW_aload_n dX6_on_109 rfl rfl ?_
    refine AW_getR dX6_on_110 (bI_200 B) fl_X6_64 (bR_200_27 B) ?_
    refine AW_iload_n dX6_on_113 rfl rfl ?_
    refine AW_bipush (x := 20) dX6_on_114 (by decide) ?_
    refine AW_iadd dX6_on_116 ?_
    refine AW_iload_n dX6_on_117 rfl rfl ?_
    refine AW_iadd dX6_on_118 ?_
    have hi1 := H.1
    replace H := H.2
    refine AW_iald dX6_on_119 (bI_227 B) hi1 ?_
    have hi2 := H.1
    replace H := H.2
    refine AW_iastN dX6_on_120 (bI_225 B) hi2 (fun v3 hv3 => ?_)
    replace H := H v3 hv3
    refine AW_iinc (x' := l3 + 1) (L' := [some (.ref 200), some (.int l1), some (.int l2), some (.int (l3 + 1))]) dX6_on_121 rfl rfl (by decide) rfl ?_
    refine AW_goto (tgt := 98) dX6_on_124 (by decide) ?_
    exact H
set_option maxRecDepth 100000 in
set_option maxHeartbeats 4000000 in
theorem vc_X6_on_129 {G : xG} {d : Nat} {z : xZ} {v : xS} {Q : Int32 → xS → Prop} (B : Base z)  {l1 : Int32} {l2 : Int32} {l3 : Int32} 
    (H : ((840 ≤ l3 → Q (v.1 200 24) v) ∧ (¬ 840 ≤ l3 → (vp_in ((l2 + 80) + l3) 2760 ∧ (vp_in l3 840 ∧ (∀ v3 : xS, v3 = wV v 226 l3.toNatClampNeg (v.1 227 ((l2 + 80) + l3).toNatClampNeg) → aX6_on G (d + 1) 129 [some (.ref 200), some (.int l1), some (.int l2), some (.int (l3 + 1))] [] z v3 Q)))))) :
    aX6_on G (d + 1) 129 [some (.ref 200), some (.int l1), some (.int l2), some (.int l3)] [] z v Q := by
  refine AW_iload_n dX6_on_129 rfl rfl ?_
  refine AW_sipush (x := 840) dX6_on_130 (by decide) ?_
  refine AW_icmp_ge (tgt := 159) dX6_on_133 (by decide) (fun c => ?_) (fun c => ?_)
  · replace H := H.1 c
    refine AW_aload_n dX6_on_159 rfl rfl ?_
    refine AW_getI dX6_on_160 (bI_200 B) fl_X6_160 ?_
    exact AW_rI dX6_on_163 rfl rfl H
  · replace H := H.2 c
    refine AW_aload_n dX6_on_136 rfl rfl ?_
    refine AW_getR dX6_on_137 (bI_200 B) fl_X6_61 (bR_200_26 B) ?_
    refine AW_iload_n dX6_on_140 rfl rfl ?_
    refine AW_aload_n dX6_on_141 rfl rfl ?_
    refine AW_getR dX6_on_142 (bI_200 B) fl_X6_64 (bR_200_27 B) ?_
    refine AW_iload_n dX6_on_145 rfl rfl ?_
    refine AW_bipush (x := 80) dX6_on_146 (by decide) ?_
    refine AW_iadd dX6_on_148 ?_
    refine AW_iload_n dX6_on_149 rfl rfl ?_
    refine AW_iadd dX6_on_150 ?_
    have hi1 := H.1
    replace H := H.2
    refine AW_iald dX6_on_151 (bI_227 B) hi1 ?_
    have hi2 := H.1
    replace H := H.2
    refine AW_iastN dX6_on_152 (bI_226 B) hi2 (fun v3 hv3 => ?_)
    replace H := H v3 hv3
    refine AW_iinc (x' := l3 + 1) (L' := [some (.ref 200), some (.int l1), some (.int l2), some (.int (l3 + 1))]) dX6_on_153 rfl rfl (by decide) rfl ?_
    refine AW_goto (tgt := 129) dX6_on_156 (by decide) ?_
    exact H
set_option maxRecDepth 100000 in
set_option maxHeartbeats 4000000 in
theorem vc_X6_putAhead {G : xG} {d : Nat} {z : xZ} {v : xS} {Q : xS → Prop} (B : Base z)  
    (H : (oX6_write G d [(.ref 200), (.ref 228), (.int 0)] z v (fun v1 => Q v1))) :
    oX6_putAhead G (d + 1) [(.ref 200)] z v Q := by
  refine Ok_of (own := RX6) (by decide) rfl (Nat.le_of_ble_eq_true rfl) ?_
  show AW G (d + 1) 0 0 yX6_putAhead cX6_putAhead 1 none RX6 0 0 0 [some (.ref 200)] [] z v _
  refine AW_aload_n dX6_putAhead_0 rfl rfl ?_
  refine AW_aload_n dX6_putAhead_1 rfl rfl ?_
  refine AW_getR dX6_putAhead_2 (bI_200 B) fl_X6_67 (bR_200_28 B) ?_
  refine AW_iconst (x := 0) dX6_putAhead_5 (by decide) ?_
  refine AW_vV (as := [(.ref 228), (.int 0)]) (st := []) dX6_putAhead_6 (bI_200 B) (by decide) rfl mv_X6_write mi_X6_write ml_X6_204 (Nat.le_of_ble_eq_true rfl) rfl (Nat.le_refl 0) (Nat.le_refl 0) H (fun v1 H => ?_)
  exact AW_rV dX6_putAhead_9 rfl H
set_option maxRecDepth 100000 in
set_option maxHeartbeats 4000000 in
theorem vc_X6_comeBack {G : xG} {d : Nat} {z : xZ} {v : xS} {Q : xS → Prop} (B : Base z)  
    (H : (oX6_read G d [(.ref 200), (.ref 228), (.int 0)] z v (fun v1 => Q v1))) :
    oX6_comeBack G (d + 1) [(.ref 200)] z v Q := by
  refine Ok_of (own := RX6) (by decide) rfl (Nat.le_of_ble_eq_true rfl) ?_
  show AW G (d + 1) 0 0 yX6_comeBack cX6_comeBack 1 none RX6 0 0 0 [some (.ref 200)] [] z v _
  refine AW_aload_n dX6_comeBack_0 rfl rfl ?_
  refine AW_aload_n dX6_comeBack_1 rfl rfl ?_
  refine AW_getR dX6_comeBack_2 (bI_200 B) fl_X6_67 (bR_200_28 B) ?_
  refine AW_iconst (x := 0) dX6_comeBack_5 (by decide) ?_
  refine AW_vV (as := [(.ref 228), (.int 0)]) (st := []) dX6_comeBack_6 (bI_200 B) (by decide) rfl mv_X6_read mi_X6_read ml_X6_208 (Nat.le_of_ble_eq_true rfl) rfl (Nat.le_refl 0) (Nat.le_refl 0) H (fun v1 H => ?_)
  exact AW_rV dX6_comeBack_9 rfl H
set_option maxRecDepth 100000 in
set_option maxHeartbeats 4000000 in
theorem vc_X6_behind {G : xG} {d : Nat} {z : xZ} {v : xS} {Q : Int32 → xS → Prop} (B : Base z) {xa : Int32} {xb : Int32} {xc : Int32} 
    (H : (oX6_isProgram G d [(.ref 200), (.int xa)] z v (fun r2 v1 => ((r2 = 0 → Q (-1) v1) ∧ (¬ r2 = 0 → (oX6_in G d [(.int xb), (.int 0), (.int 60)] z v1 (fun r4 v3 => ((r4 = 0 → Q (-1) v3) ∧ (¬ r4 = 0 → (oX6_isSpot G d [(.ref 200), (.int xc)] z v3 (fun r6 v5 => ((¬ r6 = 0 → (oX6_putAhead G d [(.ref 200)] z v5 (fun v7 => aX6_behind G (d + 1) 38 [some (.ref 200), some (.int xa), some (.int xb), some (.int xc), some (.int 0), some (.int 0)] [] z v7 Q))) ∧ (r6 = 0 → Q (-1) v5))))))))))))) :
    oX6_behind G (d + 1) [(.ref 200), (.int xa), (.int xb), (.int xc)] z v Q := by
  refine Ok_of (own := RX6) (by decide) rfl (Nat.le_of_ble_eq_true rfl) ?_
  show AW G (d + 1) 0 0 yX6_behind cX6_behind 6 (some .int) RX6 0 0 0 [some (.ref 200), some (.int xa), some (.int xb), some (.int xc), none, none] [] z v _
  refine AW_aload_n dX6_behind_0 rfl rfl ?_
  refine AW_iload_n dX6_behind_1 rfl rfl ?_
  refine AW_vI (as := [(.int xa)]) (st := []) dX6_behind_2 (bI_200 B) (by decide) rfl mv_X6_isProgram mi_X6_isProgram ml_X6_224 (Nat.le_of_ble_eq_true rfl) rfl (Nat.le_refl 0) (Nat.le_refl 0) H (fun r2 v1 H => ?_)
  refine AW_if_eq (tgt := 26) dX6_behind_5 (by decide) (fun c => ?_) (fun c => ?_)
  · replace H := H.1 c
    refine AW_iconst (x := (-1)) dX6_behind_26 (by decide) ?_
    exact AW_rI dX6_behind_27 rfl rfl H
  · replace H := H.2 c
    refine AW_iload_n dX6_behind_8 rfl rfl ?_
    refine AW_iconst (x := 0) dX6_behind_9 (by decide) ?_
    refine AW_bipush (x := 60) dX6_behind_10 (by decide) ?_
    refine AW_sI (as := [(.int xb), (.int 0), (.int 60)]) (st := []) dX6_behind_12 mv_X6_in ms_X6_in ml_X6_92 (Nat.le_of_ble_eq_true rfl) rfl (Nat.le_refl 0) (Nat.le_refl 0) H (fun r4 v3 H => ?_)
    refine AW_if_eq (tgt := 26) dX6_behind_15 (by decide) (fun c => ?_) (fun c => ?_)
    · replace H := H.1 c
      refine AW_iconst (x := (-1)) dX6_behind_26 (by decide) ?_
      exact AW_rI dX6_behind_27 rfl rfl H
    · replace H := H.2 c
      refine AW_aload_n dX6_behind_18 rfl rfl ?_
      refine AW_iload_n dX6_behind_19 rfl rfl ?_
      refine AW_vI (as := [(.int xc)]) (st := []) dX6_behind_20 (bI_200 B) (by decide) rfl mv_X6_isSpot mi_X6_isSpot ml_X6_163 (Nat.le_of_ble_eq_true rfl) rfl (Nat.le_refl 0) (Nat.le_refl 0) H (fun r6 v5 H => ?_)
      refine AW_if_ne (tgt := 28) dX6_behind_23 (by decide) (fun c => ?_) (fun c => ?_)
      · replace H := H.1 c
        refine AW_aload_n dX6_behind_28 rfl rfl ?_
        refine AW_vV (as := []) (st := []) dX6_behind_29 (bI_200 B) (by decide) rfl mv_X6_putAhead mi_X6_putAhead ml_X6_239 (Nat.le_of_ble_eq_true rfl) rfl (Nat.le_refl 0) (Nat.le_refl 0) H (fun v7 H => ?_)
        refine AW_iconst (x := 0) dX6_behind_32 (by decide) ?_
        refine AW_istore (L' := [some (.ref 200), some (.int xa), some (.int xb), some (.int xc), some (.int 0), none]) dX6_behind_33 (by decide) rfl ?_
        refine AW_iconst (x := 0) dX6_behind_35 (by decide) ?_
        refine AW_istore (L' := [some (.ref 200), some (.int xa), some (.int xb), some (.int xc), some (.int 0), some (.int 0)]) dX6_behind_36 (by decide) rfl ?_
        exact H
      · replace H := H.2 c
        refine AW_iconst (x := (-1)) dX6_behind_26 (by decide) ?_
        exact AW_rI dX6_behind_27 rfl rfl H
set_option maxRecDepth 100000 in
set_option maxHeartbeats 4000000 in
theorem vc_X6_behind_38 {G : xG} {d : Nat} {z : xZ} {v : xS} {Q : Int32 → xS → Prop} (B : Base z)  {l1 : Int32} {l2 : Int32} {l3 : Int32} {l4 : Int32} {l5 : Int32} 
    (H : ((l2 ≤ l5 → (vp_in l3 10 ∧ (oX6_comeBack G d [(.ref 200)] z v (fun v2 => (oX6_ask G d [(.ref 200), (.int l4), (.int (v.1 210 l3.toNatClampNeg))] z v2 (fun r4 v3 => Q r4 v3)))))) ∧ (¬ l2 ≤ l5 → (oX6_passEvening G d [(.ref 200), (.int l1)] z v (fun r6 v5 => aX6_behind G (d + 1) 38 [some (.ref 200), some (.int l1), some (.int l2), some (.int l3), some (.int (l4 + r6)), some (.int (l5 + 1))] [] z v5 Q))))) :
    aX6_behind G (d + 1) 38 [some (.ref 200), some (.int l1), some (.int l2), some (.int l3), some (.int l4), some (.int l5)] [] z v Q := by
  refine AW_iload dX6_behind_38 rfl ?_
  refine AW_iload_n dX6_behind_40 rfl rfl ?_
  refine AW_icmp_ge (tgt := 60) dX6_behind_41 (by decide) (fun c => ?_) (fun c => ?_)
  · replace H := H.1 c
    refine AW_aload_n dX6_behind_60 rfl rfl ?_
    refine AW_getR dX6_behind_61 (bI_200 B) fl_X6_28 (bR_200_10 B) ?_
    refine AW_iload_n dX6_behind_64 rfl rfl ?_
    have hi1 := H.1
    replace H := H.2
    refine AW_iald dX6_behind_65 (bI_210 B) hi1 ?_
    refine AW_istore (L' := [some (.ref 200), some (.int l1), some (.int l2), some (.int l3), some (.int l4), some (.int (v.1 210 l3.toNatClampNeg))]) dX6_behind_66 (by decide) rfl ?_
    refine AW_aload_n dX6_behind_68 rfl rfl ?_
    refine AW_vV (as := []) (st := []) dX6_behind_69 (bI_200 B) (by decide) rfl mv_X6_comeBack mi_X6_comeBack ml_X6_242 (Nat.le_of_ble_eq_true rfl) rfl (Nat.le_refl 0) (Nat.le_refl 0) H (fun v2 H => ?_)
    refine AW_aload_n dX6_behind_72 rfl rfl ?_
    refine AW_iload dX6_behind_73 rfl ?_
    refine AW_iload dX6_behind_75 rfl ?_
    refine AW_vI (as := [(.int l4), (.int (v.1 210 l3.toNatClampNeg))]) (st := []) dX6_behind_77 (bI_200 B) (by decide) rfl mv_X6_ask mi_X6_ask ml_X6_118 (Nat.le_of_ble_eq_true rfl) rfl (Nat.le_refl 0) (Nat.le_refl 0) H (fun r4 v3 H => ?_)
    exact AW_rI dX6_behind_80 rfl rfl H
  · replace H := H.2 c
    refine AW_iload dX6_behind_44 rfl ?_
    refine AW_aload_n dX6_behind_46 rfl rfl ?_
    refine AW_iload_n dX6_behind_47 rfl rfl ?_
    refine AW_vI (as := [(.int l1)]) (st := [(.int l4)]) dX6_behind_48 (bI_200 B) (by decide) rfl mv_X6_passEvening mi_X6_passEvening ml_X6_221 (Nat.le_of_ble_eq_true rfl) rfl (Nat.le_refl 0) (Nat.le_refl 0) H (fun r6 v5 H => ?_)
    refine AW_iadd dX6_behind_51 ?_
    refine AW_istore (L' := [some (.ref 200), some (.int l1), some (.int l2), some (.int l3), some (.int (l4 + r6)), some (.int l5)]) dX6_behind_52 (by decide) rfl ?_
    refine AW_iinc (x' := l5 + 1) (L' := [some (.ref 200), some (.int l1), some (.int l2), some (.int l3), some (.int (l4 + r6)), some (.int (l5 + 1))]) dX6_behind_54 rfl rfl (by decide) rfl ?_
    refine AW_goto (tgt := 38) dX6_behind_57 (by decide) ?_
    exact H
set_option maxRecDepth 100000 in
set_option maxHeartbeats 4000000 in
theorem vc_X6_setWas {G : xG} {d : Nat} {z : xZ} {v : xS} {Q : xS → Prop} (B : Base z)  
    (H : aX6_setWas G (d + 1) 2 [some (.ref 200), some (.int 0)] [] z v Q) :
    oX6_setWas G (d + 1) [(.ref 200)] z v Q := by
  refine Ok_of (own := RX6) (by decide) rfl (Nat.le_of_ble_eq_true rfl) ?_
  show AW G (d + 1) 0 0 yX6_setWas cX6_setWas 2 none RX6 0 0 0 [some (.ref 200), none] [] z v _
  refine AW_iconst (x := 0) dX6_setWas_0 (by decide) ?_
  refine AW_istore_n (L' := [some (.ref 200), some (.int 0)]) dX6_setWas_1 rfl (by decide) rfl ?_
  exact H
set_option maxRecDepth 100000 in
set_option maxHeartbeats 4000000 in
theorem vc_X6_setWas_2 {G : xG} {d : Nat} {z : xZ} {v : xS} {Q : xS → Prop} (B : Base z)  {l1 : Int32} 
    (H : ((10 ≤ l1 → Q v) ∧ (¬ 10 ≤ l1 → (vp_in l1 10 ∧ (vp_in l1 10 ∧ (∀ v3 : xS, v3 = wV v 229 l1.toNatClampNeg (v.1 210 l1.toNatClampNeg) → aX6_setWas G (d + 1) 2 [some (.ref 200), some (.int (l1 + 1))] [] z v3 Q)))))) :
    aX6_setWas G (d + 1) 2 [some (.ref 200), some (.int l1)] [] z v Q := by
  refine AW_iload_n dX6_setWas_2 rfl rfl ?_
  refine AW_bipush (x := 10) dX6_setWas_3 (by decide) ?_
  refine AW_icmp_ge (tgt := 26) dX6_setWas_5 (by decide) (fun c => ?_) (fun c => ?_)
  · replace H := H.1 c
    exact AW_rV dX6_setWas_26 rfl H
  · replace H := H.2 c
    refine AW_aload_n dX6_setWas_8 rfl rfl ?_
    refine AW_getR dX6_setWas_9 (bI_200 B) fl_X6_70 (bR_200_29 B) ?_
    refine AW_iload_n dX6_setWas_12 rfl rfl ?_
    refine AW_aload_n dX6_setWas_13 rfl rfl ?_
    refine AW_getR dX6_setWas_14 (bI_200 B) fl_X6_28 (bR_200_10 B) ?_
    refine AW_iload_n dX6_setWas_17 rfl rfl ?_
    have hi1 := H.1
    replace H := H.2
    refine AW_iald dX6_setWas_18 (bI_210 B) hi1 ?_
    have hi2 := H.1
    replace H := H.2
    refine AW_iastN dX6_setWas_19 (bI_229 B) hi2 (fun v3 hv3 => ?_)
    replace H := H v3 hv3
    refine AW_iinc (x' := l1 + 1) (L' := [some (.ref 200), some (.int (l1 + 1))]) dX6_setWas_20 rfl rfl (by decide) rfl ?_
    refine AW_goto (tgt := 2) dX6_setWas_23 (by decide) ?_
    exact H
set_option maxRecDepth 100000 in
set_option maxHeartbeats 4000000 in
theorem vc_X6_isWas {G : xG} {d : Nat} {z : xZ} {v : xS} {Q : Int32 → xS → Prop} (B : Base z)  
    (H : aX6_isWas G (d + 1) 4 [some (.ref 200), some (.int 1), some (.int 0)] [] z v Q) :
    oX6_isWas G (d + 1) [(.ref 200)] z v Q := by
  refine Ok_of (own := RX6) (by decide) rfl (Nat.le_of_ble_eq_true rfl) ?_
  show AW G (d + 1) 0 0 yX6_isWas cX6_isWas 3 (some .boolean) RX6 0 0 0 [some (.ref 200), none, none] [] z v _
  refine AW_iconst (x := 1) dX6_isWas_0 (by decide) ?_
  refine AW_istore_n (L' := [some (.ref 200), some (.int 1), none]) dX6_isWas_1 rfl (by decide) rfl ?_
  refine AW_iconst (x := 0) dX6_isWas_2 (by decide) ?_
  refine AW_istore_n (L' := [some (.ref 200), some (.int 1), some (.int 0)]) dX6_isWas_3 rfl (by decide) rfl ?_
  exact H
set_option maxRecDepth 100000 in
set_option maxHeartbeats 4000000 in
theorem vc_X6_isWas_4 {G : xG} {d : Nat} {z : xZ} {v : xS} {Q : Int32 → xS → Prop} (B : Base z)  {l1 : Int32} {l2 : Int32} 
    (H : (((v.1 200 8) ≤ l2 → (xbl l1 ∧ Q l1 v)) ∧ (¬ (v.1 200 8) ≤ l2 → ((l1 = 0 → aX6_isWas G (d + 1) 4 [some (.ref 200), some (.int 0), some (.int (l2 + 1))] [] z v Q) ∧ (¬ l1 = 0 → (vp_in l2 10 ∧ (vp_in l2 10 ∧ ((¬ (v.1 229 l2.toNatClampNeg) = (v.1 210 l2.toNatClampNeg) → aX6_isWas G (d + 1) 4 [some (.ref 200), some (.int 0), some (.int (l2 + 1))] [] z v Q) ∧ ((v.1 229 l2.toNatClampNeg) = (v.1 210 l2.toNatClampNeg) → aX6_isWas G (d + 1) 4 [some (.ref 200), some (.int 1), some (.int (l2 + 1))] [] z v Q))))))))) :
    aX6_isWas G (d + 1) 4 [some (.ref 200), some (.int l1), some (.int l2)] [] z v Q := by
  refine AW_iload_n dX6_isWas_4 rfl rfl ?_
  refine AW_aload_n dX6_isWas_5 rfl rfl ?_
  refine AW_getI dX6_isWas_6 (bI_200 B) fl_X6_151 ?_
  refine AW_icmp_ge (tgt := 43) dX6_isWas_9 (by decide) (fun c => ?_) (fun c => ?_)
  · replace H := H.1 c
    refine AW_iload_n dX6_isWas_43 rfl rfl ?_
    exact AW_rI dX6_isWas_44 rfl H.1 H.2
  · replace H := H.2 c
    refine AW_iload_n dX6_isWas_12 rfl rfl ?_
    refine AW_if_eq (tgt := 35) dX6_isWas_13 (by decide) (fun c => ?_) (fun c => ?_)
    · replace H := H.1 c
      refine AW_iconst (x := 0) dX6_isWas_35 (by decide) ?_
      refine AW_istore_n (L' := [some (.ref 200), some (.int 0), some (.int l2)]) dX6_isWas_36 rfl (by decide) rfl ?_
      refine AW_iinc (x' := l2 + 1) (L' := [some (.ref 200), some (.int 0), some (.int (l2 + 1))]) dX6_isWas_37 rfl rfl (by decide) rfl ?_
      refine AW_goto (tgt := 4) dX6_isWas_40 (by decide) ?_
      exact H
    · replace H := H.2 c
      refine AW_aload_n dX6_isWas_16 rfl rfl ?_
      refine AW_getR dX6_isWas_17 (bI_200 B) fl_X6_70 (bR_200_29 B) ?_
      refine AW_iload_n dX6_isWas_20 rfl rfl ?_
      have hi1 := H.1
      replace H := H.2
      refine AW_iald dX6_isWas_21 (bI_229 B) hi1 ?_
      refine AW_aload_n dX6_isWas_22 rfl rfl ?_
      refine AW_getR dX6_isWas_23 (bI_200 B) fl_X6_28 (bR_200_10 B) ?_
      refine AW_iload_n dX6_isWas_26 rfl rfl ?_
      have hi2 := H.1
      replace H := H.2
      refine AW_iald dX6_isWas_27 (bI_210 B) hi2 ?_
      refine AW_icmp_ne (tgt := 35) dX6_isWas_28 (by decide) (fun c => ?_) (fun c => ?_)
      · replace H := H.1 c
        refine AW_iconst (x := 0) dX6_isWas_35 (by decide) ?_
        refine AW_istore_n (L' := [some (.ref 200), some (.int 0), some (.int l2)]) dX6_isWas_36 rfl (by decide) rfl ?_
        refine AW_iinc (x' := l2 + 1) (L' := [some (.ref 200), some (.int 0), some (.int (l2 + 1))]) dX6_isWas_37 rfl rfl (by decide) rfl ?_
        refine AW_goto (tgt := 4) dX6_isWas_40 (by decide) ?_
        exact H
      · replace H := H.2 c
        refine AW_iconst (x := 1) dX6_isWas_31 (by decide) ?_
        refine AW_goto (tgt := 36) dX6_isWas_32 (by decide) ?_
        refine AW_istore_n (L' := [some (.ref 200), some (.int 1), some (.int l2)]) dX6_isWas_36 rfl (by decide) rfl ?_
        refine AW_iinc (x' := l2 + 1) (L' := [some (.ref 200), some (.int 1), some (.int (l2 + 1))]) dX6_isWas_37 rfl rfl (by decide) rfl ?_
        refine AW_goto (tgt := 4) dX6_isWas_40 (by decide) ?_
        exact H
set_option maxRecDepth 100000 in
set_option maxHeartbeats 4000000 in
theorem vc_X6_topOf {G : xG} {d : Nat} {z : xZ} {v : xS} {Q : Int32 → xS → Prop} (B : Base z) {xa : Int32} {xb : Int32} 
    (H : aX6_topOf G (d + 1) 7 [some (.ref 200), some (.int xa), some (.int xb), some (.int xa), some (.int (xa + 1))] [] z v Q) :
    oX6_topOf G (d + 1) [(.ref 200), (.int xa), (.int xb)] z v Q := by
  refine Ok_of (own := RX6) (by decide) rfl (Nat.le_of_ble_eq_true rfl) ?_
  show AW G (d + 1) 0 0 yX6_topOf cX6_topOf 5 (some .int) RX6 0 0 0 [some (.ref 200), some (.int xa), some (.int xb), none, none] [] z v _
  refine AW_iload_n dX6_topOf_0 rfl rfl ?_
  refine AW_istore_n (L' := [some (.ref 200), some (.int xa), some (.int xb), some (.int xa), none]) dX6_topOf_1 rfl (by decide) rfl ?_
  refine AW_iload_n dX6_topOf_2 rfl rfl ?_
  refine AW_iconst (x := 1) dX6_topOf_3 (by decide) ?_
  refine AW_iadd dX6_topOf_4 ?_
  refine AW_istore (L' := [some (.ref 200), some (.int xa), some (.int xb), some (.int xa), some (.int (xa + 1))]) dX6_topOf_5 (by decide) rfl ?_
  exact H
set_option maxRecDepth 100000 in
set_option maxHeartbeats 4000000 in
theorem vc_X6_topOf_7 {G : xG} {d : Nat} {z : xZ} {v : xS} {Q : Int32 → xS → Prop} (B : Base z)  {l1 : Int32} {l2 : Int32} {l3 : Int32} {l4 : Int32} 
    (H : ((l2 < l4 → Q l3 v) ∧ (¬ l2 < l4 → (vp_in l4 10 ∧ (vp_in l3 10 ∧ (((v.1 210 l4.toNatClampNeg) ≤ (v.1 210 l3.toNatClampNeg) → aX6_topOf G (d + 1) 7 [some (.ref 200), some (.int l1), some (.int l2), some (.int l3), some (.int (l4 + 1))] [] z v Q) ∧ (¬ (v.1 210 l4.toNatClampNeg) ≤ (v.1 210 l3.toNatClampNeg) → aX6_topOf G (d + 1) 7 [some (.ref 200), some (.int l1), some (.int l2), some (.int l4), some (.int (l4 + 1))] [] z v Q))))))) :
    aX6_topOf G (d + 1) 7 [some (.ref 200), some (.int l1), some (.int l2), some (.int l3), some (.int l4)] [] z v Q := by
  refine AW_iload dX6_topOf_7 rfl ?_
  refine AW_iload_n dX6_topOf_9 rfl rfl ?_
  refine AW_icmp_gt (tgt := 42) dX6_topOf_10 (by decide) (fun c => ?_) (fun c => ?_)
  · replace H := H.1 c
    refine AW_iload_n dX6_topOf_42 rfl rfl ?_
    exact AW_rI dX6_topOf_43 rfl rfl H
  · replace H := H.2 c
    refine AW_aload_n dX6_topOf_13 rfl rfl ?_
    refine AW_getR dX6_topOf_14 (bI_200 B) fl_X6_28 (bR_200_10 B) ?_
    refine AW_iload dX6_topOf_17 rfl ?_
    have hi1 := H.1
    replace H := H.2
    refine AW_iald dX6_topOf_19 (bI_210 B) hi1 ?_
    refine AW_aload_n dX6_topOf_20 rfl rfl ?_
    refine AW_getR dX6_topOf_21 (bI_200 B) fl_X6_28 (bR_200_10 B) ?_
    refine AW_iload_n dX6_topOf_24 rfl rfl ?_
    have hi2 := H.1
    replace H := H.2
    refine AW_iald dX6_topOf_25 (bI_210 B) hi2 ?_
    refine AW_icmp_le (tgt := 34) dX6_topOf_26 (by decide) (fun c => ?_) (fun c => ?_)
    · replace H := H.1 c
      refine AW_iload_n dX6_topOf_34 rfl rfl ?_
      refine AW_istore_n (L' := [some (.ref 200), some (.int l1), some (.int l2), some (.int l3), some (.int l4)]) dX6_topOf_35 rfl (by decide) rfl ?_
      refine AW_iinc (x' := l4 + 1) (L' := [some (.ref 200), some (.int l1), some (.int l2), some (.int l3), some (.int (l4 + 1))]) dX6_topOf_36 rfl rfl (by decide) rfl ?_
      refine AW_goto (tgt := 7) dX6_topOf_39 (by decide) ?_
      exact H
    · replace H := H.2 c
      refine AW_iload dX6_topOf_29 rfl ?_
      refine AW_goto (tgt := 35) dX6_topOf_31 (by decide) ?_
      refine AW_istore_n (L' := [some (.ref 200), some (.int l1), some (.int l2), some (.int l4), some (.int l4)]) dX6_topOf_35 rfl (by decide) rfl ?_
      refine AW_iinc (x' := l4 + 1) (L' := [some (.ref 200), some (.int l1), some (.int l2), some (.int l4), some (.int (l4 + 1))]) dX6_topOf_36 rfl rfl (by decide) rfl ?_
      refine AW_goto (tgt := 7) dX6_topOf_39 (by decide) ?_
      exact H
set_option maxRecDepth 100000 in
set_option maxHeartbeats 4000000 in
theorem vc_X6_highestNow {G : xG} {d : Nat} {z : xZ} {v : xS} {Q : Int32 → xS → Prop} (B : Base z)  
    (H : ((¬ (v.1 200 8) = 0 → (oX6_topOf G d [(.ref 200), (.int 0), (.int ((v.1 200 8) - 1))] z v (fun r2 v1 => (vp_in r2 10 ∧ Q (v1.1 210 r2.toNatClampNeg) v1)))) ∧ ((v.1 200 8) = 0 → Q 0 v))) :
    oX6_highestNow G (d + 1) [(.ref 200)] z v Q := by
  refine Ok_of (own := RX6) (by decide) rfl (Nat.le_of_ble_eq_true rfl) ?_
  show AW G (d + 1) 0 0 yX6_highestNow cX6_highestNow 1 (some .int) RX6 0 0 0 [some (.ref 200)] [] z v _
  refine AW_aload_n dX6_highestNow_0 rfl rfl ?_
  refine AW_getI dX6_highestNow_1 (bI_200 B) fl_X6_151 ?_
  refine AW_if_ne (tgt := 11) dX6_highestNow_4 (by decide) (fun c => ?_) (fun c => ?_)
  · replace H := H.1 c
    refine AW_aload_n dX6_highestNow_11 rfl rfl ?_
    refine AW_getR dX6_highestNow_12 (bI_200 B) fl_X6_28 (bR_200_10 B) ?_
    refine AW_aload_n dX6_highestNow_15 rfl rfl ?_
    refine AW_iconst (x := 0) dX6_highestNow_16 (by decide) ?_
    refine AW_aload_n dX6_highestNow_17 rfl rfl ?_
    refine AW_getI dX6_highestNow_18 (bI_200 B) fl_X6_151 ?_
    refine AW_iconst (x := 1) dX6_highestNow_21 (by decide) ?_
    refine AW_isub dX6_highestNow_22 ?_
    refine AW_vI (as := [(.int 0), (.int ((v.1 200 8) - 1))]) (st := [(.ref 210)]) dX6_highestNow_23 (bI_200 B) (by decide) rfl mv_X6_topOf mi_X6_topOf ml_X6_245 (Nat.le_of_ble_eq_true rfl) rfl (Nat.le_refl 0) (Nat.le_refl 0) H (fun r2 v1 H => ?_)
    have hi3 := H.1
    replace H := H.2
    refine AW_iald dX6_highestNow_26 (bI_210 B) hi3 ?_
    exact AW_rI dX6_highestNow_27 rfl rfl H
  · replace H := H.2 c
    refine AW_iconst (x := 0) dX6_highestNow_7 (by decide) ?_
    refine AW_goto (tgt := 27) dX6_highestNow_8 (by decide) ?_
    exact AW_rI dX6_highestNow_27 rfl rfl H
set_option maxRecDepth 100000 in
set_option maxHeartbeats 4000000 in
theorem vc_X6_rest {G : xG} {d : Nat} {z : xZ} {v : xS} {Q : Int32 → xS → Prop} (B : Base z) {xa : Int32} 
    (H : (oX6_isProgram G d [(.ref 200), (.int xa)] z v (fun r2 v1 => ((¬ r2 = 0 → (oX6_putAhead G d [(.ref 200)] z v1 (fun v3 => aX6_rest G (d + 1) 22 [some (.ref 200), some (.int xa), some (.int (-9)), some (.int 0), some (.int 0)] [] z v3 Q))) ∧ (r2 = 0 → Q (-1) v1))))) :
    oX6_rest G (d + 1) [(.ref 200), (.int xa)] z v Q := by
  refine Ok_of (own := RX6) (by decide) rfl (Nat.le_of_ble_eq_true rfl) ?_
  show AW G (d + 1) 0 0 yX6_rest cX6_rest 5 (some .int) RX6 0 0 0 [some (.ref 200), some (.int xa), none, none, none] [] z v _
  refine AW_aload_n dX6_rest_0 rfl rfl ?_
  refine AW_iload_n dX6_rest_1 rfl rfl ?_
  refine AW_vI (as := [(.int xa)]) (st := []) dX6_rest_2 (bI_200 B) (by decide) rfl mv_X6_isProgram mi_X6_isProgram ml_X6_224 (Nat.le_of_ble_eq_true rfl) rfl (Nat.le_refl 0) (Nat.le_refl 0) H (fun r2 v1 H => ?_)
  refine AW_if_ne (tgt := 10) dX6_rest_5 (by decide) (fun c => ?_) (fun c => ?_)
  · replace H := H.1 c
    refine AW_aload_n dX6_rest_10 rfl rfl ?_
    refine AW_vV (as := []) (st := []) dX6_rest_11 (bI_200 B) (by decide) rfl mv_X6_putAhead mi_X6_putAhead ml_X6_239 (Nat.le_of_ble_eq_true rfl) rfl (Nat.le_refl 0) (Nat.le_refl 0) H (fun v3 H => ?_)
    refine AW_bipush (x := (-9)) dX6_rest_14 (by decide) ?_
    refine AW_istore_n (L' := [some (.ref 200), some (.int xa), some (.int (-9)), none, none]) dX6_rest_16 rfl (by decide) rfl ?_
    refine AW_iconst (x := 0) dX6_rest_17 (by decide) ?_
    refine AW_istore_n (L' := [some (.ref 200), some (.int xa), some (.int (-9)), some (.int 0), none]) dX6_rest_18 rfl (by decide) rfl ?_
    refine AW_iconst (x := 0) dX6_rest_19 (by decide) ?_
    refine AW_istore (L' := [some (.ref 200), some (.int xa), some (.int (-9)), some (.int 0), some (.int 0)]) dX6_rest_20 (by decide) rfl ?_
    exact H
  · replace H := H.2 c
    refine AW_iconst (x := (-1)) dX6_rest_8 (by decide) ?_
    exact AW_rI dX6_rest_9 rfl rfl H
set_option maxRecDepth 100000 in
set_option maxHeartbeats 4000000 in
theorem vc_X6_rest_22 {G : xG} {d : Nat} {z : xZ} {v : xS} {Q : Int32 → xS → Prop} (B : Base z)  {l1 : Int32} {l2 : Int32} {l3 : Int32} {l4 : Int32} 
    (H : ((100 < l4 → (oX6_comeBack G d [(.ref 200)] z v (fun v1 => ((¬ l2 = (-9) → (oX6_ask G d [(.ref 200), (.int l3), (.int l2)] z v1 (fun r3 v2 => Q r3 v2))) ∧ (l2 = (-9) → Q (-9) v1))))) ∧ (¬ 100 < l4 → ((¬ l2 = (-9) → (oX6_comeBack G d [(.ref 200)] z v (fun v4 => ((¬ l2 = (-9) → (oX6_ask G d [(.ref 200), (.int l3), (.int l2)] z v4 (fun r6 v5 => Q r6 v5))) ∧ (l2 = (-9) → Q (-9) v4))))) ∧ (l2 = (-9) → (oX6_highestNow G d [(.ref 200)] z v (fun r8 v7 => (oX6_setWas G d [(.ref 200)] z v7 (fun v9 => (oX6_passEvening G d [(.ref 200), (.int l1)] z v9 (fun r11 v10 => (oX6_isWas G d [(.ref 200)] z v10 (fun r13 v12 => ((r13 = 0 → aX6_rest G (d + 1) 22 [some (.ref 200), some (.int l1), some (.int (-9)), some (.int r8), some (.int (l4 + 1))] [] z v12 Q) ∧ (¬ r13 = 0 → aX6_rest G (d + 1) 22 [some (.ref 200), some (.int l1), some (.int l4), some (.int r8), some (.int (l4 + 1))] [] z v12 Q))))))))))))))) :
    aX6_rest G (d + 1) 22 [some (.ref 200), some (.int l1), some (.int l2), some (.int l3), some (.int l4)] [] z v Q := by
  refine AW_iload dX6_rest_22 rfl ?_
  refine AW_bipush (x := 100) dX6_rest_24 (by decide) ?_
  refine AW_icmp_gt (tgt := 71) dX6_rest_26 (by decide) (fun c => ?_) (fun c => ?_)
  · replace H := H.1 c
    refine AW_aload_n dX6_rest_71 rfl rfl ?_
    refine AW_vV (as := []) (st := []) dX6_rest_72 (bI_200 B) (by decide) rfl mv_X6_comeBack mi_X6_comeBack ml_X6_242 (Nat.le_of_ble_eq_true rfl) rfl (Nat.le_refl 0) (Nat.le_refl 0) H (fun v1 H => ?_)
    refine AW_iload_n dX6_rest_75 rfl rfl ?_
    refine AW_bipush (x := (-9)) dX6_rest_76 (by decide) ?_
    refine AW_icmp_ne (tgt := 86) dX6_rest_78 (by decide) (fun c => ?_) (fun c => ?_)
    · replace H := H.1 c
      refine AW_aload_n dX6_rest_86 rfl rfl ?_
      refine AW_iload_n dX6_rest_87 rfl rfl ?_
      refine AW_iload_n dX6_rest_88 rfl rfl ?_
      refine AW_vI (as := [(.int l3), (.int l2)]) (st := []) dX6_rest_89 (bI_200 B) (by decide) rfl mv_X6_ask mi_X6_ask ml_X6_118 (Nat.le_of_ble_eq_true rfl) rfl (Nat.le_refl 0) (Nat.le_refl 0) H (fun r3 v2 H => ?_)
      exact AW_rI dX6_rest_92 rfl rfl H
    · replace H := H.2 c
      refine AW_bipush (x := (-9)) dX6_rest_81 (by decide) ?_
      refine AW_goto (tgt := 92) dX6_rest_83 (by decide) ?_
      exact AW_rI dX6_rest_92 rfl rfl H
  · replace H := H.2 c
    refine AW_iload_n dX6_rest_29 rfl rfl ?_
    refine AW_bipush (x := (-9)) dX6_rest_30 (by decide) ?_
    refine AW_icmp_ne (tgt := 71) dX6_rest_32 (by decide) (fun c => ?_) (fun c => ?_)
    · replace H := H.1 c
      refine AW_aload_n dX6_rest_71 rfl rfl ?_
      refine AW_vV (as := []) (st := []) dX6_rest_72 (bI_200 B) (by decide) rfl mv_X6_comeBack mi_X6_comeBack ml_X6_242 (Nat.le_of_ble_eq_true rfl) rfl (Nat.le_refl 0) (Nat.le_refl 0) H (fun v4 H => ?_)
      refine AW_iload_n dX6_rest_75 rfl rfl ?_
      refine AW_bipush (x := (-9)) dX6_rest_76 (by decide) ?_
      refine AW_icmp_ne (tgt := 86) dX6_rest_78 (by decide) (fun c => ?_) (fun c => ?_)
      · replace H := H.1 c
        refine AW_aload_n dX6_rest_86 rfl rfl ?_
        refine AW_iload_n dX6_rest_87 rfl rfl ?_
        refine AW_iload_n dX6_rest_88 rfl rfl ?_
        refine AW_vI (as := [(.int l3), (.int l2)]) (st := []) dX6_rest_89 (bI_200 B) (by decide) rfl mv_X6_ask mi_X6_ask ml_X6_118 (Nat.le_of_ble_eq_true rfl) rfl (Nat.le_refl 0) (Nat.le_refl 0) H (fun r6 v5 H => ?_)
        exact AW_rI dX6_rest_92 rfl rfl H
      · replace H := H.2 c
        refine AW_bipush (x := (-9)) dX6_rest_81 (by decide) ?_
        refine AW_goto (tgt := 92) dX6_rest_83 (by decide) ?_
        exact AW_rI dX6_rest_92 rfl rfl H
    · replace H := H.2 c
      refine AW_aload_n dX6_rest_35 rfl rfl ?_
      refine AW_vI (as := []) (st := []) dX6_rest_36 (bI_200 B) (by decide) rfl mv_X6_highestNow mi_X6_highestNow ml_X6_248 (Nat.le_of_ble_eq_true rfl) rfl (Nat.le_refl 0) (Nat.le_refl 0) H (fun r8 v7 H => ?_)
      refine AW_istore_n (L' := [some (.ref 200), some (.int l1), some (.int l2), some (.int r8), some (.int l4)]) dX6_rest_39 rfl (by decide) rfl ?_
      refine AW_aload_n dX6_rest_40 rfl rfl ?_
      refine AW_vV (as := []) (st := []) dX6_rest_41 (bI_200 B) (by decide) rfl mv_X6_setWas mi_X6_setWas ml_X6_251 (Nat.le_of_ble_eq_true rfl) rfl (Nat.le_refl 0) (Nat.le_refl 0) H (fun v9 H => ?_)
      refine AW_aload_n dX6_rest_44 rfl rfl ?_
      refine AW_iload_n dX6_rest_45 rfl rfl ?_
      refine AW_vI (as := [(.int l1)]) (st := []) dX6_rest_46 (bI_200 B) (by decide) rfl mv_X6_passEvening mi_X6_passEvening ml_X6_221 (Nat.le_of_ble_eq_true rfl) rfl (Nat.le_refl 0) (Nat.le_refl 0) H (fun r11 v10 H => ?_)
      refine AW_pop dX6_rest_49 rfl ?_
      refine AW_aload_n dX6_rest_50 rfl rfl ?_
      refine AW_vI (as := []) (st := []) dX6_rest_51 (bI_200 B) (by decide) rfl mv_X6_isWas mi_X6_isWas ml_X6_254 (Nat.le_of_ble_eq_true rfl) rfl (Nat.le_refl 0) (Nat.le_refl 0) H (fun r13 v12 H => ?_)
      refine AW_if_eq (tgt := 62) dX6_rest_54 (by decide) (fun c => ?_) (fun c => ?_)
      · replace H := H.1 c
        refine AW_bipush (x := (-9)) dX6_rest_62 (by decide) ?_
        refine AW_istore_n (L' := [some (.ref 200), some (.int l1), some (.int (-9)), some (.int r8), some (.int l4)]) dX6_rest_64 rfl (by decide) rfl ?_
        refine AW_iinc (x' := l4 + 1) (L' := [some (.ref 200), some (.int l1), some (.int (-9)), some (.int r8), some (.int (l4 + 1))]) dX6_rest_65 rfl rfl (by decide) rfl ?_
        refine AW_goto (tgt := 22) dX6_rest_68 (by decide) ?_
        exact H
      · replace H := H.2 c
        refine AW_iload dX6_rest_57 rfl ?_
        refine AW_goto (tgt := 64) dX6_rest_59 (by decide) ?_
        refine AW_istore_n (L' := [some (.ref 200), some (.int l1), some (.int l4), some (.int r8), some (.int l4)]) dX6_rest_64 rfl (by decide) rfl ?_
        refine AW_iinc (x' := l4 + 1) (L' := [some (.ref 200), some (.int l1), some (.int l4), some (.int r8), some (.int (l4 + 1))]) dX6_rest_65 rfl rfl (by decide) rfl ?_
        refine AW_goto (tgt := 22) dX6_rest_68 (by decide) ?_
        exact H
set_option maxRecDepth 100000 in
set_option maxHeartbeats 4000000 in
theorem vc_X6_round {G : xG} {d : Nat} {z : xZ} {v : xS} {Q : Int32 → xS → Prop} (B : Base z) {xa : Int32} 
    (H : (oX6_isProgram G d [(.ref 200), (.int xa)] z v (fun r2 v1 => ((¬ r2 = 0 → (oX6_putAhead G d [(.ref 200)] z v1 (fun v3 => (oX6_setWas G d [(.ref 200)] z v3 (fun v4 => aX6_round G (d + 1) 23 [some (.ref 200), some (.int xa), some (.int (-9)), some (.int 1)] [] z v4 Q))))) ∧ (r2 = 0 → Q (-1) v1))))) :
    oX6_round G (d + 1) [(.ref 200), (.int xa)] z v Q := by
  refine Ok_of (own := RX6) (by decide) rfl (Nat.le_of_ble_eq_true rfl) ?_
  show AW G (d + 1) 0 0 yX6_round cX6_round 4 (some .int) RX6 0 0 0 [some (.ref 200), some (.int xa), none, none] [] z v _
  refine AW_aload_n dX6_round_0 rfl rfl ?_
  refine AW_iload_n dX6_round_1 rfl rfl ?_
  refine AW_vI (as := [(.int xa)]) (st := []) dX6_round_2 (bI_200 B) (by decide) rfl mv_X6_isProgram mi_X6_isProgram ml_X6_224 (Nat.le_of_ble_eq_true rfl) rfl (Nat.le_refl 0) (Nat.le_refl 0) H (fun r2 v1 H => ?_)
  refine AW_if_ne (tgt := 10) dX6_round_5 (by decide) (fun c => ?_) (fun c => ?_)
  · replace H := H.1 c
    refine AW_aload_n dX6_round_10 rfl rfl ?_
    refine AW_vV (as := []) (st := []) dX6_round_11 (bI_200 B) (by decide) rfl mv_X6_putAhead mi_X6_putAhead ml_X6_239 (Nat.le_of_ble_eq_true rfl) rfl (Nat.le_refl 0) (Nat.le_refl 0) H (fun v3 H => ?_)
    refine AW_aload_n dX6_round_14 rfl rfl ?_
    refine AW_vV (as := []) (st := []) dX6_round_15 (bI_200 B) (by decide) rfl mv_X6_setWas mi_X6_setWas ml_X6_251 (Nat.le_of_ble_eq_true rfl) rfl (Nat.le_refl 0) (Nat.le_refl 0) H (fun v4 H => ?_)
    refine AW_bipush (x := (-9)) dX6_round_18 (by decide) ?_
    refine AW_istore_n (L' := [some (.ref 200), some (.int xa), some (.int (-9)), none]) dX6_round_20 rfl (by decide) rfl ?_
    refine AW_iconst (x := 1) dX6_round_21 (by decide) ?_
    refine AW_istore_n (L' := [some (.ref 200), some (.int xa), some (.int (-9)), some (.int 1)]) dX6_round_22 rfl (by decide) rfl ?_
    exact H
  · replace H := H.2 c
    refine AW_iconst (x := (-1)) dX6_round_8 (by decide) ?_
    exact AW_rI dX6_round_9 rfl rfl H
set_option maxRecDepth 100000 in
set_option maxHeartbeats 4000000 in
theorem vc_X6_round_23 {G : xG} {d : Nat} {z : xZ} {v : xS} {Q : Int32 → xS → Prop} (B : Base z)  {l1 : Int32} {l2 : Int32} {l3 : Int32} 
    (H : ((100 < l3 → (oX6_comeBack G d [(.ref 200)] z v (fun v1 => Q l2 v1))) ∧ (¬ 100 < l3 → ((¬ l2 = (-9) → (oX6_comeBack G d [(.ref 200)] z v (fun v2 => Q l2 v2))) ∧ (l2 = (-9) → (oX6_passEvening G d [(.ref 200), (.int l1)] z v (fun r4 v3 => (oX6_isWas G d [(.ref 200)] z v3 (fun r6 v5 => ((r6 = 0 → aX6_round G (d + 1) 23 [some (.ref 200), some (.int l1), some (.int (-9)), some (.int (l3 + 1))] [] z v5 Q) ∧ (¬ r6 = 0 → aX6_round G (d + 1) 23 [some (.ref 200), some (.int l1), some (.int l3), some (.int (l3 + 1))] [] z v5 Q))))))))))) :
    aX6_round G (d + 1) 23 [some (.ref 200), some (.int l1), some (.int l2), some (.int l3)] [] z v Q := by
  refine AW_iload_n dX6_round_23 rfl rfl ?_
  refine AW_bipush (x := 100) dX6_round_24 (by decide) ?_
  refine AW_icmp_gt (tgt := 61) dX6_round_26 (by decide) (fun c => ?_) (fun c => ?_)
  · replace H := H.1 c
    refine AW_aload_n dX6_round_61 rfl rfl ?_
    refine AW_vV (as := []) (st := []) dX6_round_62 (bI_200 B) (by decide) rfl mv_X6_comeBack mi_X6_comeBack ml_X6_242 (Nat.le_of_ble_eq_true rfl) rfl (Nat.le_refl 0) (Nat.le_refl 0) H (fun v1 H => ?_)
    refine AW_iload_n dX6_round_65 rfl rfl ?_
    exact AW_rI dX6_round_66 rfl rfl H
  · replace H := H.2 c
    refine AW_iload_n dX6_round_29 rfl rfl ?_
    refine AW_bipush (x := (-9)) dX6_round_30 (by decide) ?_
    refine AW_icmp_ne (tgt := 61) dX6_round_32 (by decide) (fun c => ?_) (fun c => ?_)
    · replace H := H.1 c
      refine AW_aload_n dX6_round_61 rfl rfl ?_
      refine AW_vV (as := []) (st := []) dX6_round_62 (bI_200 B) (by decide) rfl mv_X6_comeBack mi_X6_comeBack ml_X6_242 (Nat.le_of_ble_eq_true rfl) rfl (Nat.le_refl 0) (Nat.le_refl 0) H (fun v2 H => ?_)
      refine AW_iload_n dX6_round_65 rfl rfl ?_
      exact AW_rI dX6_round_66 rfl rfl H
    · replace H := H.2 c
      refine AW_aload_n dX6_round_35 rfl rfl ?_
      refine AW_iload_n dX6_round_36 rfl rfl ?_
      refine AW_vI (as := [(.int l1)]) (st := []) dX6_round_37 (bI_200 B) (by decide) rfl mv_X6_passEvening mi_X6_passEvening ml_X6_221 (Nat.le_of_ble_eq_true rfl) rfl (Nat.le_refl 0) (Nat.le_refl 0) H (fun r4 v3 H => ?_)
      refine AW_pop dX6_round_40 rfl ?_
      refine AW_aload_n dX6_round_41 rfl rfl ?_
      refine AW_vI (as := []) (st := []) dX6_round_42 (bI_200 B) (by decide) rfl mv_X6_isWas mi_X6_isWas ml_X6_254 (Nat.le_of_ble_eq_true rfl) rfl (Nat.le_refl 0) (Nat.le_refl 0) H (fun r6 v5 H => ?_)
      refine AW_if_eq (tgt := 52) dX6_round_45 (by decide) (fun c => ?_) (fun c => ?_)
      · replace H := H.1 c
        refine AW_bipush (x := (-9)) dX6_round_52 (by decide) ?_
        refine AW_istore_n (L' := [some (.ref 200), some (.int l1), some (.int (-9)), some (.int l3)]) dX6_round_54 rfl (by decide) rfl ?_
        refine AW_iinc (x' := l3 + 1) (L' := [some (.ref 200), some (.int l1), some (.int (-9)), some (.int (l3 + 1))]) dX6_round_55 rfl rfl (by decide) rfl ?_
        refine AW_goto (tgt := 23) dX6_round_58 (by decide) ?_
        exact H
      · replace H := H.2 c
        refine AW_iload_n dX6_round_48 rfl rfl ?_
        refine AW_goto (tgt := 54) dX6_round_49 (by decide) ?_
        refine AW_istore_n (L' := [some (.ref 200), some (.int l1), some (.int l3), some (.int l3)]) dX6_round_54 rfl (by decide) rfl ?_
        refine AW_iinc (x' := l3 + 1) (L' := [some (.ref 200), some (.int l1), some (.int l3), some (.int (l3 + 1))]) dX6_round_55 rfl rfl (by decide) rfl ?_
        refine AW_goto (tgt := 23) dX6_round_58 (by decide) ?_
        exact H
set_option maxRecDepth 100000 in
set_option maxHeartbeats 4000000 in
theorem vc_X6_bestOf {G : xG} {d : Nat} {z : xZ} {v : xS} {Q : Int32 → xS → Prop} (B : Base z) {xa : Int32} {xb : Int32} 
    (H : (oX6_putAhead G d [(.ref 200)] z v (fun v1 => aX6_bestOf G (d + 1) 13 [some (.ref 200), some (.int xa), some (.int xb), some (.int (-9)), some (.int 0), some (.int 0), none, none] [] z v1 Q))) :
    oX6_bestOf G (d + 1) [(.ref 200), (.int xa), (.int xb)] z v Q := by
  refine Ok_of (own := RX6) (by decide) rfl (Nat.le_of_ble_eq_true rfl) ?_
  show AW G (d + 1) 0 0 yX6_bestOf cX6_bestOf 8 (some .int) RX6 0 0 0 [some (.ref 200), some (.int xa), some (.int xb), none, none, none, none, none] [] z v _
  refine AW_aload_n dX6_bestOf_0 rfl rfl ?_
  refine AW_vV (as := []) (st := []) dX6_bestOf_1 (bI_200 B) (by decide) rfl mv_X6_putAhead mi_X6_putAhead ml_X6_239 (Nat.le_of_ble_eq_true rfl) rfl (Nat.le_refl 0) (Nat.le_refl 0) H (fun v1 H => ?_)
  refine AW_bipush (x := (-9)) dX6_bestOf_4 (by decide) ?_
  refine AW_istore_n (L' := [some (.ref 200), some (.int xa), some (.int xb), some (.int (-9)), none, none, none, none]) dX6_bestOf_6 rfl (by decide) rfl ?_
  refine AW_iconst (x := 0) dX6_bestOf_7 (by decide) ?_
  refine AW_istore (L' := [some (.ref 200), some (.int xa), some (.int xb), some (.int (-9)), some (.int 0), none, none, none]) dX6_bestOf_8 (by decide) rfl ?_
  refine AW_iconst (x := 0) dX6_bestOf_10 (by decide) ?_
  refine AW_istore (L' := [some (.ref 200), some (.int xa), some (.int xb), some (.int (-9)), some (.int 0), some (.int 0), none, none]) dX6_bestOf_11 (by decide) rfl ?_
  exact H
set_option maxRecDepth 100000 in
set_option maxHeartbeats 4000000 in
theorem vc_X6_bestOf_13 {G : xG} {d : Nat} {z : xZ} {v : xS} {Q : Int32 → xS → Prop} (B : Base z)  {l1 : Int32} {l2 : Int32} {l3 : Int32} {l4 : Int32} {l5 : Int32} 
    (H : (oX6_programs G d [(.ref 200)] z v (fun r2 v1 => ((r2 ≤ l5 → (oX6_ask G d [(.ref 200), (.int l4), (.int l3)] z v1 (fun r4 v3 => Q r4 v3))) ∧ (¬ r2 ≤ l5 → (oX6_passEvening G d [(.ref 200), (.int l5)] z v1 (fun r6 v5 => (vp_in l1 10 ∧ (oX6_comeBack G d [(.ref 200)] z v5 (fun v8 => ((l3 = (-9) → aX6_bestOf G (d + 1) 13 [some (.ref 200), some (.int l1), some (.int l2), some (.int l5), some (.int (v5.1 210 l1.toNatClampNeg)), some (.int (l5 + 1)), none, none] [] z v8 Q) ∧ (¬ l3 = (-9) → (((l2 * (v5.1 210 l1.toNatClampNeg)) ≤ (l2 * l4) → aX6_bestOf G (d + 1) 13 [some (.ref 200), some (.int l1), some (.int l2), some (.int l3), some (.int l4), some (.int (l5 + 1)), none, none] [] z v8 Q) ∧ (¬ (l2 * (v5.1 210 l1.toNatClampNeg)) ≤ (l2 * l4) → aX6_bestOf G (d + 1) 13 [some (.ref 200), some (.int l1), some (.int l2), some (.int l5), some (.int (v5.1 210 l1.toNatClampNeg)), some (.int (l5 + 1)), none, none] [] z v8 Q)))))))))))))) :
    aX6_bestOf G (d + 1) 13 [some (.ref 200), some (.int l1), some (.int l2), some (.int l3), some (.int l4), some (.int l5), none, none] [] z v Q := by
  refine AW_iload dX6_bestOf_13 rfl ?_
  refine AW_aload_n dX6_bestOf_15 rfl rfl ?_
  refine AW_vI (as := []) (st := [(.int l5)]) dX6_bestOf_16 (bI_200 B) (by decide) rfl mv_X6_programs mi_X6_programs ml_X6_217 (Nat.le_of_ble_eq_true rfl) rfl (Nat.le_refl 0) (Nat.le_refl 0) H (fun r2 v1 H => ?_)
  refine AW_icmp_ge (tgt := 97) dX6_bestOf_19 (by decide) (fun c => ?_) (fun c => ?_)
  · replace H := H.1 c
    refine AW_aload_n dX6_bestOf_97 rfl rfl ?_
    refine AW_iload dX6_bestOf_98 rfl ?_
    refine AW_iload_n dX6_bestOf_100 rfl rfl ?_
    refine AW_vI (as := [(.int l4), (.int l3)]) (st := []) dX6_bestOf_101 (bI_200 B) (by decide) rfl mv_X6_ask mi_X6_ask ml_X6_118 (Nat.le_of_ble_eq_true rfl) rfl (Nat.le_refl 0) (Nat.le_refl 0) H (fun r4 v3 H => ?_)
    exact AW_rI dX6_bestOf_104 rfl rfl H
  · replace H := H.2 c
    refine AW_aload_n dX6_bestOf_22 rfl rfl ?_
    refine AW_iload dX6_bestOf_23 rfl ?_
    refine AW_vI (as := [(.int l5)]) (st := []) dX6_bestOf_25 (bI_200 B) (by decide) rfl mv_X6_passEvening mi_X6_passEvening ml_X6_221 (Nat.le_of_ble_eq_true rfl) rfl (Nat.le_refl 0) (Nat.le_refl 0) H (fun r6 v5 H => ?_)
    refine AW_pop dX6_bestOf_28 rfl ?_
    refine AW_aload_n dX6_bestOf_29 rfl rfl ?_
    refine AW_getR dX6_bestOf_30 (bI_200 B) fl_X6_28 (bR_200_10 B) ?_
    refine AW_iload_n dX6_bestOf_33 rfl rfl ?_
    have hi7 := H.1
    replace H := H.2
    refine AW_iald dX6_bestOf_34 (bI_210 B) hi7 ?_
    refine AW_istore (L' := [some (.ref 200), some (.int l1), some (.int l2), some (.int l3), some (.int l4), some (.int l5), some (.int (v5.1 210 l1.toNatClampNeg)), none]) dX6_bestOf_35 (by decide) rfl ?_
    refine AW_aload_n dX6_bestOf_37 rfl rfl ?_
    refine AW_vV (as := []) (st := []) dX6_bestOf_38 (bI_200 B) (by decide) rfl mv_X6_comeBack mi_X6_comeBack ml_X6_242 (Nat.le_of_ble_eq_true rfl) rfl (Nat.le_refl 0) (Nat.le_refl 0) H (fun v8 H => ?_)
    refine AW_iload_n dX6_bestOf_41 rfl rfl ?_
    refine AW_bipush (x := (-9)) dX6_bestOf_42 (by decide) ?_
    refine AW_icmp_eq (tgt := 58) dX6_bestOf_44 (by decide) (fun c => ?_) (fun c => ?_)
    · replace H := H.1 c
      refine AW_iconst (x := 1) dX6_bestOf_58 (by decide) ?_
      refine AW_goto (tgt := 63) dX6_bestOf_59 (by decide) ?_
      refine AW_istore (L' := [some (.ref 200), some (.int l1), some (.int l2), some (.int l3), some (.int l4), some (.int l5), some (.int (v5.1 210 l1.toNatClampNeg)), some (.int 1)]) dX6_bestOf_63 (by decide) rfl ?_
      refine AW_iload dX6_bestOf_65 rfl ?_
      refine AW_if_eq (tgt := 75) dX6_bestOf_67 (by decide) (fun q => absurd q (by decide)) (fun _ => ?_)
      refine AW_iload dX6_bestOf_70 rfl ?_
      refine AW_goto (tgt := 76) dX6_bestOf_72 (by decide) ?_
      refine AW_istore_n (L' := [some (.ref 200), some (.int l1), some (.int l2), some (.int l5), some (.int l4), some (.int l5), some (.int (v5.1 210 l1.toNatClampNeg)), some (.int 1)]) dX6_bestOf_76 rfl (by decide) rfl ?_
      refine AW_iload dX6_bestOf_77 rfl ?_
      refine AW_if_eq (tgt := 87) dX6_bestOf_79 (by decide) (fun q => absurd q (by decide)) (fun _ => ?_)
      refine AW_iload dX6_bestOf_82 rfl ?_
      refine AW_goto (tgt := 89) dX6_bestOf_84 (by decide) ?_
      refine AW_istore (L' := [some (.ref 200), some (.int l1), some (.int l2), some (.int l5), some (.int (v5.1 210 l1.toNatClampNeg)), some (.int l5), some (.int (v5.1 210 l1.toNatClampNeg)), some (.int 1)]) dX6_bestOf_89 (by decide) rfl ?_
      refine AW_iinc (x' := l5 + 1) (L' := [some (.ref 200), some (.int l1), some (.int l2), some (.int l5), some (.int (v5.1 210 l1.toNatClampNeg)), some (.int (l5 + 1)), some (.int (v5.1 210 l1.toNatClampNeg)), some (.int 1)]) dX6_bestOf_91 rfl rfl (by decide) rfl ?_
      refine AW_goto (tgt := 13) dX6_bestOf_94 (by decide) ?_
      refine AW_sub (L' := [some (.ref 200), some (.int l1), some (.int l2), some (.int l5), some (.int (v5.1 210 l1.toNatClampNeg)), some (.int (l5 + 1)), none, none]) (show xle _ _ from ⟨rfl, ⟨rfl, ⟨rfl, ⟨rfl, ⟨rfl, ⟨rfl, trivial⟩⟩⟩⟩⟩⟩) ?_
      exact H
    · replace H := H.2 c
      refine AW_iload_n dX6_bestOf_47 rfl rfl ?_
      refine AW_iload dX6_bestOf_48 rfl ?_
      refine AW_imul dX6_bestOf_50 ?_
      refine AW_iload_n dX6_bestOf_51 rfl rfl ?_
      refine AW_iload dX6_bestOf_52 rfl ?_
      refine AW_imul dX6_bestOf_54 ?_
      refine AW_icmp_le (tgt := 62) dX6_bestOf_55 (by decide) (fun c => ?_) (fun c => ?_)
      · replace H := H.1 c
        refine AW_iconst (x := 0) dX6_bestOf_62 (by decide) ?_
        refine AW_istore (L' := [some (.ref 200), some (.int l1), some (.int l2), some (.int l3), some (.int l4), some (.int l5), some (.int (v5.1 210 l1.toNatClampNeg)), some (.int 0)]) dX6_bestOf_63 (by decide) rfl ?_
        refine AW_iload dX6_bestOf_65 rfl ?_
        refine AW_if_eq (tgt := 75) dX6_bestOf_67 (by decide) (fun _ => ?_) (fun q => absurd (by decide) q)
        refine AW_iload_n dX6_bestOf_75 rfl rfl ?_
        refine AW_istore_n (L' := [some (.ref 200), some (.int l1), some (.int l2), some (.int l3), some (.int l4), some (.int l5), some (.int (v5.1 210 l1.toNatClampNeg)), some (.int 0)]) dX6_bestOf_76 rfl (by decide) rfl ?_
        refine AW_iload dX6_bestOf_77 rfl ?_
        refine AW_if_eq (tgt := 87) dX6_bestOf_79 (by decide) (fun _ => ?_) (fun q => absurd (by decide) q)
        refine AW_iload dX6_bestOf_87 rfl ?_
        refine AW_istore (L' := [some (.ref 200), some (.int l1), some (.int l2), some (.int l3), some (.int l4), some (.int l5), some (.int (v5.1 210 l1.toNatClampNeg)), some (.int 0)]) dX6_bestOf_89 (by decide) rfl ?_
        refine AW_iinc (x' := l5 + 1) (L' := [some (.ref 200), some (.int l1), some (.int l2), some (.int l3), some (.int l4), some (.int (l5 + 1)), some (.int (v5.1 210 l1.toNatClampNeg)), some (.int 0)]) dX6_bestOf_91 rfl rfl (by decide) rfl ?_
        refine AW_goto (tgt := 13) dX6_bestOf_94 (by decide) ?_
        refine AW_sub (L' := [some (.ref 200), some (.int l1), some (.int l2), some (.int l3), some (.int l4), some (.int (l5 + 1)), none, none]) (show xle _ _ from ⟨rfl, ⟨rfl, ⟨rfl, ⟨rfl, ⟨rfl, ⟨rfl, trivial⟩⟩⟩⟩⟩⟩) ?_
        exact H
      · replace H := H.2 c
        refine AW_iconst (x := 1) dX6_bestOf_58 (by decide) ?_
        refine AW_goto (tgt := 63) dX6_bestOf_59 (by decide) ?_
        refine AW_istore (L' := [some (.ref 200), some (.int l1), some (.int l2), some (.int l3), some (.int l4), some (.int l5), some (.int (v5.1 210 l1.toNatClampNeg)), some (.int 1)]) dX6_bestOf_63 (by decide) rfl ?_
        refine AW_iload dX6_bestOf_65 rfl ?_
        refine AW_if_eq (tgt := 75) dX6_bestOf_67 (by decide) (fun q => absurd q (by decide)) (fun _ => ?_)
        refine AW_iload dX6_bestOf_70 rfl ?_
        refine AW_goto (tgt := 76) dX6_bestOf_72 (by decide) ?_
        refine AW_istore_n (L' := [some (.ref 200), some (.int l1), some (.int l2), some (.int l5), some (.int l4), some (.int l5), some (.int (v5.1 210 l1.toNatClampNeg)), some (.int 1)]) dX6_bestOf_76 rfl (by decide) rfl ?_
        refine AW_iload dX6_bestOf_77 rfl ?_
        refine AW_if_eq (tgt := 87) dX6_bestOf_79 (by decide) (fun q => absurd q (by decide)) (fun _ => ?_)
        refine AW_iload dX6_bestOf_82 rfl ?_
        refine AW_goto (tgt := 89) dX6_bestOf_84 (by decide) ?_
        refine AW_istore (L' := [some (.ref 200), some (.int l1), some (.int l2), some (.int l5), some (.int (v5.1 210 l1.toNatClampNeg)), some (.int l5), some (.int (v5.1 210 l1.toNatClampNeg)), some (.int 1)]) dX6_bestOf_89 (by decide) rfl ?_
        refine AW_iinc (x' := l5 + 1) (L' := [some (.ref 200), some (.int l1), some (.int l2), some (.int l5), some (.int (v5.1 210 l1.toNatClampNeg)), some (.int (l5 + 1)), some (.int (v5.1 210 l1.toNatClampNeg)), some (.int 1)]) dX6_bestOf_91 rfl rfl (by decide) rfl ?_
        refine AW_goto (tgt := 13) dX6_bestOf_94 (by decide) ?_
        refine AW_sub (L' := [some (.ref 200), some (.int l1), some (.int l2), some (.int l5), some (.int (v5.1 210 l1.toNatClampNeg)), some (.int (l5 + 1)), none, none]) (show xle _ _ from ⟨rfl, ⟨rfl, ⟨rfl, ⟨rfl, ⟨rfl, ⟨rfl, trivial⟩⟩⟩⟩⟩⟩) ?_
        exact H
set_option maxRecDepth 100000 in
set_option maxHeartbeats 4000000 in
theorem vc_X6_highest {G : xG} {d : Nat} {z : xZ} {v : xS} {Q : Int32 → xS → Prop} (B : Base z) {xa : Int32} 
    (H : (oX6_isSpot G d [(.ref 200), (.int xa)] z v (fun r2 v1 => ((r2 = 0 → Q (-1) v1) ∧ (¬ r2 = 0 → (oX6_bestOf G d [(.ref 200), (.int xa), (.int 1)] z v1 (fun r4 v3 => Q r4 v3))))))) :
    oX6_highest G (d + 1) [(.ref 200), (.int xa)] z v Q := by
  refine Ok_of (own := RX6) (by decide) rfl (Nat.le_of_ble_eq_true rfl) ?_
  show AW G (d + 1) 0 0 yX6_highest cX6_highest 2 (some .int) RX6 0 0 0 [some (.ref 200), some (.int xa)] [] z v _
  refine AW_aload_n dX6_highest_0 rfl rfl ?_
  refine AW_iload_n dX6_highest_1 rfl rfl ?_
  refine AW_vI (as := [(.int xa)]) (st := []) dX6_highest_2 (bI_200 B) (by decide) rfl mv_X6_isSpot mi_X6_isSpot ml_X6_163 (Nat.le_of_ble_eq_true rfl) rfl (Nat.le_refl 0) (Nat.le_refl 0) H (fun r2 v1 H => ?_)
  refine AW_if_eq (tgt := 17) dX6_highest_5 (by decide) (fun c => ?_) (fun c => ?_)
  · replace H := H.1 c
    refine AW_iconst (x := (-1)) dX6_highest_17 (by decide) ?_
    exact AW_rI dX6_highest_18 rfl rfl H
  · replace H := H.2 c
    refine AW_aload_n dX6_highest_8 rfl rfl ?_
    refine AW_iload_n dX6_highest_9 rfl rfl ?_
    refine AW_iconst (x := 1) dX6_highest_10 (by decide) ?_
    refine AW_vI (as := [(.int xa), (.int 1)]) (st := []) dX6_highest_11 (bI_200 B) (by decide) rfl mv_X6_bestOf mi_X6_bestOf ml_X6_258 (Nat.le_of_ble_eq_true rfl) rfl (Nat.le_refl 0) (Nat.le_refl 0) H (fun r4 v3 H => ?_)
    refine AW_goto (tgt := 18) dX6_highest_14 (by decide) ?_
    exact AW_rI dX6_highest_18 rfl rfl H
set_option maxRecDepth 100000 in
set_option maxHeartbeats 4000000 in
theorem vc_X6_lowest {G : xG} {d : Nat} {z : xZ} {v : xS} {Q : Int32 → xS → Prop} (B : Base z) {xa : Int32} 
    (H : (oX6_isSpot G d [(.ref 200), (.int xa)] z v (fun r2 v1 => ((r2 = 0 → Q (-1) v1) ∧ (¬ r2 = 0 → (oX6_bestOf G d [(.ref 200), (.int xa), (.int (-1))] z v1 (fun r4 v3 => Q r4 v3))))))) :
    oX6_lowest G (d + 1) [(.ref 200), (.int xa)] z v Q := by
  refine Ok_of (own := RX6) (by decide) rfl (Nat.le_of_ble_eq_true rfl) ?_
  show AW G (d + 1) 0 0 yX6_lowest cX6_lowest 2 (some .int) RX6 0 0 0 [some (.ref 200), some (.int xa)] [] z v _
  refine AW_aload_n dX6_lowest_0 rfl rfl ?_
  refine AW_iload_n dX6_lowest_1 rfl rfl ?_
  refine AW_vI (as := [(.int xa)]) (st := []) dX6_lowest_2 (bI_200 B) (by decide) rfl mv_X6_isSpot mi_X6_isSpot ml_X6_163 (Nat.le_of_ble_eq_true rfl) rfl (Nat.le_refl 0) (Nat.le_refl 0) H (fun r2 v1 H => ?_)
  refine AW_if_eq (tgt := 17) dX6_lowest_5 (by decide) (fun c => ?_) (fun c => ?_)
  · replace H := H.1 c
    refine AW_iconst (x := (-1)) dX6_lowest_17 (by decide) ?_
    exact AW_rI dX6_lowest_18 rfl rfl H
  · replace H := H.2 c
    refine AW_aload_n dX6_lowest_8 rfl rfl ?_
    refine AW_iload_n dX6_lowest_9 rfl rfl ?_
    refine AW_iconst (x := (-1)) dX6_lowest_10 (by decide) ?_
    refine AW_vI (as := [(.int xa), (.int (-1))]) (st := []) dX6_lowest_11 (bI_200 B) (by decide) rfl mv_X6_bestOf mi_X6_bestOf ml_X6_258 (Nat.le_of_ble_eq_true rfl) rfl (Nat.le_refl 0) (Nat.le_refl 0) H (fun r4 v3 H => ?_)
    refine AW_goto (tgt := 18) dX6_lowest_14 (by decide) ?_
    exact AW_rI dX6_lowest_18 rfl rfl H
set_option maxRecDepth 100000 in
set_option maxHeartbeats 4000000 in
theorem vc_X6_isGoal {G : xG} {d : Nat} {z : xZ} {v : xS} {Q : Int32 → xS → Prop} (B : Base z)  
    (H : ((0 ≤ (v.1 200 34) → aX6_isGoal G (d + 1) 33 [some (.ref 200), some (.int 1), some (.int 0)] [] z v Q) ∧ (¬ 0 ≤ (v.1 200 34) → (vp_in (v.1 200 35) 10 ∧ (((v.1 210 (v.1 200 35).toNatClampNeg) < (v.1 200 36) → Q 0 v) ∧ (¬ (v.1 210 (v.1 200 35).toNatClampNeg) < (v.1 200 36) → Q 1 v)))))) :
    oX6_isGoal G (d + 1) [(.ref 200)] z v Q := by
  refine Ok_of (own := RX6) (by decide) rfl (Nat.le_of_ble_eq_true rfl) ?_
  show AW G (d + 1) 0 0 yX6_isGoal cX6_isGoal 3 (some .boolean) RX6 0 0 0 [some (.ref 200), none, none] [] z v _
  refine AW_aload_n dX6_isGoal_0 rfl rfl ?_
  refine AW_getI dX6_isGoal_1 (bI_200 B) fl_X6_261 ?_
  refine AW_if_ge (tgt := 29) dX6_isGoal_4 (by decide) (fun c => ?_) (fun c => ?_)
  · replace H := H.1 c
    refine AW_iconst (x := 1) dX6_isGoal_29 (by decide) ?_
    refine AW_istore_n (L' := [some (.ref 200), some (.int 1), none]) dX6_isGoal_30 rfl (by decide) rfl ?_
    refine AW_iconst (x := 0) dX6_isGoal_31 (by decide) ?_
    refine AW_istore_n (L' := [some (.ref 200), some (.int 1), some (.int 0)]) dX6_isGoal_32 rfl (by decide) rfl ?_
    exact H
  · replace H := H.2 c
    refine AW_aload_n dX6_isGoal_7 rfl rfl ?_
    refine AW_getR dX6_isGoal_8 (bI_200 B) fl_X6_28 (bR_200_10 B) ?_
    refine AW_aload_n dX6_isGoal_11 rfl rfl ?_
    refine AW_getI dX6_isGoal_12 (bI_200 B) fl_X6_264 ?_
    have hi1 := H.1
    replace H := H.2
    refine AW_iald dX6_isGoal_15 (bI_210 B) hi1 ?_
    refine AW_aload_n dX6_isGoal_16 rfl rfl ?_
    refine AW_getI dX6_isGoal_17 (bI_200 B) fl_X6_267 ?_
    refine AW_icmp_lt (tgt := 27) dX6_isGoal_20 (by decide) (fun c => ?_) (fun c => ?_)
    · replace H := H.1 c
      refine AW_iconst (x := 0) dX6_isGoal_27 (by decide) ?_
      exact AW_rI dX6_isGoal_28 rfl (by decide) H
    · replace H := H.2 c
      refine AW_iconst (x := 1) dX6_isGoal_23 (by decide) ?_
      refine AW_goto (tgt := 28) dX6_isGoal_24 (by decide) ?_
      exact AW_rI dX6_isGoal_28 rfl (by decide) H
set_option maxRecDepth 100000 in
set_option maxHeartbeats 4000000 in
theorem vc_X6_isGoal_33 {G : xG} {d : Nat} {z : xZ} {v : xS} {Q : Int32 → xS → Prop} (B : Base z)  {l1 : Int32} {l2 : Int32} 
    (H : (((v.1 200 8) ≤ l2 → (xbl l1 ∧ Q l1 v)) ∧ (¬ (v.1 200 8) ≤ l2 → ((l1 = 0 → aX6_isGoal G (d + 1) 33 [some (.ref 200), some (.int 0), some (.int (l2 + 1))] [] z v Q) ∧ (¬ l1 = 0 → (oX6_has G d [(.int (v.1 200 34)), (.int l2)] z v (fun r2 v1 => ((r2 = 0 → aX6_isGoal G (d + 1) 33 [some (.ref 200), some (.int 1), some (.int (l2 + 1))] [] z v1 Q) ∧ (¬ r2 = 0 → (vp_in l2 10 ∧ ((¬ (v1.1 210 l2.toNatClampNeg) = 0 → aX6_isGoal G (d + 1) 33 [some (.ref 200), some (.int 0), some (.int (l2 + 1))] [] z v1 Q) ∧ ((v1.1 210 l2.toNatClampNeg) = 0 → aX6_isGoal G (d + 1) 33 [some (.ref 200), some (.int 1), some (.int (l2 + 1))] [] z v1 Q)))))))))))) :
    aX6_isGoal G (d + 1) 33 [some (.ref 200), some (.int l1), some (.int l2)] [] z v Q := by
  refine AW_iload_n dX6_isGoal_33 rfl rfl ?_
  refine AW_aload_n dX6_isGoal_34 rfl rfl ?_
  refine AW_getI dX6_isGoal_35 (bI_200 B) fl_X6_151 ?_
  refine AW_icmp_ge (tgt := 77) dX6_isGoal_38 (by decide) (fun c => ?_) (fun c => ?_)
  · replace H := H.1 c
    refine AW_iload_n dX6_isGoal_77 rfl rfl ?_
    exact AW_rI dX6_isGoal_78 rfl H.1 H.2
  · replace H := H.2 c
    refine AW_iload_n dX6_isGoal_41 rfl rfl ?_
    refine AW_if_eq (tgt := 69) dX6_isGoal_42 (by decide) (fun c => ?_) (fun c => ?_)
    · replace H := H.1 c
      refine AW_iconst (x := 0) dX6_isGoal_69 (by decide) ?_
      refine AW_istore_n (L' := [some (.ref 200), some (.int 0), some (.int l2)]) dX6_isGoal_70 rfl (by decide) rfl ?_
      refine AW_iinc (x' := l2 + 1) (L' := [some (.ref 200), some (.int 0), some (.int (l2 + 1))]) dX6_isGoal_71 rfl rfl (by decide) rfl ?_
      refine AW_goto (tgt := 33) dX6_isGoal_74 (by decide) ?_
      exact H
    · replace H := H.2 c
      refine AW_aload_n dX6_isGoal_45 rfl rfl ?_
      refine AW_getI dX6_isGoal_46 (bI_200 B) fl_X6_261 ?_
      refine AW_iload_n dX6_isGoal_49 rfl rfl ?_
      refine AW_sI (as := [(.int (v.1 200 34)), (.int l2)]) (st := []) dX6_isGoal_50 mv_X6_has ms_X6_has ml_X6_185 (Nat.le_of_ble_eq_true rfl) rfl (Nat.le_refl 0) (Nat.le_refl 0) H (fun r2 v1 H => ?_)
      refine AW_if_eq (tgt := 65) dX6_isGoal_53 (by decide) (fun c => ?_) (fun c => ?_)
      · replace H := H.1 c
        refine AW_iconst (x := 1) dX6_isGoal_65 (by decide) ?_
        refine AW_goto (tgt := 70) dX6_isGoal_66 (by decide) ?_
        refine AW_istore_n (L' := [some (.ref 200), some (.int 1), some (.int l2)]) dX6_isGoal_70 rfl (by decide) rfl ?_
        refine AW_iinc (x' := l2 + 1) (L' := [some (.ref 200), some (.int 1), some (.int (l2 + 1))]) dX6_isGoal_71 rfl rfl (by decide) rfl ?_
        refine AW_goto (tgt := 33) dX6_isGoal_74 (by decide) ?_
        exact H
      · replace H := H.2 c
        refine AW_aload_n dX6_isGoal_56 rfl rfl ?_
        refine AW_getR dX6_isGoal_57 (bI_200 B) fl_X6_28 (bR_200_10 B) ?_
        refine AW_iload_n dX6_isGoal_60 rfl rfl ?_
        have hi3 := H.1
        replace H := H.2
        refine AW_iald dX6_isGoal_61 (bI_210 B) hi3 ?_
        refine AW_if_ne (tgt := 69) dX6_isGoal_62 (by decide) (fun c => ?_) (fun c => ?_)
        · replace H := H.1 c
          refine AW_iconst (x := 0) dX6_isGoal_69 (by decide) ?_
          refine AW_istore_n (L' := [some (.ref 200), some (.int 0), some (.int l2)]) dX6_isGoal_70 rfl (by decide) rfl ?_
          refine AW_iinc (x' := l2 + 1) (L' := [some (.ref 200), some (.int 0), some (.int (l2 + 1))]) dX6_isGoal_71 rfl rfl (by decide) rfl ?_
          refine AW_goto (tgt := 33) dX6_isGoal_74 (by decide) ?_
          exact H
        · replace H := H.2 c
          refine AW_iconst (x := 1) dX6_isGoal_65 (by decide) ?_
          refine AW_goto (tgt := 70) dX6_isGoal_66 (by decide) ?_
          refine AW_istore_n (L' := [some (.ref 200), some (.int 1), some (.int l2)]) dX6_isGoal_70 rfl (by decide) rfl ?_
          refine AW_iinc (x' := l2 + 1) (L' := [some (.ref 200), some (.int 1), some (.int (l2 + 1))]) dX6_isGoal_71 rfl rfl (by decide) rfl ?_
          refine AW_goto (tgt := 33) dX6_isGoal_74 (by decide) ?_
          exact H
set_option maxRecDepth 100000 in
set_option maxHeartbeats 4000000 in
theorem vc_X6_playOn {G : xG} {d : Nat} {z : xZ} {v : xS} {Q : xS → Prop} (B : Base z) {xa : Int32} {xb : Int32} {xc : Int32} 
    (H : ((¬ xa = xb → (oX6_write G d [(.ref 200), (.ref 230), (.int (14 * xa))] z v (fun v1 => aX6_playOn G (d + 1) 70 [some (.ref 200), some (.int xa), some (.int xb), some (.int xc), some (.int 0)] [] z v1 Q))) ∧ (xa = xb → (oX6_isGoal G d [(.ref 200)] z v (fun r3 v2 => ((r3 = 0 → Q v2) ∧ (¬ r3 = 0 → (((v2.1 200 33) ≤ xc → Q v2) ∧ (¬ (v2.1 200 33) ≤ xc → (∀ v4 : xS, v4 = wV v2 200 33 xc → aX6_playOn G (d + 1) 28 [some (.ref 200), some (.int xa), some (.int xb), some (.int xc), some (.int 0)] [] z v4 Q)))))))))) :
    oX6_playOn G (d + 1) [(.ref 200), (.int xa), (.int xb), (.int xc)] z v Q := by
  refine Ok_of (own := RX6) (by decide) rfl (Nat.le_of_ble_eq_true rfl) ?_
  show AW G (d + 1) 0 0 yX6_playOn cX6_playOn 5 none RX6 0 0 0 [some (.ref 200), some (.int xa), some (.int xb), some (.int xc), none] [] z v _
  refine AW_iload_n dX6_playOn_0 rfl rfl ?_
  refine AW_iload_n dX6_playOn_1 rfl rfl ?_
  refine AW_icmp_ne (tgt := 55) dX6_playOn_2 (by decide) (fun c => ?_) (fun c => ?_)
  · replace H := H.1 c
    refine AW_aload_n dX6_playOn_55 rfl rfl ?_
    refine AW_aload_n dX6_playOn_56 rfl rfl ?_
    refine AW_getR dX6_playOn_57 (bI_200 B) fl_X6_73 (bR_200_30 B) ?_
    refine AW_bipush (x := 14) dX6_playOn_60 (by decide) ?_
    refine AW_iload_n dX6_playOn_62 rfl rfl ?_
    refine AW_imul dX6_playOn_63 ?_
    refine AW_vV (as := [(.ref 230), (.int (14 * xa))]) (st := []) dX6_playOn_64 (bI_200 B) (by decide) rfl mv_X6_write mi_X6_write ml_X6_204 (Nat.le_of_ble_eq_true rfl) rfl (Nat.le_refl 0) (Nat.le_refl 0) H (fun v1 H => ?_)
    refine AW_iconst (x := 0) dX6_playOn_67 (by decide) ?_
    refine AW_istore (L' := [some (.ref 200), some (.int xa), some (.int xb), some (.int xc), some (.int 0)]) dX6_playOn_68 (by decide) rfl ?_
    exact H
  · replace H := H.2 c
    refine AW_aload_n dX6_playOn_5 rfl rfl ?_
    refine AW_vI (as := []) (st := []) dX6_playOn_6 (bI_200 B) (by decide) rfl mv_X6_isGoal mi_X6_isGoal ml_X6_270 (Nat.le_of_ble_eq_true rfl) rfl (Nat.le_refl 0) (Nat.le_refl 0) H (fun r3 v2 H => ?_)
    refine AW_if_eq (tgt := 54) dX6_playOn_9 (by decide) (fun c => ?_) (fun c => ?_)
    · replace H := H.1 c
      exact AW_rV dX6_playOn_54 rfl H
    · replace H := H.2 c
      refine AW_iload_n dX6_playOn_12 rfl rfl ?_
      refine AW_aload_n dX6_playOn_13 rfl rfl ?_
      refine AW_getI dX6_playOn_14 (bI_200 B) fl_X6_273 ?_
      refine AW_icmp_ge (tgt := 54) dX6_playOn_17 (by decide) (fun c => ?_) (fun c => ?_)
      · replace H := H.1 c
        exact AW_rV dX6_playOn_54 rfl H
      · replace H := H.2 c
        refine AW_aload_n dX6_playOn_20 rfl rfl ?_
        refine AW_iload_n dX6_playOn_21 rfl rfl ?_
        refine AW_putIN dX6_playOn_22 (bI_200 B) fl_X6_273 rfl rfl rfl (fun v4 hv4 => ?_)
        replace H := H v4 hv4
        refine AW_iconst (x := 0) dX6_playOn_25 (by decide) ?_
        refine AW_istore (L' := [some (.ref 200), some (.int xa), some (.int xb), some (.int xc), some (.int 0)]) dX6_playOn_26 (by decide) rfl ?_
        exact H
