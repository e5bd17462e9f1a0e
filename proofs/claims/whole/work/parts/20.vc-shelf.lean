set_option maxRecDepth 100000 in
set_option maxHeartbeats 4000000 in
theorem vc_X4_names {G : xG} {d : Nat} {z : xZ} {v : xS} {Q : Int32 → xS → Prop} (B : Base z) {s p m : Nat} {xa : Int32} (hs : xShelf z s p m)
    (H : ((xa < 0 → Q 0 v) ∧ (¬ xa < 0 → (((Int32.ofNat p) ≤ xa → Q 0 v) ∧ (¬ (Int32.ofNat p) ≤ xa → Q 1 v))))) :
    oX4_names G (d + 1) [(.ref s), (.int xa)] z v Q := by
  refine Ok_of (own := RX4) (by decide) rfl (Nat.le_of_ble_eq_true rfl) ?_
  show AW G (d + 1) 0 0 yX4_names cX4_names 2 (some .boolean) RX4 0 0 0 [some (.ref s), some (.int xa)] [] z v _
  refine AW_iload_n dX4_names_0 rfl rfl ?_
  refine AW_if_lt (tgt := 17) dX4_names_1 (by decide) (fun c => ?_) (fun c => ?_)
  · replace H := H.1 c
    refine AW_iconst (x := 0) dX4_names_17 (by decide) ?_
    exact AW_rI dX4_names_18 rfl (by decide) H
  · replace H := H.2 c
    refine AW_iload_n dX4_names_4 rfl rfl ?_
    refine AW_aload_n dX4_names_5 rfl rfl ?_
    refine AW_getR dX4_names_6 hs.1 fl_X4_20 hs.2.2.1 ?_
    refine AW_alen dX4_names_9 hs.2.2.2.2.1 rfl ?_
    refine AW_icmp_ge (tgt := 17) dX4_names_10 (by decide) (fun c => ?_) (fun c => ?_)
    · replace H := H.1 c
      refine AW_iconst (x := 0) dX4_names_17 (by decide) ?_
      exact AW_rI dX4_names_18 rfl (by decide) H
    · replace H := H.2 c
      refine AW_iconst (x := 1) dX4_names_13 (by decide) ?_
      refine AW_goto (tgt := 18) dX4_names_14 (by decide) ?_
      exact AW_rI dX4_names_18 rfl (by decide) H
set_option maxRecDepth 100000 in
set_option maxHeartbeats 4000000 in
theorem vc_X4_holds {G : xG} {d : Nat} {z : xZ} {v : xS} {Q : Int32 → xS → Prop} (B : Base z) {s p m : Nat} {xa : Int32} (hs : xShelf z s p m)
    (H : (oX4_sizeOf G d [(.ref s), (.int xa)] z v (fun r2 v1 => ((r2 < 0 → Q 0 v1) ∧ (¬ r2 < 0 → Q 1 v1))))) :
    oX4_holds G (d + 1) [(.ref s), (.int xa)] z v Q := by
  refine Ok_of (own := RX4) (by decide) rfl (Nat.le_of_ble_eq_true rfl) ?_
  show AW G (d + 1) 0 0 yX4_holds cX4_holds 2 (some .boolean) RX4 0 0 0 [some (.ref s), some (.int xa)] [] z v _
  refine AW_aload_n dX4_holds_0 rfl rfl ?_
  refine AW_iload_n dX4_holds_1 rfl rfl ?_
  refine AW_vI (as := [(.int xa)]) (st := []) dX4_holds_2 hs.1 (by decide) rfl mv_X4_sizeOf mi_X4_sizeOf ml_X4_24 (Nat.le_of_ble_eq_true rfl) rfl (Nat.le_refl 0) (Nat.le_refl 0) H (fun r2 v1 H => ?_)
  refine AW_if_lt (tgt := 12) dX4_holds_5 (by decide) (fun c => ?_) (fun c => ?_)
  · replace H := H.1 c
    refine AW_iconst (x := 0) dX4_holds_12 (by decide) ?_
    exact AW_rI dX4_holds_13 rfl (by decide) H
  · replace H := H.2 c
    refine AW_iconst (x := 1) dX4_holds_8 (by decide) ?_
    refine AW_goto (tgt := 13) dX4_holds_9 (by decide) ?_
    exact AW_rI dX4_holds_13 rfl (by decide) H
set_option maxRecDepth 100000 in
set_option maxHeartbeats 4000000 in
theorem vc_X4_sizeOf {G : xG} {d : Nat} {z : xZ} {v : xS} {Q : Int32 → xS → Prop} (B : Base z) {s p m : Nat} {xa : Int32} (hs : xShelf z s p m)
    (H : ((xa < 0 → Q (-1) v) ∧ (¬ xa < 0 → (((Int32.ofNat p) ≤ xa → Q (-1) v) ∧ (¬ (Int32.ofNat p) ≤ xa → (vp_in xa p ∧ Q (v.1 (s + 2) xa.toNatClampNeg) v)))))) :
    oX4_sizeOf G (d + 1) [(.ref s), (.int xa)] z v Q := by
  refine Ok_of (own := RX4) (by decide) rfl (Nat.le_of_ble_eq_true rfl) ?_
  show AW G (d + 1) 0 0 yX4_sizeOf cX4_sizeOf 2 (some .int) RX4 0 0 0 [some (.ref s), some (.int xa)] [] z v _
  refine AW_iload_n dX4_sizeOf_0 rfl rfl ?_
  refine AW_if_lt (tgt := 22) dX4_sizeOf_1 (by decide) (fun c => ?_) (fun c => ?_)
  · replace H := H.1 c
    refine AW_iconst (x := (-1)) dX4_sizeOf_22 (by decide) ?_
    exact AW_rI dX4_sizeOf_23 rfl rfl H
  · replace H := H.2 c
    refine AW_iload_n dX4_sizeOf_4 rfl rfl ?_
    refine AW_aload_n dX4_sizeOf_5 rfl rfl ?_
    refine AW_getR dX4_sizeOf_6 hs.1 fl_X4_20 hs.2.2.1 ?_
    refine AW_alen dX4_sizeOf_9 hs.2.2.2.2.1 rfl ?_
    refine AW_icmp_ge (tgt := 22) dX4_sizeOf_10 (by decide) (fun c => ?_) (fun c => ?_)
    · replace H := H.1 c
      refine AW_iconst (x := (-1)) dX4_sizeOf_22 (by decide) ?_
      exact AW_rI dX4_sizeOf_23 rfl rfl H
    · replace H := H.2 c
      refine AW_aload_n dX4_sizeOf_13 rfl rfl ?_
      refine AW_getR dX4_sizeOf_14 hs.1 fl_X4_20 hs.2.2.1 ?_
      refine AW_iload_n dX4_sizeOf_17 rfl rfl ?_
      have hi1 := H.1
      replace H := H.2
      refine AW_iald dX4_sizeOf_18 hs.2.2.2.2.1 hi1 ?_
      refine AW_goto (tgt := 23) dX4_sizeOf_19 (by decide) ?_
      exact AW_rI dX4_sizeOf_23 rfl rfl H
set_option maxRecDepth 100000 in
set_option maxHeartbeats 4000000 in
theorem vc_X4_reaches {G : xG} {d : Nat} {z : xZ} {v : xS} {Q : Int32 → xS → Prop} (B : Base z) {s p m : Nat} {xa : Int32} {xb : Int32} (hs : xShelf z s p m)
    (H : ((xb < 0 → Q 0 v) ∧ (¬ xb < 0 → (oX4_sizeOf G d [(.ref s), (.int xa)] z v (fun r2 v1 => ((r2 ≤ xb → Q 0 v1) ∧ (¬ r2 ≤ xb → Q 1 v1))))))) :
    oX4_reaches G (d + 1) [(.ref s), (.int xa), (.int xb)] z v Q := by
  refine Ok_of (own := RX4) (by decide) rfl (Nat.le_of_ble_eq_true rfl) ?_
  show AW G (d + 1) 0 0 yX4_reaches cX4_reaches 3 (some .boolean) RX4 0 0 0 [some (.ref s), some (.int xa), some (.int xb)] [] z v _
  refine AW_iload_n dX4_reaches_0 rfl rfl ?_
  refine AW_if_lt (tgt := 17) dX4_reaches_1 (by decide) (fun c => ?_) (fun c => ?_)
  · replace H := H.1 c
    refine AW_iconst (x := 0) dX4_reaches_17 (by decide) ?_
    exact AW_rI dX4_reaches_18 rfl (by decide) H
  · replace H := H.2 c
    refine AW_iload_n dX4_reaches_4 rfl rfl ?_
    refine AW_aload_n dX4_reaches_5 rfl rfl ?_
    refine AW_iload_n dX4_reaches_6 rfl rfl ?_
    refine AW_vI (as := [(.int xa)]) (st := [(.int xb)]) dX4_reaches_7 hs.1 (by decide) rfl mv_X4_sizeOf mi_X4_sizeOf ml_X4_24 (Nat.le_of_ble_eq_true rfl) rfl (Nat.le_refl 0) (Nat.le_refl 0) H (fun r2 v1 H => ?_)
    refine AW_icmp_ge (tgt := 17) dX4_reaches_10 (by decide) (fun c => ?_) (fun c => ?_)
    · replace H := H.1 c
      refine AW_iconst (x := 0) dX4_reaches_17 (by decide) ?_
      exact AW_rI dX4_reaches_18 rfl (by decide) H
    · replace H := H.2 c
      refine AW_iconst (x := 1) dX4_reaches_13 (by decide) ?_
      refine AW_goto (tgt := 18) dX4_reaches_14 (by decide) ?_
      exact AW_rI dX4_reaches_18 rfl (by decide) H
set_option maxRecDepth 100000 in
set_option maxHeartbeats 4000000 in
theorem vc_X4_spans {G : xG} {d : Nat} {z : xZ} {v : xS} {Q : Int32 → xS → Prop} (B : Base z) {s p m : Nat} {xa : Int32} {xb : Int32} {xc : Int32} (hs : xShelf z s p m)
    (H : (oX4_sizeOf G d [(.ref s), (.int xa)] z v (fun r2 v1 => ((xb < 0 → Q 0 v1) ∧ (¬ xb < 0 → ((xc < 0 → Q 0 v1) ∧ (¬ xc < 0 → ((r2 < xc → Q 0 v1) ∧ (¬ r2 < xc → (((r2 - xc) < xb → Q 0 v1) ∧ (¬ (r2 - xc) < xb → Q 1 v1))))))))))) :
    oX4_spans G (d + 1) [(.ref s), (.int xa), (.int xb), (.int xc)] z v Q := by
  refine Ok_of (own := RX4) (by decide) rfl (Nat.le_of_ble_eq_true rfl) ?_
  show AW G (d + 1) 0 0 yX4_spans cX4_spans 5 (some .boolean) RX4 0 0 0 [some (.ref s), some (.int xa), some (.int xb), some (.int xc), none] [] z v _
  refine AW_aload_n dX4_spans_0 rfl rfl ?_
  refine AW_iload_n dX4_spans_1 rfl rfl ?_
  refine AW_vI (as := [(.int xa)]) (st := []) dX4_spans_2 hs.1 (by decide) rfl mv_X4_sizeOf mi_X4_sizeOf ml_X4_24 (Nat.le_of_ble_eq_true rfl) rfl (Nat.le_refl 0) (Nat.le_refl 0) H (fun r2 v1 H => ?_)
  refine AW_istore (L' := [some (.ref s), some (.int xa), some (.int xb), some (.int xc), some (.int r2)]) dX4_spans_5 (by decide) rfl ?_
  refine AW_iload_n dX4_spans_7 rfl rfl ?_
  refine AW_if_lt (tgt := 33) dX4_spans_8 (by decide) (fun c => ?_) (fun c => ?_)
  · replace H := H.1 c
    refine AW_iconst (x := 0) dX4_spans_33 (by decide) ?_
    exact AW_rI dX4_spans_34 rfl (by decide) H
  · replace H := H.2 c
    refine AW_iload_n dX4_spans_11 rfl rfl ?_
    refine AW_if_lt (tgt := 33) dX4_spans_12 (by decide) (fun c => ?_) (fun c => ?_)
    · replace H := H.1 c
      refine AW_iconst (x := 0) dX4_spans_33 (by decide) ?_
      exact AW_rI dX4_spans_34 rfl (by decide) H
    · replace H := H.2 c
      refine AW_iload_n dX4_spans_15 rfl rfl ?_
      refine AW_iload dX4_spans_16 rfl ?_
      refine AW_icmp_gt (tgt := 33) dX4_spans_18 (by decide) (fun c => ?_) (fun c => ?_)
      · replace H := H.1 c
        refine AW_iconst (x := 0) dX4_spans_33 (by decide) ?_
        exact AW_rI dX4_spans_34 rfl (by decide) H
      · replace H := H.2 c
        refine AW_iload_n dX4_spans_21 rfl rfl ?_
        refine AW_iload dX4_spans_22 rfl ?_
        refine AW_iload_n dX4_spans_24 rfl rfl ?_
        refine AW_isub dX4_spans_25 ?_
        refine AW_icmp_gt (tgt := 33) dX4_spans_26 (by decide) (fun c => ?_) (fun c => ?_)
        · replace H := H.1 c
          refine AW_iconst (x := 0) dX4_spans_33 (by decide) ?_
          exact AW_rI dX4_spans_34 rfl (by decide) H
        · replace H := H.2 c
          refine AW_iconst (x := 1) dX4_spans_29 (by decide) ?_
          refine AW_goto (tgt := 34) dX4_spans_30 (by decide) ?_
          exact AW_rI dX4_spans_34 rfl (by decide) H
set_option maxRecDepth 100000 in
set_option maxHeartbeats 4000000 in
theorem vc_X4_get {G : xG} {d : Nat} {z : xZ} {v : xS} {Q : Int32 → xS → Prop} (B : Base z) {s p m : Nat} {xa : Int32} {xb : Int32} (hs : xShelf z s p m)
    (H : (oX4_reaches G d [(.ref s), (.int xa), (.int xb)] z v (fun r2 v1 => ((r2 = 0 → Q 0 v1) ∧ (¬ r2 = 0 → (vp_in xa p ∧ (vp_in xb m ∧ Q (v1.1 (s + 3 + xa.toNatClampNeg) xb.toNatClampNeg) v1))))))) :
    oX4_get G (d + 1) [(.ref s), (.int xa), (.int xb)] z v Q := by
  refine Ok_of (own := RX4) (by decide) rfl (Nat.le_of_ble_eq_true rfl) ?_
  show AW G (d + 1) 0 0 yX4_get cX4_get 3 (some .int) RX4 0 0 0 [some (.ref s), some (.int xa), some (.int xb)] [] z v _
  refine AW_aload_n dX4_get_0 rfl rfl ?_
  refine AW_iload_n dX4_get_1 rfl rfl ?_
  refine AW_iload_n dX4_get_2 rfl rfl ?_
  refine AW_vI (as := [(.int xa), (.int xb)]) (st := []) dX4_get_3 hs.1 (by decide) rfl mv_X4_reaches mi_X4_reaches ml_X4_28 (Nat.le_of_ble_eq_true rfl) rfl (Nat.le_refl 0) (Nat.le_refl 0) H (fun r2 v1 H => ?_)
  refine AW_if_eq (tgt := 20) dX4_get_6 (by decide) (fun c => ?_) (fun c => ?_)
  · replace H := H.1 c
    refine AW_iconst (x := 0) dX4_get_20 (by decide) ?_
    exact AW_rI dX4_get_21 rfl rfl H
  · replace H := H.2 c
    refine AW_aload_n dX4_get_9 rfl rfl ?_
    refine AW_getR dX4_get_10 hs.1 fl_X4_17 hs.2.1 ?_
    refine AW_iload_n dX4_get_13 rfl rfl ?_
    have hi3 := H.1
    replace H := H.2
    refine AW_aald dX4_get_14 hs.2.2.2.1 (Or.inr rfl) hi3 (w := .ref (s + 3 + xa.toNatClampNeg)) (by rw [(hs.2.2.2.2.2 _ (vp_lt hi3)).1]; rfl) ?_
    refine AW_iload_n dX4_get_15 rfl rfl ?_
    have hi4 := H.1
    replace H := H.2
    refine AW_iald dX4_get_16 (hs.2.2.2.2.2 _ (vp_lt hi3)).2 hi4 ?_
    refine AW_goto (tgt := 21) dX4_get_17 (by decide) ?_
    exact AW_rI dX4_get_21 rfl rfl H
set_option maxRecDepth 100000 in
set_option maxHeartbeats 4000000 in
theorem vc_X4_set {G : xG} {d : Nat} {z : xZ} {v : xS} {Q : xS → Prop} (B : Base z) {s p m : Nat} {xa : Int32} {xb : Int32} {xc : Int32} (hs : xShelf z s p m)
    (H : (oX4_reaches G d [(.ref s), (.int xa), (.int xb)] z v (fun r2 v1 => ((r2 = 0 → Q v1) ∧ (¬ r2 = 0 → (vp_in xa p ∧ (vp_in xb m ∧ (∀ v5 : xS, v5 = wV v1 (s + 3 + xa.toNatClampNeg) xb.toNatClampNeg xc → Q v5)))))))) :
    oX4_set G (d + 1) [(.ref s), (.int xa), (.int xb), (.int xc)] z v Q := by
  refine Ok_of (own := RX4) (by decide) rfl (Nat.le_of_ble_eq_true rfl) ?_
  show AW G (d + 1) 0 0 yX4_set cX4_set 4 none RX4 0 0 0 [some (.ref s), some (.int xa), some (.int xb), some (.int xc)] [] z v _
  refine AW_aload_n dX4_set_0 rfl rfl ?_
  refine AW_iload_n dX4_set_1 rfl rfl ?_
  refine AW_iload_n dX4_set_2 rfl rfl ?_
  refine AW_vI (as := [(.int xa), (.int xb)]) (st := []) dX4_set_3 hs.1 (by decide) rfl mv_X4_reaches mi_X4_reaches ml_X4_28 (Nat.le_of_ble_eq_true rfl) rfl (Nat.le_refl 0) (Nat.le_refl 0) H (fun r2 v1 H => ?_)
  refine AW_if_eq (tgt := 18) dX4_set_6 (by decide) (fun c => ?_) (fun c => ?_)
  · replace H := H.1 c
    exact AW_rV dX4_set_18 rfl H
  · replace H := H.2 c
    refine AW_aload_n dX4_set_9 rfl rfl ?_
    refine AW_getR dX4_set_10 hs.1 fl_X4_17 hs.2.1 ?_
    refine AW_iload_n dX4_set_13 rfl rfl ?_
    have hi3 := H.1
    replace H := H.2
    refine AW_aald dX4_set_14 hs.2.2.2.1 (Or.inr rfl) hi3 (w := .ref (s + 3 + xa.toNatClampNeg)) (by rw [(hs.2.2.2.2.2 _ (vp_lt hi3)).1]; rfl) ?_
    refine AW_iload_n dX4_set_15 rfl rfl ?_
    refine AW_iload_n dX4_set_16 rfl rfl ?_
    have hi4 := H.1
    replace H := H.2
    refine AW_iastN dX4_set_17 (hs.2.2.2.2.2 _ (vp_lt hi3)).2 hi4 (fun v5 hv5 => ?_)
    replace H := H v5 hv5
    exact AW_rV dX4_set_18 rfl H
set_option maxRecDepth 100000 in
set_option maxHeartbeats 4000000 in
theorem vc_X4_open {G : xG} {d : Nat} {z : xZ} {v : xS} {Q : xS → Prop} (B : Base z) {s p m : Nat} {xa : Int32} {xb : Int32} {xc : Int32} (hs : xShelf z s p m)
    (H : (oX4_names G d [(.ref s), (.int xa)] z v (fun r2 v1 => ((r2 = 0 → Q v1) ∧ (¬ r2 = 0 → ((xb < 0 → Q v1) ∧ (¬ xb < 0 → ((xb ≤ (v1.1 s 0) → (vp_in xa p ∧ (∀ v4 : xS, v4 = wV v1 (s + 2) xa.toNatClampNeg xb → aX4_open G (d + 1) 31 [some (.ref s), some (.int xa), some (.int xb), some (.int xc), some (.int 0)] [] z v4 Q))) ∧ (¬ xb ≤ (v1.1 s 0) → Q v1))))))))) :
    oX4_open G (d + 1) [(.ref s), (.int xa), (.int xb), (.int xc)] z v Q := by
  refine Ok_of (own := RX4) (by decide) rfl (Nat.le_of_ble_eq_true rfl) ?_
  show AW G (d + 1) 0 0 yX4_open cX4_open 5 none RX4 0 0 0 [some (.ref s), some (.int xa), some (.int xb), some (.int xc), none] [] z v _
  refine AW_aload_n dX4_open_0 rfl rfl ?_
  refine AW_iload_n dX4_open_1 rfl rfl ?_
  refine AW_vI (as := [(.int xa)]) (st := []) dX4_open_2 hs.1 (by decide) rfl mv_X4_names mi_X4_names ml_X4_32 (Nat.le_of_ble_eq_true rfl) rfl (Nat.le_refl 0) (Nat.le_refl 0) H (fun r2 v1 H => ?_)
  refine AW_if_eq (tgt := 20) dX4_open_5 (by decide) (fun c => ?_) (fun c => ?_)
  · replace H := H.1 c
    exact AW_rV dX4_open_20 rfl H
  · replace H := H.2 c
    refine AW_iload_n dX4_open_8 rfl rfl ?_
    refine AW_if_lt (tgt := 20) dX4_open_9 (by decide) (fun c => ?_) (fun c => ?_)
    · replace H := H.1 c
      exact AW_rV dX4_open_20 rfl H
    · replace H := H.2 c
      refine AW_iload_n dX4_open_12 rfl rfl ?_
      refine AW_aload_n dX4_open_13 rfl rfl ?_
      refine AW_getI dX4_open_14 hs.1 fl_X4_9 ?_
      refine AW_icmp_le (tgt := 21) dX4_open_17 (by decide) (fun c => ?_) (fun c => ?_)
      · replace H := H.1 c
        refine AW_aload_n dX4_open_21 rfl rfl ?_
        refine AW_getR dX4_open_22 hs.1 fl_X4_20 hs.2.2.1 ?_
        refine AW_iload_n dX4_open_25 rfl rfl ?_
        refine AW_iload_n dX4_open_26 rfl rfl ?_
        have hi3 := H.1
        replace H := H.2
        refine AW_iastN dX4_open_27 hs.2.2.2.2.1 hi3 (fun v4 hv4 => ?_)
        replace H := H v4 hv4
        refine AW_iconst (x := 0) dX4_open_28 (by decide) ?_
        refine AW_istore (L' := [some (.ref s), some (.int xa), some (.int xb), some (.int xc), some (.int 0)]) dX4_open_29 (by decide) rfl ?_
        exact H
      · replace H := H.2 c
        exact AW_rV dX4_open_20 rfl H
set_option maxRecDepth 100000 in
set_option maxHeartbeats 4000000 in
theorem vc_X4_open_31 {G : xG} {d : Nat} {z : xZ} {v : xS} {Q : xS → Prop} (B : Base z) {s p m : Nat} {l1 : Int32} {l2 : Int32} {l3 : Int32} {l4 : Int32} (hs : xShelf z s p m)
    (H : ((l2 ≤ l4 → Q v) ∧ (¬ l2 ≤ l4 → (vp_in l1 p ∧ (vp_in l4 m ∧ (∀ v3 : xS, v3 = wV v (s + 3 + l1.toNatClampNeg) l4.toNatClampNeg l3 → aX4_open G (d + 1) 31 [some (.ref s), some (.int l1), some (.int l2), some (.int l3), some (.int (l4 + 1))] [] z v3 Q)))))) :
    aX4_open G (d + 1) 31 [some (.ref s), some (.int l1), some (.int l2), some (.int l3), some (.int l4)] [] z v Q := by
  refine AW_iload dX4_open_31 rfl ?_
  refine AW_iload_n dX4_open_33 rfl rfl ?_
  refine AW_icmp_ge (tgt := 53) dX4_open_34 (by decide) (fun c => ?_) (fun c => ?_)
  · replace H := H.1 c
    exact AW_rV dX4_open_53 rfl H
  · replace H := H.2 c
    refine AW_aload_n dX4_open_37 rfl rfl ?_
    refine AW_getR dX4_open_38 hs.1 fl_X4_17 hs.2.1 ?_
    refine AW_iload_n dX4_open_41 rfl rfl ?_
    have hi1 := H.1
    replace H := H.2
    refine AW_aald dX4_open_42 hs.2.2.2.1 (Or.inr rfl) hi1 (w := .ref (s + 3 + l1.toNatClampNeg)) (by rw [(hs.2.2.2.2.2 _ (vp_lt hi1)).1]; rfl) ?_
    refine AW_iload dX4_open_43 rfl ?_
    refine AW_iload_n dX4_open_45 rfl rfl ?_
    have hi2 := H.1
    replace H := H.2
    refine AW_iastN dX4_open_46 (hs.2.2.2.2.2 _ (vp_lt hi1)).2 hi2 (fun v3 hv3 => ?_)
    replace H := H v3 hv3
    refine AW_iinc (x' := l4 + 1) (L' := [some (.ref s), some (.int l1), some (.int l2), some (.int l3), some (.int (l4 + 1))]) dX4_open_47 rfl rfl (by decide) rfl ?_
    refine AW_goto (tgt := 31) dX4_open_50 (by decide) ?_
    exact H
set_option maxRecDepth 100000 in
set_option maxHeartbeats 4000000 in
theorem vc_X4_close {G : xG} {d : Nat} {z : xZ} {v : xS} {Q : xS → Prop} (B : Base z) {s p m : Nat} {xa : Int32} (hs : xShelf z s p m)
    (H : (oX4_names G d [(.ref s), (.int xa)] z v (fun r2 v1 => ((r2 = 0 → Q v1) ∧ (¬ r2 = 0 → (vp_in xa p ∧ (∀ v4 : xS, v4 = wV v1 (s + 2) xa.toNatClampNeg (-1) → Q v4))))))) :
    oX4_close G (d + 1) [(.ref s), (.int xa)] z v Q := by
  refine Ok_of (own := RX4) (by decide) rfl (Nat.le_of_ble_eq_true rfl) ?_
  show AW G (d + 1) 0 0 yX4_close cX4_close 2 none RX4 0 0 0 [some (.ref s), some (.int xa)] [] z v _
  refine AW_aload_n dX4_close_0 rfl rfl ?_
  refine AW_iload_n dX4_close_1 rfl rfl ?_
  refine AW_vI (as := [(.int xa)]) (st := []) dX4_close_2 hs.1 (by decide) rfl mv_X4_names mi_X4_names ml_X4_32 (Nat.le_of_ble_eq_true rfl) rfl (Nat.le_refl 0) (Nat.le_refl 0) H (fun r2 v1 H => ?_)
  refine AW_if_eq (tgt := 15) dX4_close_5 (by decide) (fun c => ?_) (fun c => ?_)
  · replace H := H.1 c
    exact AW_rV dX4_close_15 rfl H
  · replace H := H.2 c
    refine AW_aload_n dX4_close_8 rfl rfl ?_
    refine AW_getR dX4_close_9 hs.1 fl_X4_20 hs.2.2.1 ?_
    refine AW_iload_n dX4_close_12 rfl rfl ?_
    refine AW_iconst (x := (-1)) dX4_close_13 (by decide) ?_
    have hi3 := H.1
    replace H := H.2
    refine AW_iastN dX4_close_14 hs.2.2.2.2.1 hi3 (fun v4 hv4 => ?_)
    replace H := H v4 hv4
    exact AW_rV dX4_close_15 rfl H
set_option maxRecDepth 100000 in
set_option maxHeartbeats 4000000 in
theorem vc_X4_transfer {G : xG} {d : Nat} {z : xZ} {v : xS} {Q : xS → Prop} (B : Base z) {s p m : Nat} {xa : Int32} {xb : Int32} {xc : Int32} {xd : Int32} {xe : Int32} (hs : xShelf z s p m)
    (H : (oX4_spans G d [(.ref s), (.int xa), (.int xb), (.int xe)] z v (fun r2 v1 => ((r2 = 0 → Q v1) ∧ (¬ r2 = 0 → (oX4_spans G d [(.ref s), (.int xc), (.int xd), (.int xe)] z v1 (fun r4 v3 => ((r4 = 0 → Q v3) ∧ (¬ r4 = 0 → (vp_in xa p ∧ (vp_in xc p ∧ (¬ xb < 0 ∧ (¬ xd < 0 ∧ (¬ xe < 0 ∧ (xb.toNatClampNeg + xe.toNatClampNeg ≤ m ∧ (xd.toNatClampNeg + xe.toNatClampNeg ≤ m ∧ (∀ v12 : xS, v12 = wA v3 (s + 3 + xc.toNatClampNeg) (va_cpy (v3.1 (s + 3 + xa.toNatClampNeg)) (v3.1 (s + 3 + xc.toNatClampNeg)) xb.toNatClampNeg xd.toNatClampNeg xe.toNatClampNeg) → Q v12))))))))))))))))) :
    oX4_transfer G (d + 1) [(.ref s), (.int xa), (.int xb), (.int xc), (.int xd), (.int xe)] z v Q := by
  refine Ok_of (own := RX4) (by decide) rfl (Nat.le_of_ble_eq_true rfl) ?_
  show AW G (d + 1) 0 0 yX4_transfer cX4_transfer 6 none RX4 0 0 0 [some (.ref s), some (.int xa), some (.int xb), some (.int xc), some (.int xd), some (.int xe)] [] z v _
  refine AW_aload_n dX4_transfer_0 rfl rfl ?_
  refine AW_iload_n dX4_transfer_1 rfl rfl ?_
  refine AW_iload_n dX4_transfer_2 rfl rfl ?_
  refine AW_iload dX4_transfer_3 rfl ?_
  refine AW_vI (as := [(.int xa), (.int xb), (.int xe)]) (st := []) dX4_transfer_5 hs.1 (by decide) rfl mv_X4_spans mi_X4_spans ml_X4_36 (Nat.le_of_ble_eq_true rfl) rfl (Nat.le_refl 0) (Nat.le_refl 0) H (fun r2 v1 H => ?_)
  refine AW_if_eq (tgt := 43) dX4_transfer_8 (by decide) (fun c => ?_) (fun c => ?_)
  · replace H := H.1 c
    exact AW_rV dX4_transfer_43 rfl H
  · replace H := H.2 c
    refine AW_aload_n dX4_transfer_11 rfl rfl ?_
    refine AW_iload_n dX4_transfer_12 rfl rfl ?_
    refine AW_iload dX4_transfer_13 rfl ?_
    refine AW_iload dX4_transfer_15 rfl ?_
    refine AW_vI (as := [(.int xc), (.int xd), (.int xe)]) (st := []) dX4_transfer_17 hs.1 (by decide) rfl mv_X4_spans mi_X4_spans ml_X4_36 (Nat.le_of_ble_eq_true rfl) rfl (Nat.le_refl 0) (Nat.le_refl 0) H (fun r4 v3 H => ?_)
    refine AW_if_eq (tgt := 43) dX4_transfer_20 (by decide) (fun c => ?_) (fun c => ?_)
    · replace H := H.1 c
      exact AW_rV dX4_transfer_43 rfl H
    · replace H := H.2 c
      refine AW_aload_n dX4_transfer_23 rfl rfl ?_
      refine AW_getR dX4_transfer_24 hs.1 fl_X4_17 hs.2.1 ?_
      refine AW_iload_n dX4_transfer_27 rfl rfl ?_
      have hi5 := H.1
      replace H := H.2
      refine AW_aald dX4_transfer_28 hs.2.2.2.1 (Or.inr rfl) hi5 (w := .ref (s + 3 + xa.toNatClampNeg)) (by rw [(hs.2.2.2.2.2 _ (vp_lt hi5)).1]; rfl) ?_
      refine AW_iload_n dX4_transfer_29 rfl rfl ?_
      refine AW_aload_n dX4_transfer_30 rfl rfl ?_
      refine AW_getR dX4_transfer_31 hs.1 fl_X4_17 hs.2.1 ?_
      refine AW_iload_n dX4_transfer_34 rfl rfl ?_
      have hi6 := H.1
      replace H := H.2
      refine AW_aald dX4_transfer_35 hs.2.2.2.1 (Or.inr rfl) hi6 (w := .ref (s + 3 + xc.toNatClampNeg)) (by rw [(hs.2.2.2.2.2 _ (vp_lt hi6)).1]; rfl) ?_
      refine AW_iload dX4_transfer_36 rfl ?_
      refine AW_iload dX4_transfer_38 rfl ?_
      have hc7 := H.1
      replace H := H.2
      have hc8 := H.1
      replace H := H.2
      have hc9 := H.1
      replace H := H.2
      have hc10 := H.1
      replace H := H.2
      have hc11 := H.1
      replace H := H.2
      refine AW_copyN dX4_transfer_40 ml_X4_40 (hs.2.2.2.2.2 _ (vp_lt hi5)).2 (hs.2.2.2.2.2 _ (vp_lt hi6)).2 hc7 hc8 hc9 hc10 hc11 (Nat.succ_pos _) (Nat.le_of_ble_eq_true rfl) (fun v12 hv12 => ?_)
      replace H := H v12 hv12
      exact AW_rV dX4_transfer_43 rfl H
set_option maxRecDepth 100000 in
set_option maxHeartbeats 4000000 in
theorem vc_X4_sumOf {G : xG} {d : Nat} {z : xZ} {v : xS} {Q : Int64 → xS → Prop} (B : Base z) {s p m : Nat} {xa : Int32} (hs : xShelf z s p m)
    (H : (oX4_sizeOf G d [(.ref s), (.int xa)] z v (fun r2 v1 => aX4_sumOf G (d + 1) 12 [some (.ref s), some (.int xa), some (.long 0), none, some (.int r2), some (.int 0)] [] z v1 Q))) :
    oX4_sumOf G (d + 1) [(.ref s), (.int xa)] z v Q := by
  refine Ok_of (own := RX4) (by decide) rfl (Nat.le_of_ble_eq_true rfl) ?_
  show AW G (d + 1) 0 0 yX4_sumOf cX4_sumOf 6 (some .long) RX4 0 0 0 [some (.ref s), some (.int xa), none, none, none, none] [] z v _
  refine AW_lconst (x := 0) dX4_sumOf_0 (by decide) ?_
  refine AW_lstore_n (L' := [some (.ref s), some (.int xa), some (.long 0), none, none, none]) dX4_sumOf_1 rfl (by decide) rfl ?_
  refine AW_aload_n dX4_sumOf_2 rfl rfl ?_
  refine AW_iload_n dX4_sumOf_3 rfl rfl ?_
  refine AW_vI (as := [(.int xa)]) (st := []) dX4_sumOf_4 hs.1 (by decide) rfl mv_X4_sizeOf mi_X4_sizeOf ml_X4_24 (Nat.le_of_ble_eq_true rfl) rfl (Nat.le_refl 0) (Nat.le_refl 0) H (fun r2 v1 H => ?_)
  refine AW_istore (L' := [some (.ref s), some (.int xa), some (.long 0), none, some (.int r2), none]) dX4_sumOf_7 (by decide) rfl ?_
  refine AW_iconst (x := 0) dX4_sumOf_9 (by decide) ?_
  refine AW_istore (L' := [some (.ref s), some (.int xa), some (.long 0), none, some (.int r2), some (.int 0)]) dX4_sumOf_10 (by decide) rfl ?_
  exact H
set_option maxRecDepth 100000 in
set_option maxHeartbeats 4000000 in
theorem vc_X4_sumOf_12 {G : xG} {d : Nat} {z : xZ} {v : xS} {Q : Int64 → xS → Prop} (B : Base z) {s p m : Nat} {l1 : Int32} {l2 : Int64} {l4 : Int32} {l5 : Int32} (hs : xShelf z s p m)
    (H : ((l4 ≤ l5 → Q l2 v) ∧ (¬ l4 ≤ l5 → (vp_in l1 p ∧ (vp_in l5 m ∧ aX4_sumOf G (d + 1) 12 [some (.ref s), some (.int l1), some (.long (l2 + ((v.1 (s + 3 + l1.toNatClampNeg) l5.toNatClampNeg).toInt64))), none, some (.int l4), some (.int (l5 + 1))] [] z v Q))))) :
    aX4_sumOf G (d + 1) 12 [some (.ref s), some (.int l1), some (.long l2), none, some (.int l4), some (.int l5)] [] z v Q := by
  refine AW_iload dX4_sumOf_12 rfl ?_
  refine AW_iload dX4_sumOf_14 rfl ?_
  refine AW_icmp_ge (tgt := 38) dX4_sumOf_16 (by decide) (fun c => ?_) (fun c => ?_)
  · replace H := H.1 c
    refine AW_lload_n dX4_sumOf_38 rfl rfl ?_
    exact AW_rL dX4_sumOf_39 rfl H
  · replace H := H.2 c
    refine AW_lload_n dX4_sumOf_19 rfl rfl ?_
    refine AW_aload_n dX4_sumOf_20 rfl rfl ?_
    refine AW_getR dX4_sumOf_21 hs.1 fl_X4_17 hs.2.1 ?_
    refine AW_iload_n dX4_sumOf_24 rfl rfl ?_
    have hi1 := H.1
    replace H := H.2
    refine AW_aald dX4_sumOf_25 hs.2.2.2.1 (Or.inr rfl) hi1 (w := .ref (s + 3 + l1.toNatClampNeg)) (by rw [(hs.2.2.2.2.2 _ (vp_lt hi1)).1]; rfl) ?_
    refine AW_iload dX4_sumOf_26 rfl ?_
    have hi2 := H.1
    replace H := H.2
    refine AW_iald dX4_sumOf_28 (hs.2.2.2.2.2 _ (vp_lt hi1)).2 hi2 ?_
    refine AW_i2l dX4_sumOf_29 ?_
    refine AW_ladd dX4_sumOf_30 ?_
    refine AW_lstore_n (L' := [some (.ref s), some (.int l1), some (.long (l2 + ((v.1 (s + 3 + l1.toNatClampNeg) l5.toNatClampNeg).toInt64))), none, some (.int l4), some (.int l5)]) dX4_sumOf_31 rfl (by decide) rfl ?_
    refine AW_iinc (x' := l5 + 1) (L' := [some (.ref s), some (.int l1), some (.long (l2 + ((v.1 (s + 3 + l1.toNatClampNeg) l5.toNatClampNeg).toInt64))), none, some (.int l4), some (.int (l5 + 1))]) dX4_sumOf_32 rfl rfl (by decide) rfl ?_
    refine AW_goto (tgt := 12) dX4_sumOf_35 (by decide) ?_
    exact H
set_option maxRecDepth 100000 in
set_option maxHeartbeats 4000000 in
theorem vc_X4_held {G : xG} {d : Nat} {z : xZ} {v : xS} {Q : Int32 → xS → Prop} (B : Base z) {s p m : Nat} (hs : xShelf z s p m)
    (H : aX4_held G (d + 1) 4 [some (.ref s), some (.int 0), some (.int 0)] [] z v Q) :
    oX4_held G (d + 1) [(.ref s)] z v Q := by
  refine Ok_of (own := RX4) (by decide) rfl (Nat.le_of_ble_eq_true rfl) ?_
  show AW G (d + 1) 0 0 yX4_held cX4_held 3 (some .int) RX4 0 0 0 [some (.ref s), none, none] [] z v _
  refine AW_iconst (x := 0) dX4_held_0 (by decide) ?_
  refine AW_istore_n (L' := [some (.ref s), some (.int 0), none]) dX4_held_1 rfl (by decide) rfl ?_
  refine AW_iconst (x := 0) dX4_held_2 (by decide) ?_
  refine AW_istore_n (L' := [some (.ref s), some (.int 0), some (.int 0)]) dX4_held_3 rfl (by decide) rfl ?_
  exact H
set_option maxRecDepth 100000 in
set_option maxHeartbeats 4000000 in
theorem vc_X4_held_4 {G : xG} {d : Nat} {z : xZ} {v : xS} {Q : Int32 → xS → Prop} (B : Base z) {s p m : Nat} {l1 : Int32} {l2 : Int32} (hs : xShelf z s p m)
    (H : (((Int32.ofNat p) ≤ l2 → Q l1 v) ∧ (¬ (Int32.ofNat p) ≤ l2 → (vp_in l2 p ∧ (((v.1 (s + 2) l2.toNatClampNeg) < 0 → aX4_held G (d + 1) 4 [some (.ref s), some (.int l1), some (.int (l2 + 1))] [] z v Q) ∧ (¬ (v.1 (s + 2) l2.toNatClampNeg) < 0 → aX4_held G (d + 1) 4 [some (.ref s), some (.int (l1 + 1)), some (.int (l2 + 1))] [] z v Q)))))) :
    aX4_held G (d + 1) 4 [some (.ref s), some (.int l1), some (.int l2)] [] z v Q := by
  refine AW_iload_n dX4_held_4 rfl rfl ?_
  refine AW_aload_n dX4_held_5 rfl rfl ?_
  refine AW_getR dX4_held_6 hs.1 fl_X4_20 hs.2.2.1 ?_
  refine AW_alen dX4_held_9 hs.2.2.2.2.1 rfl ?_
  refine AW_icmp_ge (tgt := 31) dX4_held_10 (by decide) (fun c => ?_) (fun c => ?_)
  · replace H := H.1 c
    refine AW_iload_n dX4_held_31 rfl rfl ?_
    exact AW_rI dX4_held_32 rfl rfl H
  · replace H := H.2 c
    refine AW_aload_n dX4_held_13 rfl rfl ?_
    refine AW_getR dX4_held_14 hs.1 fl_X4_20 hs.2.2.1 ?_
    refine AW_iload_n dX4_held_17 rfl rfl ?_
    have hi1 := H.1
    replace H := H.2
    refine AW_iald dX4_held_18 hs.2.2.2.2.1 hi1 ?_
    refine AW_if_lt (tgt := 25) dX4_held_19 (by decide) (fun c => ?_) (fun c => ?_)
    · replace H := H.1 c
      refine AW_iinc (x' := l2 + 1) (L' := [some (.ref s), some (.int l1), some (.int (l2 + 1))]) dX4_held_25 rfl rfl (by decide) rfl ?_
      refine AW_goto (tgt := 4) dX4_held_28 (by decide) ?_
      exact H
    · replace H := H.2 c
      refine AW_iinc (x' := l1 + 1) (L' := [some (.ref s), some (.int (l1 + 1)), some (.int l2)]) dX4_held_22 rfl rfl (by decide) rfl ?_
      refine AW_iinc (x' := l2 + 1) (L' := [some (.ref s), some (.int (l1 + 1)), some (.int (l2 + 1))]) dX4_held_25 rfl rfl (by decide) rfl ?_
      refine AW_goto (tgt := 4) dX4_held_28 (by decide) ?_
      exact H
set_option maxRecDepth 100000 in
set_option maxHeartbeats 4000000 in
theorem vc_X4_mixedInto {G : xG} {d : Nat} {z : xZ} {v : xS} {Q : Int64 → xS → Prop} (B : Base z) {s p m : Nat} {xa : Int64} (hs : xShelf z s p m)
    (H : aX4_mixedInto G (d + 1) 5 [some (.ref s), some (.long xa), none, some (.long xa), none, some (.int 0), none] [] z v Q) :
    oX4_mixedInto G (d + 1) [(.ref s), (.long xa)] z v Q := by
  refine Ok_of (own := RX4) (by decide) rfl (Nat.le_of_ble_eq_true rfl) ?_
  show AW G (d + 1) 0 0 yX4_mixedInto cX4_mixedInto 7 (some .long) RX4 0 0 0 [some (.ref s), some (.long xa), none, none, none, none, none] [] z v _
  refine AW_lload_n dX4_mixedInto_0 rfl rfl ?_
  refine AW_lstore_n (L' := [some (.ref s), some (.long xa), none, some (.long xa), none, none, none]) dX4_mixedInto_1 rfl (by decide) rfl ?_
  refine AW_iconst (x := 0) dX4_mixedInto_2 (by decide) ?_
  refine AW_istore (L' := [some (.ref s), some (.long xa), none, some (.long xa), none, some (.int 0), none]) dX4_mixedInto_3 (by decide) rfl ?_
  exact H
set_option maxRecDepth 100000 in
set_option maxHeartbeats 4000000 in
theorem vc_X4_mixedInto_5 {G : xG} {d : Nat} {z : xZ} {v : xS} {Q : Int64 → xS → Prop} (B : Base z) {s p m : Nat} {l1 : Int64} {l3 : Int64} {l5 : Int32} (hs : xShelf z s p m)
    (H : (((Int32.ofNat p) ≤ l5 → Q l3 v) ∧ (¬ (Int32.ofNat p) ≤ l5 → (vp_in l5 p ∧ aX4_mixedInto G (d + 1) 33 [some (.ref s), some (.long l1), none, some (.long ((31 * l3) + ((v.1 (s + 2) l5.toNatClampNeg).toInt64))), none, some (.int l5), some (.int 0)] [] z v Q)))) :
    aX4_mixedInto G (d + 1) 5 [some (.ref s), some (.long l1), none, some (.long l3), none, some (.int l5), none] [] z v Q := by
  refine AW_iload dX4_mixedInto_5 rfl ?_
  refine AW_aload_n dX4_mixedInto_7 rfl rfl ?_
  refine AW_getR dX4_mixedInto_8 hs.1 fl_X4_20 hs.2.2.1 ?_
  refine AW_alen dX4_mixedInto_11 hs.2.2.2.2.1 rfl ?_
  refine AW_icmp_ge (tgt := 75) dX4_mixedInto_12 (by decide) (fun c => ?_) (fun c => ?_)
  · replace H := H.1 c
    refine AW_lload_n dX4_mixedInto_75 rfl rfl ?_
    exact AW_rL dX4_mixedInto_76 rfl H
  · replace H := H.2 c
    refine AW_ldc2 dX4_mixedInto_15 kl_X4_46 ?_
    refine AW_lload_n dX4_mixedInto_18 rfl rfl ?_
    refine AW_lmul dX4_mixedInto_19 ?_
    refine AW_aload_n dX4_mixedInto_20 rfl rfl ?_
    refine AW_getR dX4_mixedInto_21 hs.1 fl_X4_20 hs.2.2.1 ?_
    refine AW_iload dX4_mixedInto_24 rfl ?_
    have hi1 := H.1
    replace H := H.2
    refine AW_iald dX4_mixedInto_26 hs.2.2.2.2.1 hi1 ?_
    refine AW_i2l dX4_mixedInto_27 ?_
    refine AW_ladd dX4_mixedInto_28 ?_
    refine AW_lstore_n (L' := [some (.ref s), some (.long l1), none, some (.long ((31 * l3) + ((v.1 (s + 2) l5.toNatClampNeg).toInt64))), none, some (.int l5), none]) dX4_mixedInto_29 rfl (by decide) rfl ?_
    refine AW_iconst (x := 0) dX4_mixedInto_30 (by decide) ?_
    refine AW_istore (L' := [some (.ref s), some (.long l1), none, some (.long ((31 * l3) + ((v.1 (s + 2) l5.toNatClampNeg).toInt64))), none, some (.int l5), some (.int 0)]) dX4_mixedInto_31 (by decide) rfl ?_
    exact H
set_option maxRecDepth 100000 in
set_option maxHeartbeats 4000000 in
theorem vc_X4_mixedInto_33 {G : xG} {d : Nat} {z : xZ} {v : xS} {Q : Int64 → xS → Prop} (B : Base z) {s p m : Nat} {l1 : Int64} {l3 : Int64} {l5 : Int32} {l6 : Int32} (hs : xShelf z s p m)
    (H : (vp_in l5 p ∧ (((v.1 (s + 2) l5.toNatClampNeg) ≤ l6 → aX4_mixedInto G (d + 1) 5 [some (.ref s), some (.long l1), none, some (.long l3), none, some (.int (l5 + 1)), none] [] z v Q) ∧ (¬ (v.1 (s + 2) l5.toNatClampNeg) ≤ l6 → (vp_in l5 p ∧ (vp_in l6 m ∧ aX4_mixedInto G (d + 1) 33 [some (.ref s), some (.long l1), none, some (.long ((31 * l3) + ((v.1 (s + 3 + l5.toNatClampNeg) l6.toNatClampNeg).toInt64))), none, some (.int l5), some (.int (l6 + 1))] [] z v Q)))))) :
    aX4_mixedInto G (d + 1) 33 [some (.ref s), some (.long l1), none, some (.long l3), none, some (.int l5), some (.int l6)] [] z v Q := by
  refine AW_iload dX4_mixedInto_33 rfl ?_
  refine AW_aload_n dX4_mixedInto_35 rfl rfl ?_
  refine AW_getR dX4_mixedInto_36 hs.1 fl_X4_20 hs.2.2.1 ?_
  refine AW_iload dX4_mixedInto_39 rfl ?_
  have hi1 := H.1
  replace H := H.2
  refine AW_iald dX4_mixedInto_41 hs.2.2.2.2.1 hi1 ?_
  refine AW_icmp_ge (tgt := 69) dX4_mixedInto_42 (by decide) (fun c => ?_) (fun c => ?_)
  · replace H := H.1 c
    refine AW_iinc (x' := l5 + 1) (L' := [some (.ref s), some (.long l1), none, some (.long l3), none, some (.int (l5 + 1)), some (.int l6)]) dX4_mixedInto_69 rfl rfl (by decide) rfl ?_
    refine AW_goto (tgt := 5) dX4_mixedInto_72 (by decide) ?_
    refine AW_sub (L' := [some (.ref s), some (.long l1), none, some (.long l3), none, some (.int (l5 + 1)), none]) (show xle _ _ from ⟨rfl, ⟨rfl, ⟨rfl, ⟨rfl, trivial⟩⟩⟩⟩) ?_
    exact H
  · replace H := H.2 c
    refine AW_ldc2 dX4_mixedInto_45 kl_X4_46 ?_
    refine AW_lload_n dX4_mixedInto_48 rfl rfl ?_
    refine AW_lmul dX4_mixedInto_49 ?_
    refine AW_aload_n dX4_mixedInto_50 rfl rfl ?_
    refine AW_getR dX4_mixedInto_51 hs.1 fl_X4_17 hs.2.1 ?_
    refine AW_iload dX4_mixedInto_54 rfl ?_
    have hi2 := H.1
    replace H := H.2
    refine AW_aald dX4_mixedInto_56 hs.2.2.2.1 (Or.inr rfl) hi2 (w := .ref (s + 3 + l5.toNatClampNeg)) (by rw [(hs.2.2.2.2.2 _ (vp_lt hi2)).1]; rfl) ?_
    refine AW_iload dX4_mixedInto_57 rfl ?_
    have hi3 := H.1
    replace H := H.2
    refine AW_iald dX4_mixedInto_59 (hs.2.2.2.2.2 _ (vp_lt hi2)).2 hi3 ?_
    refine AW_i2l dX4_mixedInto_60 ?_
    refine AW_ladd dX4_mixedInto_61 ?_
    refine AW_lstore_n (L' := [some (.ref s), some (.long l1), none, some (.long ((31 * l3) + ((v.1 (s + 3 + l5.toNatClampNeg) l6.toNatClampNeg).toInt64))), none, some (.int l5), some (.int l6)]) dX4_mixedInto_62 rfl (by decide) rfl ?_
    refine AW_iinc (x' := l6 + 1) (L' := [some (.ref s), some (.long l1), none, some (.long ((31 * l3) + ((v.1 (s + 3 + l5.toNatClampNeg) l6.toNatClampNeg).toInt64))), none, some (.int l5), some (.int (l6 + 1))]) dX4_mixedInto_63 rfl rfl (by decide) rfl ?_
    refine AW_goto (tgt := 33) dX4_mixedInto_66 (by decide) ?_
    exact H
