set_option maxRecDepth 100000 in
set_option maxHeartbeats 4000000 in
theorem vc_X1_begin {G : xG} {d : Nat} {z : xZ} {v : xS} {Q : xS → Prop} (B : Base z)  
    (H : (∀ v1 : xS, v1 = wV v 30 0 (v.1 20 4) → (∀ v2 : xS, v2 = wV v1 30 1 (v1.1 20 5) → (∀ v3 : xS, v3 = wV v2 30 2 0 → (∀ v4 : xS, v4 = wV v3 30 3 0 → (∀ v5 : xS, v5 = wA v4 31 (va_cpy (v4.1 21) (v4.1 31) ((0 : Int32).toNatClampNeg) ((0 : Int32).toNatClampNeg) ((10 : Int32).toNatClampNeg)) → (∀ v6 : xS, v6 = wA v5 34 (va_cpy (v5.1 22) (v5.1 34) ((0 : Int32).toNatClampNeg) ((0 : Int32).toNatClampNeg) ((3 : Int32).toNatClampNeg)) → (∀ v7 : xS, v7 = wA v6 32 (va_cpy (v6.1 23) (v6.1 32) ((0 : Int32).toNatClampNeg) ((0 : Int32).toNatClampNeg) ((3 : Int32).toNatClampNeg)) → (∀ v8 : xS, v8 = wA v7 33 (va_cpy (v7.1 24) (v7.1 33) ((0 : Int32).toNatClampNeg) ((0 : Int32).toNatClampNeg) ((3 : Int32).toNatClampNeg)) → aX1_begin G (d + 1) 85 [some (.ref 30), some (.ref 20), some (.int 0)] [] z v8 Q))))))))) :
    oX1_begin G (d + 1) [(.ref 30), (.ref 20)] z v Q := by
  refine Ok_of (own := RX1) (by decide) rfl (Nat.le_of_ble_eq_true rfl) ?_
  show AW G (d + 1) 0 0 yX1_begin cX1_begin 3 none RX1 0 0 0 [some (.ref 30), some (.ref 20), none] [] z v _
  refine AW_aload_n dX1_begin_0 rfl rfl ?_
  refine AW_aload_n dX1_begin_1 rfl rfl ?_
  refine AW_getI dX1_begin_2 (bI_20 B) fl_X1_49 ?_
  refine AW_putIN dX1_begin_5 (bI_30 B) fl_X1_9 rfl rfl rfl (fun v1 hv1 => ?_)
  replace H := H v1 hv1
  refine AW_aload_n dX1_begin_8 rfl rfl ?_
  refine AW_aload_n dX1_begin_9 rfl rfl ?_
  refine AW_getI dX1_begin_10 (bI_20 B) fl_X1_52 ?_
  refine AW_putIN dX1_begin_13 (bI_30 B) fl_X1_15 rfl rfl rfl (fun v2 hv2 => ?_)
  replace H := H v2 hv2
  refine AW_aload_n dX1_begin_16 rfl rfl ?_
  refine AW_iconst (x := 0) dX1_begin_17 (by decide) ?_
  refine AW_putIN dX1_begin_18 (bI_30 B) fl_X1_18 rfl rfl rfl (fun v3 hv3 => ?_)
  replace H := H v3 hv3
  refine AW_aload_n dX1_begin_21 rfl rfl ?_
  refine AW_iconst (x := 0) dX1_begin_22 (by decide) ?_
  refine AW_putIN dX1_begin_23 (bI_30 B) fl_X1_21 rfl rfl rfl (fun v4 hv4 => ?_)
  replace H := H v4 hv4
  refine AW_aload_n dX1_begin_26 rfl rfl ?_
  refine AW_getR dX1_begin_27 (bI_20 B) fl_X1_53 (bR_20_0 B) ?_
  refine AW_iconst (x := 0) dX1_begin_30 (by decide) ?_
  refine AW_aload_n dX1_begin_31 rfl rfl ?_
  refine AW_getR dX1_begin_32 (bI_30 B) fl_X1_24 (bR_30_4 B) ?_
  refine AW_iconst (x := 0) dX1_begin_35 (by decide) ?_
  refine AW_bipush (x := 10) dX1_begin_36 (by decide) ?_
  refine AW_copyN dX1_begin_38 ml_X1_54 (bI_21 B) (bI_31 B) (by decide) (by decide) (by decide) (by decide) (by decide) (Nat.succ_pos _) (Nat.le_of_ble_eq_true rfl) (fun v5 hv5 => ?_)
  replace H := H v5 hv5
  refine AW_aload_n dX1_begin_41 rfl rfl ?_
  refine AW_getR dX1_begin_42 (bI_20 B) fl_X1_60 (bR_20_1 B) ?_
  refine AW_iconst (x := 0) dX1_begin_45 (by decide) ?_
  refine AW_aload_n dX1_begin_46 rfl rfl ?_
  refine AW_getR dX1_begin_47 (bI_30 B) fl_X1_34 (bR_30_7 B) ?_
  refine AW_iconst (x := 0) dX1_begin_50 (by decide) ?_
  refine AW_iconst (x := 3) dX1_begin_51 (by decide) ?_
  refine AW_copyN dX1_begin_52 ml_X1_54 (bI_22 B) (bI_34 B) (by decide) (by decide) (by decide) (by decide) (by decide) (Nat.succ_pos _) (Nat.le_of_ble_eq_true rfl) (fun v6 hv6 => ?_)
  replace H := H v6 hv6
  refine AW_aload_n dX1_begin_55 rfl rfl ?_
  refine AW_getR dX1_begin_56 (bI_20 B) fl_X1_61 (bR_20_2 B) ?_
  refine AW_iconst (x := 0) dX1_begin_59 (by decide) ?_
  refine AW_aload_n dX1_begin_60 rfl rfl ?_
  refine AW_getR dX1_begin_61 (bI_30 B) fl_X1_28 (bR_30_5 B) ?_
  refine AW_iconst (x := 0) dX1_begin_64 (by decide) ?_
  refine AW_iconst (x := 3) dX1_begin_65 (by decide) ?_
  refine AW_copyN dX1_begin_66 ml_X1_54 (bI_23 B) (bI_32 B) (by decide) (by decide) (by decide) (by decide) (by decide) (Nat.succ_pos _) (Nat.le_of_ble_eq_true rfl) (fun v7 hv7 => ?_)
  replace H := H v7 hv7
  refine AW_aload_n dX1_begin_69 rfl rfl ?_
  refine AW_getR dX1_begin_70 (bI_20 B) fl_X1_62 (bR_20_3 B) ?_
  refine AW_iconst (x := 0) dX1_begin_73 (by decide) ?_
  refine AW_aload_n dX1_begin_74 rfl rfl ?_
  refine AW_getR dX1_begin_75 (bI_30 B) fl_X1_31 (bR_30_6 B) ?_
  refine AW_iconst (x := 0) dX1_begin_78 (by decide) ?_
  refine AW_iconst (x := 3) dX1_begin_79 (by decide) ?_
  refine AW_copyN dX1_begin_80 ml_X1_54 (bI_24 B) (bI_33 B) (by decide) (by decide) (by decide) (by decide) (by decide) (Nat.succ_pos _) (Nat.le_of_ble_eq_true rfl) (fun v8 hv8 => ?_)
  replace H := H v8 hv8
  refine AW_iconst (x := 0) dX1_begin_83 (by decide) ?_
  refine AW_istore_n (L' := [some (.ref 30), some (.ref 20), some (.int 0)]) dX1_begin_84 rfl (by decide) rfl ?_
  exact H
set_option maxRecDepth 100000 in
set_option maxHeartbeats 4000000 in
theorem vc_X1_begin_85 {G : xG} {d : Nat} {z : xZ} {v : xS} {Q : xS → Prop} (B : Base z)  {l2 : Int32} 
    (H : ((3 ≤ l2 → Q v) ∧ (¬ 3 ≤ l2 → (vp_in l2 3 ∧ (∀ v2 : xS, v2 = wV v 35 l2.toNatClampNeg 0 → aX1_begin G (d + 1) 85 [some (.ref 30), some (.ref 20), some (.int (l2 + 1))] [] z v2 Q))))) :
    aX1_begin G (d + 1) 85 [some (.ref 30), some (.ref 20), some (.int l2)] [] z v Q := by
  refine AW_iload_n dX1_begin_85 rfl rfl ?_
  refine AW_iconst (x := 3) dX1_begin_86 (by decide) ?_
  refine AW_icmp_ge (tgt := 103) dX1_begin_87 (by decide) (fun c => ?_) (fun c => ?_)
  · replace H := H.1 c
    exact AW_rV dX1_begin_103 rfl H
  · replace H := H.2 c
    refine AW_aload_n dX1_begin_90 rfl rfl ?_
    refine AW_getR dX1_begin_91 (bI_30 B) fl_X1_37 (bR_30_8 B) ?_
    refine AW_iload_n dX1_begin_94 rfl rfl ?_
    refine AW_iconst (x := 0) dX1_begin_95 (by decide) ?_
    have hi1 := H.1
    replace H := H.2
    refine AW_iastN dX1_begin_96 (bI_35 B) hi1 (fun v2 hv2 => ?_)
    replace H := H v2 hv2
    refine AW_iinc (x' := l2 + 1) (L' := [some (.ref 30), some (.ref 20), some (.int (l2 + 1))]) dX1_begin_97 rfl rfl (by decide) rfl ?_
    refine AW_goto (tgt := 85) dX1_begin_100 (by decide) ?_
    exact H
set_option maxRecDepth 100000 in
set_option maxHeartbeats 4000000 in
theorem vc_X1_becomeLike {G : xG} {d : Nat} {z : xZ} {v : xS} {Q : xS → Prop} (B : Base z) {t : Nat} {o : Nat} (ht : xLandAt z t) (ho : xLandAt z o)
    (H : (∀ v1 : xS, v1 = wV v t 0 (v.1 o 0) → (∀ v2 : xS, v2 = wV v1 t 1 (v1.1 o 1) → (∀ v3 : xS, v3 = wV v2 t 2 (v2.1 o 2) → (∀ v4 : xS, v4 = wV v3 t 3 (v3.1 o 3) → (∀ v5 : xS, v5 = wA v4 (t + 1) (va_cpy (v4.1 (o + 1)) (v4.1 (t + 1)) ((0 : Int32).toNatClampNeg) ((0 : Int32).toNatClampNeg) ((10 : Int32).toNatClampNeg)) → (∀ v6 : xS, v6 = wA v5 (t + 4) (va_cpy (v5.1 (o + 4)) (v5.1 (t + 4)) ((0 : Int32).toNatClampNeg) ((0 : Int32).toNatClampNeg) ((3 : Int32).toNatClampNeg)) → (∀ v7 : xS, v7 = wA v6 (t + 2) (va_cpy (v6.1 (o + 2)) (v6.1 (t + 2)) ((0 : Int32).toNatClampNeg) ((0 : Int32).toNatClampNeg) ((3 : Int32).toNatClampNeg)) → (∀ v8 : xS, v8 = wA v7 (t + 3) (va_cpy (v7.1 (o + 3)) (v7.1 (t + 3)) ((0 : Int32).toNatClampNeg) ((0 : Int32).toNatClampNeg) ((3 : Int32).toNatClampNeg)) → (∀ v9 : xS, v9 = wA v8 (t + 5) (va_cpy (v8.1 (o + 5)) (v8.1 (t + 5)) ((0 : Int32).toNatClampNeg) ((0 : Int32).toNatClampNeg) ((3 : Int32).toNatClampNeg)) → (∀ v10 : xS, v10 = wA v9 (t + 6) (va_cpy (v9.1 (o + 6)) (v9.1 (t + 6)) ((0 : Int32).toNatClampNeg) ((0 : Int32).toNatClampNeg) ((60 : Int32).toNatClampNeg)) → (∀ v11 : xS, v11 = wA v10 (t + 7) (va_cpy (v10.1 (o + 7)) (v10.1 (t + 7)) ((0 : Int32).toNatClampNeg) ((0 : Int32).toNatClampNeg) ((600 : Int32).toNatClampNeg)) → (∀ v12 : xS, v12 = wA v11 (t + 8) (va_cpy (v11.1 (o + 8)) (v11.1 (t + 8)) ((0 : Int32).toNatClampNeg) ((0 : Int32).toNatClampNeg) ((180 : Int32).toNatClampNeg)) → Q v12))))))))))))) :
    oX1_becomeLike G (d + 1) [(.ref t), (.ref o)] z v Q := by
  refine Ok_of (own := RX1) (by decide) rfl (Nat.le_of_ble_eq_true rfl) ?_
  show AW G (d + 1) 0 0 yX1_becomeLike cX1_becomeLike 2 none RX1 0 0 0 [some (.ref t), some (.ref o)] [] z v _
  refine AW_aload_n dX1_becomeLike_0 rfl rfl ?_
  refine AW_aload_n dX1_becomeLike_1 rfl rfl ?_
  refine AW_getI dX1_becomeLike_2 ho.1 fl_X1_9 ?_
  refine AW_putIN dX1_becomeLike_5 ht.1 fl_X1_9 rfl rfl rfl (fun v1 hv1 => ?_)
  replace H := H v1 hv1
  refine AW_aload_n dX1_becomeLike_8 rfl rfl ?_
  refine AW_aload_n dX1_becomeLike_9 rfl rfl ?_
  refine AW_getI dX1_becomeLike_10 ho.1 fl_X1_15 ?_
  refine AW_putIN dX1_becomeLike_13 ht.1 fl_X1_15 rfl rfl rfl (fun v2 hv2 => ?_)
  replace H := H v2 hv2
  refine AW_aload_n dX1_becomeLike_16 rfl rfl ?_
  refine AW_aload_n dX1_becomeLike_17 rfl rfl ?_
  refine AW_getI dX1_becomeLike_18 ho.1 fl_X1_18 ?_
  refine AW_putIN dX1_becomeLike_21 ht.1 fl_X1_18 rfl rfl rfl (fun v3 hv3 => ?_)
  replace H := H v3 hv3
  refine AW_aload_n dX1_becomeLike_24 rfl rfl ?_
  refine AW_aload_n dX1_becomeLike_25 rfl rfl ?_
  refine AW_getI dX1_becomeLike_26 ho.1 fl_X1_21 ?_
  refine AW_putIN dX1_becomeLike_29 ht.1 fl_X1_21 rfl rfl rfl (fun v4 hv4 => ?_)
  replace H := H v4 hv4
  refine AW_aload_n dX1_becomeLike_32 rfl rfl ?_
  refine AW_getR dX1_becomeLike_33 ho.1 fl_X1_24 (ho.2 4 (by decide) (by decide)).1 ?_
  refine AW_iconst (x := 0) dX1_becomeLike_36 (by decide) ?_
  refine AW_aload_n dX1_becomeLike_37 rfl rfl ?_
  refine AW_getR dX1_becomeLike_38 ht.1 fl_X1_24 (ht.2 4 (by decide) (by decide)).1 ?_
  refine AW_iconst (x := 0) dX1_becomeLike_41 (by decide) ?_
  refine AW_bipush (x := 10) dX1_becomeLike_42 (by decide) ?_
  refine AW_copyN dX1_becomeLike_44 ml_X1_54 (ho.2 4 (by decide) (by decide)).2 (ht.2 4 (by decide) (by decide)).2 (by decide) (by decide) (by decide) (by decide) (by decide) (Nat.succ_pos _) (Nat.le_of_ble_eq_true rfl) (fun v5 hv5 => ?_)
  replace H := H v5 hv5
  refine AW_aload_n dX1_becomeLike_47 rfl rfl ?_
  refine AW_getR dX1_becomeLike_48 ho.1 fl_X1_34 (ho.2 7 (by decide) (by decide)).1 ?_
  refine AW_iconst (x := 0) dX1_becomeLike_51 (by decide) ?_
  refine AW_aload_n dX1_becomeLike_52 rfl rfl ?_
  refine AW_getR dX1_becomeLike_53 ht.1 fl_X1_34 (ht.2 7 (by decide) (by decide)).1 ?_
  refine AW_iconst (x := 0) dX1_becomeLike_56 (by decide) ?_
  refine AW_iconst (x := 3) dX1_becomeLike_57 (by decide) ?_
  refine AW_copyN dX1_becomeLike_58 ml_X1_54 (ho.2 7 (by decide) (by decide)).2 (ht.2 7 (by decide) (by decide)).2 (by decide) (by decide) (by decide) (by decide) (by decide) (Nat.succ_pos _) (Nat.le_of_ble_eq_true rfl) (fun v6 hv6 => ?_)
  replace H := H v6 hv6
  refine AW_aload_n dX1_becomeLike_61 rfl rfl ?_
  refine AW_getR dX1_becomeLike_62 ho.1 fl_X1_28 (ho.2 5 (by decide) (by decide)).1 ?_
  refine AW_iconst (x := 0) dX1_becomeLike_65 (by decide) ?_
  refine AW_aload_n dX1_becomeLike_66 rfl rfl ?_
  refine AW_getR dX1_becomeLike_67 ht.1 fl_X1_28 (ht.2 5 (by decide) (by decide)).1 ?_
  refine AW_iconst (x := 0) dX1_becomeLike_70 (by decide) ?_
  refine AW_iconst (x := 3) dX1_becomeLike_71 (by decide) ?_
  refine AW_copyN dX1_becomeLike_72 ml_X1_54 (ho.2 5 (by decide) (by decide)).2 (ht.2 5 (by decide) (by decide)).2 (by decide) (by decide) (by decide) (by decide) (by decide) (Nat.succ_pos _) (Nat.le_of_ble_eq_true rfl) (fun v7 hv7 => ?_)
  replace H := H v7 hv7
  refine AW_aload_n dX1_becomeLike_75 rfl rfl ?_
  refine AW_getR dX1_becomeLike_76 ho.1 fl_X1_31 (ho.2 6 (by decide) (by decide)).1 ?_
  refine AW_iconst (x := 0) dX1_becomeLike_79 (by decide) ?_
  refine AW_aload_n dX1_becomeLike_80 rfl rfl ?_
  refine AW_getR dX1_becomeLike_81 ht.1 fl_X1_31 (ht.2 6 (by decide) (by decide)).1 ?_
  refine AW_iconst (x := 0) dX1_becomeLike_84 (by decide) ?_
  refine AW_iconst (x := 3) dX1_becomeLike_85 (by decide) ?_
  refine AW_copyN dX1_becomeLike_86 ml_X1_54 (ho.2 6 (by decide) (by decide)).2 (ht.2 6 (by decide) (by decide)).2 (by decide) (by decide) (by decide) (by decide) (by decide) (Nat.succ_pos _) (Nat.le_of_ble_eq_true rfl) (fun v8 hv8 => ?_)
  replace H := H v8 hv8
  refine AW_aload_n dX1_becomeLike_89 rfl rfl ?_
  refine AW_getR dX1_becomeLike_90 ho.1 fl_X1_37 (ho.2 8 (by decide) (by decide)).1 ?_
  refine AW_iconst (x := 0) dX1_becomeLike_93 (by decide) ?_
  refine AW_aload_n dX1_becomeLike_94 rfl rfl ?_
  refine AW_getR dX1_becomeLike_95 ht.1 fl_X1_37 (ht.2 8 (by decide) (by decide)).1 ?_
  refine AW_iconst (x := 0) dX1_becomeLike_98 (by decide) ?_
  refine AW_iconst (x := 3) dX1_becomeLike_99 (by decide) ?_
  refine AW_copyN dX1_becomeLike_100 ml_X1_54 (ho.2 8 (by decide) (by decide)).2 (ht.2 8 (by decide) (by decide)).2 (by decide) (by decide) (by decide) (by decide) (by decide) (Nat.succ_pos _) (Nat.le_of_ble_eq_true rfl) (fun v9 hv9 => ?_)
  replace H := H v9 hv9
  refine AW_aload_n dX1_becomeLike_103 rfl rfl ?_
  refine AW_getR dX1_becomeLike_104 ho.1 fl_X1_40 (ho.2 9 (by decide) (by decide)).1 ?_
  refine AW_iconst (x := 0) dX1_becomeLike_107 (by decide) ?_
  refine AW_aload_n dX1_becomeLike_108 rfl rfl ?_
  refine AW_getR dX1_becomeLike_109 ht.1 fl_X1_40 (ht.2 9 (by decide) (by decide)).1 ?_
  refine AW_iconst (x := 0) dX1_becomeLike_112 (by decide) ?_
  refine AW_bipush (x := 60) dX1_becomeLike_113 (by decide) ?_
  refine AW_copyN dX1_becomeLike_115 ml_X1_54 (ho.2 9 (by decide) (by decide)).2 (ht.2 9 (by decide) (by decide)).2 (by decide) (by decide) (by decide) (by decide) (by decide) (Nat.succ_pos _) (Nat.le_of_ble_eq_true rfl) (fun v10 hv10 => ?_)
  replace H := H v10 hv10
  refine AW_aload_n dX1_becomeLike_118 rfl rfl ?_
  refine AW_getR dX1_becomeLike_119 ho.1 fl_X1_43 (ho.2 10 (by decide) (by decide)).1 ?_
  refine AW_iconst (x := 0) dX1_becomeLike_122 (by decide) ?_
  refine AW_aload_n dX1_becomeLike_123 rfl rfl ?_
  refine AW_getR dX1_becomeLike_124 ht.1 fl_X1_43 (ht.2 10 (by decide) (by decide)).1 ?_
  refine AW_iconst (x := 0) dX1_becomeLike_127 (by decide) ?_
  refine AW_sipush (x := 600) dX1_becomeLike_128 (by decide) ?_
  refine AW_copyN dX1_becomeLike_131 ml_X1_54 (ho.2 10 (by decide) (by decide)).2 (ht.2 10 (by decide) (by decide)).2 (by decide) (by decide) (by decide) (by decide) (by decide) (Nat.succ_pos _) (Nat.le_of_ble_eq_true rfl) (fun v11 hv11 => ?_)
  replace H := H v11 hv11
  refine AW_aload_n dX1_becomeLike_134 rfl rfl ?_
  refine AW_getR dX1_becomeLike_135 ho.1 fl_X1_46 (ho.2 11 (by decide) (by decide)).1 ?_
  refine AW_iconst (x := 0) dX1_becomeLike_138 (by decide) ?_
  refine AW_aload_n dX1_becomeLike_139 rfl rfl ?_
  refine AW_getR dX1_becomeLike_140 ht.1 fl_X1_46 (ht.2 11 (by decide) (by decide)).1 ?_
  refine AW_iconst (x := 0) dX1_becomeLike_143 (by decide) ?_
  refine AW_sipush (x := 180) dX1_becomeLike_144 (by decide) ?_
  refine AW_copyN dX1_becomeLike_147 ml_X1_54 (ho.2 11 (by decide) (by decide)).2 (ht.2 11 (by decide) (by decide)).2 (by decide) (by decide) (by decide) (by decide) (by decide) (Nat.succ_pos _) (Nat.le_of_ble_eq_true rfl) (fun v12 hv12 => ?_)
  replace H := H v12 hv12
  exact AW_rV dX1_becomeLike_150 rfl H
set_option maxRecDepth 100000 in
set_option maxHeartbeats 4000000 in
theorem vc_X1_isSpot {G : xG} {d : Nat} {z : xZ} {v : xS} {Q : Int32 → xS → Prop} (B : Base z) {xa : Int32} 
    (H : ((xa < 0 → Q 0 v) ∧ (¬ xa < 0 → (((v.1 30 0) ≤ xa → Q 0 v) ∧ (¬ (v.1 30 0) ≤ xa → Q 1 v))))) :
    oX1_isSpot G (d + 1) [(.ref 30), (.int xa)] z v Q := by
  refine Ok_of (own := RX1) (by decide) rfl (Nat.le_of_ble_eq_true rfl) ?_
  show AW G (d + 1) 0 0 yX1_isSpot cX1_isSpot 2 (some .boolean) RX1 0 0 0 [some (.ref 30), some (.int xa)] [] z v _
  refine AW_iload_n dX1_isSpot_0 rfl rfl ?_
  refine AW_if_lt (tgt := 16) dX1_isSpot_1 (by decide) (fun c => ?_) (fun c => ?_)
  · replace H := H.1 c
    refine AW_iconst (x := 0) dX1_isSpot_16 (by decide) ?_
    exact AW_rI dX1_isSpot_17 rfl (by decide) H
  · replace H := H.2 c
    refine AW_iload_n dX1_isSpot_4 rfl rfl ?_
    refine AW_aload_n dX1_isSpot_5 rfl rfl ?_
    refine AW_getI dX1_isSpot_6 (bI_30 B) fl_X1_9 ?_
    refine AW_icmp_ge (tgt := 16) dX1_isSpot_9 (by decide) (fun c => ?_) (fun c => ?_)
    · replace H := H.1 c
      refine AW_iconst (x := 0) dX1_isSpot_16 (by decide) ?_
      exact AW_rI dX1_isSpot_17 rfl (by decide) H
    · replace H := H.2 c
      refine AW_iconst (x := 1) dX1_isSpot_12 (by decide) ?_
      refine AW_goto (tgt := 17) dX1_isSpot_13 (by decide) ?_
      exact AW_rI dX1_isSpot_17 rfl (by decide) H
set_option maxRecDepth 100000 in
set_option maxHeartbeats 4000000 in
theorem vc_X1_isBand {G : xG} {d : Nat} {z : xZ} {v : xS} {Q : Int32 → xS → Prop} (B : Base z) {xa : Int32} 
    (H : ((xa < 0 → Q 0 v) ∧ (¬ xa < 0 → (((v.1 30 1) ≤ xa → Q 0 v) ∧ (¬ (v.1 30 1) ≤ xa → Q 1 v))))) :
    oX1_isBand G (d + 1) [(.ref 30), (.int xa)] z v Q := by
  refine Ok_of (own := RX1) (by decide) rfl (Nat.le_of_ble_eq_true rfl) ?_
  show AW G (d + 1) 0 0 yX1_isBand cX1_isBand 2 (some .boolean) RX1 0 0 0 [some (.ref 30), some (.int xa)] [] z v _
  refine AW_iload_n dX1_isBand_0 rfl rfl ?_
  refine AW_if_lt (tgt := 16) dX1_isBand_1 (by decide) (fun c => ?_) (fun c => ?_)
  · replace H := H.1 c
    refine AW_iconst (x := 0) dX1_isBand_16 (by decide) ?_
    exact AW_rI dX1_isBand_17 rfl (by decide) H
  · replace H := H.2 c
    refine AW_iload_n dX1_isBand_4 rfl rfl ?_
    refine AW_aload_n dX1_isBand_5 rfl rfl ?_
    refine AW_getI dX1_isBand_6 (bI_30 B) fl_X1_15 ?_
    refine AW_icmp_ge (tgt := 16) dX1_isBand_9 (by decide) (fun c => ?_) (fun c => ?_)
    · replace H := H.1 c
      refine AW_iconst (x := 0) dX1_isBand_16 (by decide) ?_
      exact AW_rI dX1_isBand_17 rfl (by decide) H
    · replace H := H.2 c
      refine AW_iconst (x := 1) dX1_isBand_12 (by decide) ?_
      refine AW_goto (tgt := 17) dX1_isBand_13 (by decide) ?_
      exact AW_rI dX1_isBand_17 rfl (by decide) H
set_option maxRecDepth 100000 in
set_option maxHeartbeats 4000000 in
theorem vc_X1_isProgram {G : xG} {d : Nat} {z : xZ} {v : xS} {Q : Int32 → xS → Prop} (B : Base z) {xa : Int32} 
    (H : ((xa < 0 → Q 0 v) ∧ (¬ xa < 0 → (oX1_programs G d [(.ref 30)] z v (fun r2 v1 => ((r2 ≤ xa → Q 0 v1) ∧ (¬ r2 ≤ xa → Q 1 v1))))))) :
    oX1_isProgram G (d + 1) [(.ref 30), (.int xa)] z v Q := by
  refine Ok_of (own := RX1) (by decide) rfl (Nat.le_of_ble_eq_true rfl) ?_
  show AW G (d + 1) 0 0 yX1_isProgram cX1_isProgram 2 (some .boolean) RX1 0 0 0 [some (.ref 30), some (.int xa)] [] z v _
  refine AW_iload_n dX1_isProgram_0 rfl rfl ?_
  refine AW_if_lt (tgt := 16) dX1_isProgram_1 (by decide) (fun c => ?_) (fun c => ?_)
  · replace H := H.1 c
    refine AW_iconst (x := 0) dX1_isProgram_16 (by decide) ?_
    exact AW_rI dX1_isProgram_17 rfl (by decide) H
  · replace H := H.2 c
    refine AW_iload_n dX1_isProgram_4 rfl rfl ?_
    refine AW_aload_n dX1_isProgram_5 rfl rfl ?_
    refine AW_vI (as := []) (st := [(.int xa)]) dX1_isProgram_6 (bI_30 B) (by decide) rfl mv_X1_programs mi_X1_programs ml_X1_63 (Nat.le_of_ble_eq_true rfl) rfl (Nat.le_refl 0) (Nat.le_refl 0) H (fun r2 v1 H => ?_)
    refine AW_icmp_ge (tgt := 16) dX1_isProgram_9 (by decide) (fun c => ?_) (fun c => ?_)
    · replace H := H.1 c
      refine AW_iconst (x := 0) dX1_isProgram_16 (by decide) ?_
      exact AW_rI dX1_isProgram_17 rfl (by decide) H
    · replace H := H.2 c
      refine AW_iconst (x := 1) dX1_isProgram_12 (by decide) ?_
      refine AW_goto (tgt := 17) dX1_isProgram_13 (by decide) ?_
      exact AW_rI dX1_isProgram_17 rfl (by decide) H
set_option maxRecDepth 100000 in
set_option maxHeartbeats 4000000 in
theorem vc_X1_isSpotSet {G : xG} {d : Nat} {z : xZ} {v : xS} {Q : Int32 → xS → Prop} (B : Base z) {xa : Int32} 
    (H : ((xa < 0 → Q 0 v) ∧ (¬ xa < 0 → (((1 <<< ((v.1 30 0) &&& 31)) ≤ xa → Q 0 v) ∧ (¬ (1 <<< ((v.1 30 0) &&& 31)) ≤ xa → Q 1 v))))) :
    oX1_isSpotSet G (d + 1) [(.ref 30), (.int xa)] z v Q := by
  refine Ok_of (own := RX1) (by decide) rfl (Nat.le_of_ble_eq_true rfl) ?_
  show AW G (d + 1) 0 0 yX1_isSpotSet cX1_isSpotSet 2 (some .boolean) RX1 0 0 0 [some (.ref 30), some (.int xa)] [] z v _
  refine AW_iload_n dX1_isSpotSet_0 rfl rfl ?_
  refine AW_if_lt (tgt := 18) dX1_isSpotSet_1 (by decide) (fun c => ?_) (fun c => ?_)
  · replace H := H.1 c
    refine AW_iconst (x := 0) dX1_isSpotSet_18 (by decide) ?_
    exact AW_rI dX1_isSpotSet_19 rfl (by decide) H
  · replace H := H.2 c
    refine AW_iload_n dX1_isSpotSet_4 rfl rfl ?_
    refine AW_iconst (x := 1) dX1_isSpotSet_5 (by decide) ?_
    refine AW_aload_n dX1_isSpotSet_6 rfl rfl ?_
    refine AW_getI dX1_isSpotSet_7 (bI_30 B) fl_X1_9 ?_
    refine AW_ishl dX1_isSpotSet_10 ?_
    refine AW_icmp_ge (tgt := 18) dX1_isSpotSet_11 (by decide) (fun c => ?_) (fun c => ?_)
    · replace H := H.1 c
      refine AW_iconst (x := 0) dX1_isSpotSet_18 (by decide) ?_
      exact AW_rI dX1_isSpotSet_19 rfl (by decide) H
    · replace H := H.2 c
      refine AW_iconst (x := 1) dX1_isSpotSet_14 (by decide) ?_
      refine AW_goto (tgt := 19) dX1_isSpotSet_15 (by decide) ?_
      exact AW_rI dX1_isSpotSet_19 rfl (by decide) H
set_option maxRecDepth 100000 in
set_option maxHeartbeats 4000000 in
theorem vc_X1_isFrozen {G : xG} {d : Nat} {z : xZ} {v : xS} {Q : Int32 → xS → Prop} (B : Base z) {xa : Int32} 
    (H : ((¬ (((v.1 30 2) >>> (xa &&& 31)) &&& 1) = 1 → Q 0 v) ∧ ((((v.1 30 2) >>> (xa &&& 31)) &&& 1) = 1 → Q 1 v))) :
    oX1_isFrozen G (d + 1) [(.ref 30), (.int xa)] z v Q := by
  refine Ok_of (own := RX1) (by decide) rfl (Nat.le_of_ble_eq_true rfl) ?_
  show AW G (d + 1) 0 0 yX1_isFrozen cX1_isFrozen 2 (some .boolean) RX1 0 0 0 [some (.ref 30), some (.int xa)] [] z v _
  refine AW_aload_n dX1_isFrozen_0 rfl rfl ?_
  refine AW_getI dX1_isFrozen_1 (bI_30 B) fl_X1_18 ?_
  refine AW_iload_n dX1_isFrozen_4 rfl rfl ?_
  refine AW_ishr dX1_isFrozen_5 ?_
  refine AW_iconst (x := 1) dX1_isFrozen_6 (by decide) ?_
  refine AW_iand dX1_isFrozen_7 ?_
  refine AW_iconst (x := 1) dX1_isFrozen_8 (by decide) ?_
  refine AW_icmp_ne (tgt := 16) dX1_isFrozen_9 (by decide) (fun c => ?_) (fun c => ?_)
  · replace H := H.1 c
    refine AW_iconst (x := 0) dX1_isFrozen_16 (by decide) ?_
    exact AW_rI dX1_isFrozen_17 rfl (by decide) H
  · replace H := H.2 c
    refine AW_iconst (x := 1) dX1_isFrozen_12 (by decide) ?_
    refine AW_goto (tgt := 17) dX1_isFrozen_13 (by decide) ?_
    exact AW_rI dX1_isFrozen_17 rfl (by decide) H
set_option maxRecDepth 100000 in
set_option maxHeartbeats 4000000 in
theorem vc_X1_isOf {G : xG} {d : Nat} {z : xZ} {v : xS} {Q : Int32 → xS → Prop} (B : Base z) {xa : Int32} {xb : Int32} 
    (H : (oX1_isBand G d [(.ref 30), (.int xa)] z v (fun r2 v1 => ((r2 = 0 → Q 0 v1) ∧ (¬ r2 = 0 → (vp_in xa 3 ∧ (vp_in (v1.1 34 xa.toNatClampNeg) 6 ∧ ((¬ ((((xSv 1).getD (v1.1 34 xa.toNatClampNeg).toNatClampNeg 0) >>> (xb &&& 31)) &&& 1) = 1 → Q 0 v1) ∧ (((((xSv 1).getD (v1.1 34 xa.toNatClampNeg).toNatClampNeg 0) >>> (xb &&& 31)) &&& 1) = 1 → Q 1 v1))))))))) :
    oX1_isOf G (d + 1) [(.ref 30), (.int xa), (.int xb)] z v Q := by
  refine Ok_of (own := RX1) (by decide) rfl (Nat.le_of_ble_eq_true rfl) ?_
  show AW G (d + 1) 0 0 yX1_isOf cX1_isOf 3 (some .boolean) RX1 0 0 0 [some (.ref 30), some (.int xa), some (.int xb)] [] z v _
  refine AW_aload_n dX1_isOf_0 rfl rfl ?_
  refine AW_iload_n dX1_isOf_1 rfl rfl ?_
  refine AW_vI (as := [(.int xa)]) (st := []) dX1_isOf_2 (bI_30 B) (by decide) rfl mv_X1_isBand mi_X1_isBand ml_X1_67 (Nat.le_of_ble_eq_true rfl) rfl (Nat.le_refl 0) (Nat.le_refl 0) H (fun r2 v1 H => ?_)
  refine AW_if_eq (tgt := 30) dX1_isOf_5 (by decide) (fun c => ?_) (fun c => ?_)
  · replace H := H.1 c
    refine AW_iconst (x := 0) dX1_isOf_30 (by decide) ?_
    exact AW_rI dX1_isOf_31 rfl (by decide) H
  · replace H := H.2 c
    refine AW_gets (i := 1) dX1_isOf_8 (by decide) (by decide +kernel) ?_
    refine AW_aload_n dX1_isOf_11 rfl rfl ?_
    refine AW_getR dX1_isOf_12 (bI_30 B) fl_X1_34 (bR_30_7 B) ?_
    refine AW_iload_n dX1_isOf_15 rfl rfl ?_
    have hi3 := H.1
    replace H := H.2
    refine AW_iald dX1_isOf_16 (bI_34 B) hi3 ?_
    have hi4 := H.1
    replace H := H.2
    refine AW_tald (i := 1) dX1_isOf_17 (by decide) hi4 rfl ?_
    refine AW_iload_n dX1_isOf_18 rfl rfl ?_
    refine AW_ishr dX1_isOf_19 ?_
    refine AW_iconst (x := 1) dX1_isOf_20 (by decide) ?_
    refine AW_iand dX1_isOf_21 ?_
    refine AW_iconst (x := 1) dX1_isOf_22 (by decide) ?_
    refine AW_icmp_ne (tgt := 30) dX1_isOf_23 (by decide) (fun c => ?_) (fun c => ?_)
    · replace H := H.1 c
      refine AW_iconst (x := 0) dX1_isOf_30 (by decide) ?_
      exact AW_rI dX1_isOf_31 rfl (by decide) H
    · replace H := H.2 c
      refine AW_iconst (x := 1) dX1_isOf_26 (by decide) ?_
      refine AW_goto (tgt := 31) dX1_isOf_27 (by decide) ?_
      exact AW_rI dX1_isOf_31 rfl (by decide) H
set_option maxRecDepth 100000 in
set_option maxHeartbeats 4000000 in
theorem vc_X1_programs {G : xG} {d : Nat} {z : xZ} {v : xS} {Q : Int32 → xS → Prop} (B : Base z)  
    (H : aX1_programs G (d + 1) 4 [some (.ref 30), some (.int 1), some (.int 0)] [] z v Q) :
    oX1_programs G (d + 1) [(.ref 30)] z v Q := by
  refine Ok_of (own := RX1) (by decide) rfl (Nat.le_of_ble_eq_true rfl) ?_
  show AW G (d + 1) 0 0 yX1_programs cX1_programs 3 (some .int) RX1 0 0 0 [some (.ref 30), none, none] [] z v _
  refine AW_iconst (x := 1) dX1_programs_0 (by decide) ?_
  refine AW_istore_n (L' := [some (.ref 30), some (.int 1), none]) dX1_programs_1 rfl (by decide) rfl ?_
  refine AW_iconst (x := 0) dX1_programs_2 (by decide) ?_
  refine AW_istore_n (L' := [some (.ref 30), some (.int 1), some (.int 0)]) dX1_programs_3 rfl (by decide) rfl ?_
  exact H
set_option maxRecDepth 100000 in
set_option maxHeartbeats 4000000 in
theorem vc_X1_programs_4 {G : xG} {d : Nat} {z : xZ} {v : xS} {Q : Int32 → xS → Prop} (B : Base z)  {l1 : Int32} {l2 : Int32} 
    (H : (((v.1 30 1) ≤ l2 → Q l1 v) ∧ (¬ (v.1 30 1) ≤ l2 → aX1_programs G (d + 1) 4 [some (.ref 30), some (.int (l1 * 3)), some (.int (l2 + 1))] [] z v Q))) :
    aX1_programs G (d + 1) 4 [some (.ref 30), some (.int l1), some (.int l2)] [] z v Q := by
  refine AW_iload_n dX1_programs_4 rfl rfl ?_
  refine AW_aload_n dX1_programs_5 rfl rfl ?_
  refine AW_getI dX1_programs_6 (bI_30 B) fl_X1_15 ?_
  refine AW_icmp_ge (tgt := 22) dX1_programs_9 (by decide) (fun c => ?_) (fun c => ?_)
  · replace H := H.1 c
    refine AW_iload_n dX1_programs_22 rfl rfl ?_
    exact AW_rI dX1_programs_23 rfl rfl H
  · replace H := H.2 c
    refine AW_iload_n dX1_programs_12 rfl rfl ?_
    refine AW_iconst (x := 3) dX1_programs_13 (by decide) ?_
    refine AW_imul dX1_programs_14 ?_
    refine AW_istore_n (L' := [some (.ref 30), some (.int (l1 * 3)), some (.int l2)]) dX1_programs_15 rfl (by decide) rfl ?_
    refine AW_iinc (x' := l2 + 1) (L' := [some (.ref 30), some (.int (l1 * 3)), some (.int (l2 + 1))]) dX1_programs_16 rfl rfl (by decide) rfl ?_
    refine AW_goto (tgt := 4) dX1_programs_19 (by decide) ?_
    exact H
set_option maxRecDepth 100000 in
set_option maxHeartbeats 4000000 in
theorem vc_X1_tuneOf {G : xG} {d : Nat} {z : xZ} {v : xS} {Q : Int32 → xS → Prop} (B : Base z) {xa : Int32} {xb : Int32} 
    (H : aX1_tuneOf G (d + 1) 5 [some (.ref 30), some (.int xa), some (.int xb), some (.int xa), some (.int 0)] [] z v Q) :
    oX1_tuneOf G (d + 1) [(.ref 30), (.int xa), (.int xb)] z v Q := by
  refine Ok_of (own := RX1) (by decide) rfl (Nat.le_of_ble_eq_true rfl) ?_
  show AW G (d + 1) 0 0 yX1_tuneOf cX1_tuneOf 5 (some .int) RX1 0 0 0 [some (.ref 30), some (.int xa), some (.int xb), none, none] [] z v _
  refine AW_iload_n dX1_tuneOf_0 rfl rfl ?_
  refine AW_istore_n (L' := [some (.ref 30), some (.int xa), some (.int xb), some (.int xa), none]) dX1_tuneOf_1 rfl (by decide) rfl ?_
  refine AW_iconst (x := 0) dX1_tuneOf_2 (by decide) ?_
  refine AW_istore (L' := [some (.ref 30), some (.int xa), some (.int xb), some (.int xa), some (.int 0)]) dX1_tuneOf_3 (by decide) rfl ?_
  exact H
set_option maxRecDepth 100000 in
set_option maxHeartbeats 4000000 in
theorem vc_X1_tuneOf_5 {G : xG} {d : Nat} {z : xZ} {v : xS} {Q : Int32 → xS → Prop} (B : Base z)  {l1 : Int32} {l2 : Int32} {l3 : Int32} {l4 : Int32} 
    (H : ((l2 ≤ l4 → Q (l3 - l3 / 3 * 3) v) ∧ (¬ l2 ≤ l4 → aX1_tuneOf G (d + 1) 5 [some (.ref 30), some (.int l1), some (.int l2), some (.int (l3 / 3)), some (.int (l4 + 1))] [] z v Q))) :
    aX1_tuneOf G (d + 1) 5 [some (.ref 30), some (.int l1), some (.int l2), some (.int l3), some (.int l4)] [] z v Q := by
  refine AW_iload dX1_tuneOf_5 rfl ?_
  refine AW_iload_n dX1_tuneOf_7 rfl rfl ?_
  refine AW_icmp_ge (tgt := 21) dX1_tuneOf_8 (by decide) (fun c => ?_) (fun c => ?_)
  · replace H := H.1 c
    refine AW_iload_n dX1_tuneOf_21 rfl rfl ?_
    refine AW_iconst (x := 3) dX1_tuneOf_22 (by decide) ?_
    refine AW_irem dX1_tuneOf_23 (by decide) ?_
    exact AW_rI dX1_tuneOf_24 rfl rfl H
  · replace H := H.2 c
    refine AW_iload_n dX1_tuneOf_11 rfl rfl ?_
    refine AW_iconst (x := 3) dX1_tuneOf_12 (by decide) ?_
    refine AW_idiv dX1_tuneOf_13 (by decide) ?_
    refine AW_istore_n (L' := [some (.ref 30), some (.int l1), some (.int l2), some (.int (l3 / 3)), some (.int l4)]) dX1_tuneOf_14 rfl (by decide) rfl ?_
    refine AW_iinc (x' := l4 + 1) (L' := [some (.ref 30), some (.int l1), some (.int l2), some (.int (l3 / 3)), some (.int (l4 + 1))]) dX1_tuneOf_15 rfl rfl (by decide) rfl ?_
    refine AW_goto (tgt := 5) dX1_tuneOf_18 (by decide) ?_
    exact H
set_option maxRecDepth 100000 in
set_option maxHeartbeats 4000000 in
theorem vc_X1_breathOf {G : xG} {d : Nat} {z : xZ} {v : xS} {Q : Int32 → xS → Prop} (B : Base z) {xa : Int32} 
    (H : aX1_breathOf G (d + 1) 4 [some (.ref 30), some (.int xa), some (.int 0), some (.int 0)] [] z v Q) :
    oX1_breathOf G (d + 1) [(.ref 30), (.int xa)] z v Q := by
  refine Ok_of (own := RX1) (by decide) rfl (Nat.le_of_ble_eq_true rfl) ?_
  show AW G (d + 1) 0 0 yX1_breathOf cX1_breathOf 4 (some .int) RX1 0 0 0 [some (.ref 30), some (.int xa), none, none] [] z v _
  refine AW_iconst (x := 0) dX1_breathOf_0 (by decide) ?_
  refine AW_istore_n (L' := [some (.ref 30), some (.int xa), some (.int 0), none]) dX1_breathOf_1 rfl (by decide) rfl ?_
  refine AW_iconst (x := 0) dX1_breathOf_2 (by decide) ?_
  refine AW_istore_n (L' := [some (.ref 30), some (.int xa), some (.int 0), some (.int 0)]) dX1_breathOf_3 rfl (by decide) rfl ?_
  exact H
set_option maxRecDepth 100000 in
set_option maxHeartbeats 4000000 in
theorem vc_X1_breathOf_4 {G : xG} {d : Nat} {z : xZ} {v : xS} {Q : Int32 → xS → Prop} (B : Base z)  {l1 : Int32} {l2 : Int32} {l3 : Int32} 
    (H : (((v.1 30 1) ≤ l3 → Q l2 v) ∧ (¬ (v.1 30 1) ≤ l3 → (oX1_tuneOf G d [(.ref 30), (.int l1), (.int l3)] z v (fun r2 v1 => ((r2 = 0 → aX1_breathOf G (d + 1) 4 [some (.ref 30), some (.int l1), some (.int l2), some (.int (l3 + 1))] [] z v1 Q) ∧ (¬ r2 = 0 → (vp_in l3 3 ∧ aX1_breathOf G (d + 1) 4 [some (.ref 30), some (.int l1), some (.int (l2 + (v1.1 33 l3.toNatClampNeg))), some (.int (l3 + 1))] [] z v1 Q)))))))) :
    aX1_breathOf G (d + 1) 4 [some (.ref 30), some (.int l1), some (.int l2), some (.int l3)] [] z v Q := by
  refine AW_iload_n dX1_breathOf_4 rfl rfl ?_
  refine AW_aload_n dX1_breathOf_5 rfl rfl ?_
  refine AW_getI dX1_breathOf_6 (bI_30 B) fl_X1_15 ?_
  refine AW_icmp_ge (tgt := 36) dX1_breathOf_9 (by decide) (fun c => ?_) (fun c => ?_)
  · replace H := H.1 c
    refine AW_iload_n dX1_breathOf_36 rfl rfl ?_
    exact AW_rI dX1_breathOf_37 rfl rfl H
  · replace H := H.2 c
    refine AW_aload_n dX1_breathOf_12 rfl rfl ?_
    refine AW_iload_n dX1_breathOf_13 rfl rfl ?_
    refine AW_iload_n dX1_breathOf_14 rfl rfl ?_
    refine AW_vI (as := [(.int l1), (.int l3)]) (st := []) dX1_breathOf_15 (bI_30 B) (by decide) rfl mv_X1_tuneOf mi_X1_tuneOf ml_X1_74 (Nat.le_of_ble_eq_true rfl) rfl (Nat.le_refl 0) (Nat.le_refl 0) H (fun r2 v1 H => ?_)
    refine AW_if_eq (tgt := 30) dX1_breathOf_18 (by decide) (fun c => ?_) (fun c => ?_)
    · replace H := H.1 c
      refine AW_iinc (x' := l3 + 1) (L' := [some (.ref 30), some (.int l1), some (.int l2), some (.int (l3 + 1))]) dX1_breathOf_30 rfl rfl (by decide) rfl ?_
      refine AW_goto (tgt := 4) dX1_breathOf_33 (by decide) ?_
      exact H
    · replace H := H.2 c
      refine AW_iload_n dX1_breathOf_21 rfl rfl ?_
      refine AW_aload_n dX1_breathOf_22 rfl rfl ?_
      refine AW_getR dX1_breathOf_23 (bI_30 B) fl_X1_31 (bR_30_6 B) ?_
      refine AW_iload_n dX1_breathOf_26 rfl rfl ?_
      have hi3 := H.1
      replace H := H.2
      refine AW_iald dX1_breathOf_27 (bI_33 B) hi3 ?_
      refine AW_iadd dX1_breathOf_28 ?_
      refine AW_istore_n (L' := [some (.ref 30), some (.int l1), some (.int (l2 + (v1.1 33 l3.toNatClampNeg))), some (.int l3)]) dX1_breathOf_29 rfl (by decide) rfl ?_
      refine AW_iinc (x' := l3 + 1) (L' := [some (.ref 30), some (.int l1), some (.int (l2 + (v1.1 33 l3.toNatClampNeg))), some (.int (l3 + 1))]) dX1_breathOf_30 rfl rfl (by decide) rfl ?_
      refine AW_goto (tgt := 4) dX1_breathOf_33 (by decide) ?_
      exact H
set_option maxRecDepth 100000 in
set_option maxHeartbeats 4000000 in
theorem vc_X1_drums {G : xG} {d : Nat} {z : xZ} {v : xS} {Q : Int32 → xS → Prop} (B : Base z)  
    (H : aX1_drums G (d + 1) 4 [some (.ref 30), some (.int 0), some (.int 0)] [] z v Q) :
    oX1_drums G (d + 1) [(.ref 30)] z v Q := by
  refine Ok_of (own := RX1) (by decide) rfl (Nat.le_of_ble_eq_true rfl) ?_
  show AW G (d + 1) 0 0 yX1_drums cX1_drums 3 (some .int) RX1 0 0 0 [some (.ref 30), none, none] [] z v _
  refine AW_iconst (x := 0) dX1_drums_0 (by decide) ?_
  refine AW_istore_n (L' := [some (.ref 30), some (.int 0), none]) dX1_drums_1 rfl (by decide) rfl ?_
  refine AW_iconst (x := 0) dX1_drums_2 (by decide) ?_
  refine AW_istore_n (L' := [some (.ref 30), some (.int 0), some (.int 0)]) dX1_drums_3 rfl (by decide) rfl ?_
  exact H
set_option maxRecDepth 100000 in
set_option maxHeartbeats 4000000 in
theorem vc_X1_drums_4 {G : xG} {d : Nat} {z : xZ} {v : xS} {Q : Int32 → xS → Prop} (B : Base z)  {l1 : Int32} {l2 : Int32} 
    (H : (((v.1 30 1) ≤ l2 → Q l1 v) ∧ (¬ (v.1 30 1) ≤ l2 → (oX1_isOf G d [(.ref 30), (.int l2), (.int 1)] z v (fun r2 v1 => ((r2 = 0 → aX1_drums G (d + 1) 4 [some (.ref 30), some (.int l1), some (.int (l2 + 1))] [] z v1 Q) ∧ (¬ r2 = 0 → aX1_drums G (d + 1) 4 [some (.ref 30), some (.int (l1 + 1)), some (.int (l2 + 1))] [] z v1 Q))))))) :
    aX1_drums G (d + 1) 4 [some (.ref 30), some (.int l1), some (.int l2)] [] z v Q := by
  refine AW_iload_n dX1_drums_4 rfl rfl ?_
  refine AW_aload_n dX1_drums_5 rfl rfl ?_
  refine AW_getI dX1_drums_6 (bI_30 B) fl_X1_15 ?_
  refine AW_icmp_ge (tgt := 30) dX1_drums_9 (by decide) (fun c => ?_) (fun c => ?_)
  · replace H := H.1 c
    refine AW_iload_n dX1_drums_30 rfl rfl ?_
    exact AW_rI dX1_drums_31 rfl rfl H
  · replace H := H.2 c
    refine AW_aload_n dX1_drums_12 rfl rfl ?_
    refine AW_iload_n dX1_drums_13 rfl rfl ?_
    refine AW_iconst (x := 1) dX1_drums_14 (by decide) ?_
    refine AW_vI (as := [(.int l2), (.int 1)]) (st := []) dX1_drums_15 (bI_30 B) (by decide) rfl mv_X1_isOf mi_X1_isOf ml_X1_78 (Nat.le_of_ble_eq_true rfl) rfl (Nat.le_refl 0) (Nat.le_refl 0) H (fun r2 v1 H => ?_)
    refine AW_if_eq (tgt := 24) dX1_drums_18 (by decide) (fun c => ?_) (fun c => ?_)
    · replace H := H.1 c
      refine AW_iinc (x' := l2 + 1) (L' := [some (.ref 30), some (.int l1), some (.int (l2 + 1))]) dX1_drums_24 rfl rfl (by decide) rfl ?_
      refine AW_goto (tgt := 4) dX1_drums_27 (by decide) ?_
      exact H
    · replace H := H.2 c
      refine AW_iinc (x' := l1 + 1) (L' := [some (.ref 30), some (.int (l1 + 1)), some (.int l2)]) dX1_drums_21 rfl rfl (by decide) rfl ?_
      refine AW_iinc (x' := l2 + 1) (L' := [some (.ref 30), some (.int (l1 + 1)), some (.int (l2 + 1))]) dX1_drums_24 rfl rfl (by decide) rfl ?_
      refine AW_goto (tgt := 4) dX1_drums_27 (by decide) ?_
      exact H
set_option maxRecDepth 100000 in
set_option maxHeartbeats 4000000 in
theorem vc_X1_reach {G : xG} {d : Nat} {z : xZ} {v : xS} {Q : Int32 → xS → Prop} (B : Base z) {xa : Int32} 
    (H : (oX1_isBand G d [(.ref 30), (.int xa)] z v (fun r2 v1 => ((¬ r2 = 0 → (vp_in xa 3 ∧ ((¬ (v1.1 34 xa.toNatClampNeg) = 4 → (vp_in xa 3 ∧ Q (v1.1 33 xa.toNatClampNeg) v1)) ∧ ((v1.1 34 xa.toNatClampNeg) = 4 → (vp_in xa 3 ∧ Q (2 * (v1.1 33 xa.toNatClampNeg)) v1))))) ∧ (r2 = 0 → Q 0 v1))))) :
    oX1_reach G (d + 1) [(.ref 30), (.int xa)] z v Q := by
  refine Ok_of (own := RX1) (by decide) rfl (Nat.le_of_ble_eq_true rfl) ?_
  show AW G (d + 1) 0 0 yX1_reach cX1_reach 2 (some .int) RX1 0 0 0 [some (.ref 30), some (.int xa)] [] z v _
  refine AW_aload_n dX1_reach_0 rfl rfl ?_
  refine AW_iload_n dX1_reach_1 rfl rfl ?_
  refine AW_vI (as := [(.int xa)]) (st := []) dX1_reach_2 (bI_30 B) (by decide) rfl mv_X1_isBand mi_X1_isBand ml_X1_67 (Nat.le_of_ble_eq_true rfl) rfl (Nat.le_refl 0) (Nat.le_refl 0) H (fun r2 v1 H => ?_)
  refine AW_if_ne (tgt := 10) dX1_reach_5 (by decide) (fun c => ?_) (fun c => ?_)
  · replace H := H.1 c
    refine AW_aload_n dX1_reach_10 rfl rfl ?_
    refine AW_getR dX1_reach_11 (bI_30 B) fl_X1_34 (bR_30_7 B) ?_
    refine AW_iload_n dX1_reach_14 rfl rfl ?_
    have hi3 := H.1
    replace H := H.2
    refine AW_iald dX1_reach_15 (bI_34 B) hi3 ?_
    refine AW_iconst (x := 4) dX1_reach_16 (by decide) ?_
    refine AW_icmp_ne (tgt := 31) dX1_reach_17 (by decide) (fun c => ?_) (fun c => ?_)
    · replace H := H.1 c
      refine AW_aload_n dX1_reach_31 rfl rfl ?_
      refine AW_getR dX1_reach_32 (bI_30 B) fl_X1_31 (bR_30_6 B) ?_
      refine AW_iload_n dX1_reach_35 rfl rfl ?_
      have hi4 := H.1
      replace H := H.2
      refine AW_iald dX1_reach_36 (bI_33 B) hi4 ?_
      exact AW_rI dX1_reach_37 rfl rfl H
    · replace H := H.2 c
      refine AW_iconst (x := 2) dX1_reach_20 (by decide) ?_
      refine AW_aload_n dX1_reach_21 rfl rfl ?_
      refine AW_getR dX1_reach_22 (bI_30 B) fl_X1_31 (bR_30_6 B) ?_
      refine AW_iload_n dX1_reach_25 rfl rfl ?_
      have hi5 := H.1
      replace H := H.2
      refine AW_iald dX1_reach_26 (bI_33 B) hi5 ?_
      refine AW_imul dX1_reach_27 ?_
      refine AW_goto (tgt := 37) dX1_reach_28 (by decide) ?_
      exact AW_rI dX1_reach_37 rfl rfl H
  · replace H := H.2 c
    refine AW_iconst (x := 0) dX1_reach_8 (by decide) ?_
    exact AW_rI dX1_reach_9 rfl rfl H
set_option maxRecDepth 100000 in
set_option maxHeartbeats 4000000 in
theorem vc_X1_isHeard {G : xG} {d : Nat} {z : xZ} {v : xS} {Q : Int32 → xS → Prop} (B : Base z) {xa : Int32} {xb : Int32} 
    (H : (oX1_isBand G d [(.ref 30), (.int xa)] z v (fun r2 v1 => ((r2 = 0 → Q 0 v1) ∧ (¬ r2 = 0 → (vp_in xa 3 ∧ ((xb = (v1.1 32 xa.toNatClampNeg) → Q 0 v1) ∧ (¬ xb = (v1.1 32 xa.toNatClampNeg) → (vp_in xa 3 ∧ (oX1_reach G d [(.ref 30), (.int xa)] z v1 (fun r6 v5 => ((r6 < (if 0 ≤ (xb - (v1.1 32 xa.toNatClampNeg)) then (xb - (v1.1 32 xa.toNatClampNeg)) else 0 - (xb - (v1.1 32 xa.toNatClampNeg))) → Q 0 v5) ∧ (¬ r6 < (if 0 ≤ (xb - (v1.1 32 xa.toNatClampNeg)) then (xb - (v1.1 32 xa.toNatClampNeg)) else 0 - (xb - (v1.1 32 xa.toNatClampNeg))) → Q 1 v5))))))))))))) :
    oX1_isHeard G (d + 1) [(.ref 30), (.int xa), (.int xb)] z v Q := by
  refine Ok_of (own := RX1) (by decide) rfl (Nat.le_of_ble_eq_true rfl) ?_
  show AW G (d + 1) 0 0 yX1_isHeard cX1_isHeard 3 (some .boolean) RX1 0 0 0 [some (.ref 30), some (.int xa), some (.int xb)] [] z v _
  refine AW_aload_n dX1_isHeard_0 rfl rfl ?_
  refine AW_iload_n dX1_isHeard_1 rfl rfl ?_
  refine AW_vI (as := [(.int xa)]) (st := []) dX1_isHeard_2 (bI_30 B) (by decide) rfl mv_X1_isBand mi_X1_isBand ml_X1_67 (Nat.le_of_ble_eq_true rfl) rfl (Nat.le_refl 0) (Nat.le_refl 0) H (fun r2 v1 H => ?_)
  refine AW_if_eq (tgt := 41) dX1_isHeard_5 (by decide) (fun c => ?_) (fun c => ?_)
  · replace H := H.1 c
    refine AW_iconst (x := 0) dX1_isHeard_41 (by decide) ?_
    exact AW_rI dX1_isHeard_42 rfl (by decide) H
  · replace H := H.2 c
    refine AW_iload_n dX1_isHeard_8 rfl rfl ?_
    refine AW_aload_n dX1_isHeard_9 rfl rfl ?_
    refine AW_getR dX1_isHeard_10 (bI_30 B) fl_X1_28 (bR_30_5 B) ?_
    refine AW_iload_n dX1_isHeard_13 rfl rfl ?_
    have hi3 := H.1
    replace H := H.2
    refine AW_iald dX1_isHeard_14 (bI_32 B) hi3 ?_
    refine AW_icmp_eq (tgt := 41) dX1_isHeard_15 (by decide) (fun c => ?_) (fun c => ?_)
    · replace H := H.1 c
      refine AW_iconst (x := 0) dX1_isHeard_41 (by decide) ?_
      exact AW_rI dX1_isHeard_42 rfl (by decide) H
    · replace H := H.2 c
      refine AW_iload_n dX1_isHeard_18 rfl rfl ?_
      refine AW_aload_n dX1_isHeard_19 rfl rfl ?_
      refine AW_getR dX1_isHeard_20 (bI_30 B) fl_X1_28 (bR_30_5 B) ?_
      refine AW_iload_n dX1_isHeard_23 rfl rfl ?_
      have hi4 := H.1
      replace H := H.2
      refine AW_iald dX1_isHeard_24 (bI_32 B) hi4 ?_
      refine AW_isub dX1_isHeard_25 ?_
      refine AW_abs dX1_isHeard_26 ml_X1_82 w_abs (Nat.succ_pos _) (Nat.le_of_ble_eq_true rfl) (Nat.le_refl 0) (Nat.le_refl 0) ?_
      refine AW_aload_n dX1_isHeard_29 rfl rfl ?_
      refine AW_iload_n dX1_isHeard_30 rfl rfl ?_
      refine AW_vI (as := [(.int xa)]) (st := [(.int (if 0 ≤ (xb - (v1.1 32 xa.toNatClampNeg)) then (xb - (v1.1 32 xa.toNatClampNeg)) else 0 - (xb - (v1.1 32 xa.toNatClampNeg))))]) dX1_isHeard_31 (bI_30 B) (by decide) rfl mv_X1_reach mi_X1_reach ml_X1_88 (Nat.le_of_ble_eq_true rfl) rfl (Nat.le_refl 0) (Nat.le_refl 0) H (fun r6 v5 H => ?_)
      refine AW_icmp_gt (tgt := 41) dX1_isHeard_34 (by decide) (fun c => ?_) (fun c => ?_)
      · replace H := H.1 c
        refine AW_iconst (x := 0) dX1_isHeard_41 (by decide) ?_
        exact AW_rI dX1_isHeard_42 rfl (by decide) H
      · replace H := H.2 c
        refine AW_iconst (x := 1) dX1_isHeard_37 (by decide) ?_
        refine AW_goto (tgt := 42) dX1_isHeard_38 (by decide) ?_
        exact AW_rI dX1_isHeard_42 rfl (by decide) H
set_option maxRecDepth 100000 in
set_option maxHeartbeats 4000000 in
theorem vc_X1_heardOn {G : xG} {d : Nat} {z : xZ} {v : xS} {Q : Int32 → xS → Prop} (B : Base z) {xa : Int32} 
    (H : aX1_heardOn G (d + 1) 4 [some (.ref 30), some (.int xa), some (.int 0), some (.int 0)] [] z v Q) :
    oX1_heardOn G (d + 1) [(.ref 30), (.int xa)] z v Q := by
  refine Ok_of (own := RX1) (by decide) rfl (Nat.le_of_ble_eq_true rfl) ?_
  show AW G (d + 1) 0 0 yX1_heardOn cX1_heardOn 4 (some .int) RX1 0 0 0 [some (.ref 30), some (.int xa), none, none] [] z v _
  refine AW_iconst (x := 0) dX1_heardOn_0 (by decide) ?_
  refine AW_istore_n (L' := [some (.ref 30), some (.int xa), some (.int 0), none]) dX1_heardOn_1 rfl (by decide) rfl ?_
  refine AW_iconst (x := 0) dX1_heardOn_2 (by decide) ?_
  refine AW_istore_n (L' := [some (.ref 30), some (.int xa), some (.int 0), some (.int 0)]) dX1_heardOn_3 rfl (by decide) rfl ?_
  exact H
set_option maxRecDepth 100000 in
set_option maxHeartbeats 4000000 in
theorem vc_X1_heardOn_4 {G : xG} {d : Nat} {z : xZ} {v : xS} {Q : Int32 → xS → Prop} (B : Base z)  {l1 : Int32} {l2 : Int32} {l3 : Int32} 
    (H : (((v.1 30 0) ≤ l3 → Q l2 v) ∧ (¬ (v.1 30 0) ≤ l3 → (oX1_isHeard G d [(.ref 30), (.int l1), (.int l3)] z v (fun r2 v1 => ((r2 = 0 → aX1_heardOn G (d + 1) 4 [some (.ref 30), some (.int l1), some (.int l2), some (.int (l3 + 1))] [] z v1 Q) ∧ (¬ r2 = 0 → aX1_heardOn G (d + 1) 4 [some (.ref 30), some (.int l1), some (.int (l2 ||| (1 <<< (l3 &&& 31)))), some (.int (l3 + 1))] [] z v1 Q))))))) :
    aX1_heardOn G (d + 1) 4 [some (.ref 30), some (.int l1), some (.int l2), some (.int l3)] [] z v Q := by
  refine AW_iload_n dX1_heardOn_4 rfl rfl ?_
  refine AW_aload_n dX1_heardOn_5 rfl rfl ?_
  refine AW_getI dX1_heardOn_6 (bI_30 B) fl_X1_9 ?_
  refine AW_icmp_ge (tgt := 33) dX1_heardOn_9 (by decide) (fun c => ?_) (fun c => ?_)
  · replace H := H.1 c
    refine AW_iload_n dX1_heardOn_33 rfl rfl ?_
    exact AW_rI dX1_heardOn_34 rfl rfl H
  · replace H := H.2 c
    refine AW_aload_n dX1_heardOn_12 rfl rfl ?_
    refine AW_iload_n dX1_heardOn_13 rfl rfl ?_
    refine AW_iload_n dX1_heardOn_14 rfl rfl ?_
    refine AW_vI (as := [(.int l1), (.int l3)]) (st := []) dX1_heardOn_15 (bI_30 B) (by decide) rfl mv_X1_isHeard mi_X1_isHeard ml_X1_91 (Nat.le_of_ble_eq_true rfl) rfl (Nat.le_refl 0) (Nat.le_refl 0) H (fun r2 v1 H => ?_)
    refine AW_if_eq (tgt := 27) dX1_heardOn_18 (by decide) (fun c => ?_) (fun c => ?_)
    · replace H := H.1 c
      refine AW_iinc (x' := l3 + 1) (L' := [some (.ref 30), some (.int l1), some (.int l2), some (.int (l3 + 1))]) dX1_heardOn_27 rfl rfl (by decide) rfl ?_
      refine AW_goto (tgt := 4) dX1_heardOn_30 (by decide) ?_
      exact H
    · replace H := H.2 c
      refine AW_iload_n dX1_heardOn_21 rfl rfl ?_
      refine AW_iconst (x := 1) dX1_heardOn_22 (by decide) ?_
      refine AW_iload_n dX1_heardOn_23 rfl rfl ?_
      refine AW_ishl dX1_heardOn_24 ?_
      refine AW_ior dX1_heardOn_25 ?_
      refine AW_istore_n (L' := [some (.ref 30), some (.int l1), some (.int (l2 ||| (1 <<< (l3 &&& 31)))), some (.int l3)]) dX1_heardOn_26 rfl (by decide) rfl ?_
      refine AW_iinc (x' := l3 + 1) (L' := [some (.ref 30), some (.int l1), some (.int (l2 ||| (1 <<< (l3 &&& 31)))), some (.int (l3 + 1))]) dX1_heardOn_27 rfl rfl (by decide) rfl ?_
      refine AW_goto (tgt := 4) dX1_heardOn_30 (by decide) ?_
      exact H
set_option maxRecDepth 100000 in
set_option maxHeartbeats 4000000 in
theorem vc_X1_lowHeard {G : xG} {d : Nat} {z : xZ} {v : xS} {Q : Int32 → xS → Prop} (B : Base z) {xa : Int32} 
    (H : aX1_lowHeard G (d + 1) 4 [some (.ref 30), some (.int xa), some (.int 0), some (.int 0)] [] z v Q) :
    oX1_lowHeard G (d + 1) [(.ref 30), (.int xa)] z v Q := by
  refine Ok_of (own := RX1) (by decide) rfl (Nat.le_of_ble_eq_true rfl) ?_
  show AW G (d + 1) 0 0 yX1_lowHeard cX1_lowHeard 4 (some .int) RX1 0 0 0 [some (.ref 30), some (.int xa), none, none] [] z v _
  refine AW_iconst (x := 0) dX1_lowHeard_0 (by decide) ?_
  refine AW_istore_n (L' := [some (.ref 30), some (.int xa), some (.int 0), none]) dX1_lowHeard_1 rfl (by decide) rfl ?_
  refine AW_iconst (x := 0) dX1_lowHeard_2 (by decide) ?_
  refine AW_istore_n (L' := [some (.ref 30), some (.int xa), some (.int 0), some (.int 0)]) dX1_lowHeard_3 rfl (by decide) rfl ?_
  exact H
set_option maxRecDepth 100000 in
set_option maxHeartbeats 4000000 in
theorem vc_X1_lowHeard_4 {G : xG} {d : Nat} {z : xZ} {v : xS} {Q : Int32 → xS → Prop} (B : Base z)  {l1 : Int32} {l2 : Int32} {l3 : Int32} 
    (H : (((v.1 30 0) ≤ l3 → Q l2 v) ∧ (¬ (v.1 30 0) ≤ l3 → (oX1_isHeard G d [(.ref 30), (.int l1), (.int l3)] z v (fun r2 v1 => ((r2 = 0 → aX1_lowHeard G (d + 1) 4 [some (.ref 30), some (.int l1), some (.int l2), some (.int (l3 + 1))] [] z v1 Q) ∧ (¬ r2 = 0 → (vp_in l3 10 ∧ ((((xSv 3).getD ((2 : Int32).toNatClampNeg) 0) ≤ (v1.1 31 l3.toNatClampNeg) → aX1_lowHeard G (d + 1) 4 [some (.ref 30), some (.int l1), some (.int l2), some (.int (l3 + 1))] [] z v1 Q) ∧ (¬ ((xSv 3).getD ((2 : Int32).toNatClampNeg) 0) ≤ (v1.1 31 l3.toNatClampNeg) → aX1_lowHeard G (d + 1) 4 [some (.ref 30), some (.int l1), some (.int (l2 + 1)), some (.int (l3 + 1))] [] z v1 Q)))))))))) :
    aX1_lowHeard G (d + 1) 4 [some (.ref 30), some (.int l1), some (.int l2), some (.int l3)] [] z v Q := by
  refine AW_iload_n dX1_lowHeard_4 rfl rfl ?_
  refine AW_aload_n dX1_lowHeard_5 rfl rfl ?_
  refine AW_getI dX1_lowHeard_6 (bI_30 B) fl_X1_9 ?_
  refine AW_icmp_ge (tgt := 44) dX1_lowHeard_9 (by decide) (fun c => ?_) (fun c => ?_)
  · replace H := H.1 c
    refine AW_iload_n dX1_lowHeard_44 rfl rfl ?_
    exact AW_rI dX1_lowHeard_45 rfl rfl H
  · replace H := H.2 c
    refine AW_aload_n dX1_lowHeard_12 rfl rfl ?_
    refine AW_iload_n dX1_lowHeard_13 rfl rfl ?_
    refine AW_iload_n dX1_lowHeard_14 rfl rfl ?_
    refine AW_vI (as := [(.int l1), (.int l3)]) (st := []) dX1_lowHeard_15 (bI_30 B) (by decide) rfl mv_X1_isHeard mi_X1_isHeard ml_X1_91 (Nat.le_of_ble_eq_true rfl) rfl (Nat.le_refl 0) (Nat.le_refl 0) H (fun r2 v1 H => ?_)
    refine AW_if_eq (tgt := 38) dX1_lowHeard_18 (by decide) (fun c => ?_) (fun c => ?_)
    · replace H := H.1 c
      refine AW_iinc (x' := l3 + 1) (L' := [some (.ref 30), some (.int l1), some (.int l2), some (.int (l3 + 1))]) dX1_lowHeard_38 rfl rfl (by decide) rfl ?_
      refine AW_goto (tgt := 4) dX1_lowHeard_41 (by decide) ?_
      exact H
    · replace H := H.2 c
      refine AW_aload_n dX1_lowHeard_21 rfl rfl ?_
      refine AW_getR dX1_lowHeard_22 (bI_30 B) fl_X1_24 (bR_30_4 B) ?_
      refine AW_iload_n dX1_lowHeard_25 rfl rfl ?_
      have hi3 := H.1
      replace H := H.2
      refine AW_iald dX1_lowHeard_26 (bI_31 B) hi3 ?_
      refine AW_gets (i := 3) dX1_lowHeard_27 (by decide) (by decide +kernel) ?_
      refine AW_iconst (x := 2) dX1_lowHeard_30 (by decide) ?_
      refine AW_tald (i := 3) dX1_lowHeard_31 (by decide) (by unfold vp_in; decide) rfl ?_
      refine AW_icmp_ge (tgt := 38) dX1_lowHeard_32 (by decide) (fun c => ?_) (fun c => ?_)
      · replace H := H.1 c
        refine AW_iinc (x' := l3 + 1) (L' := [some (.ref 30), some (.int l1), some (.int l2), some (.int (l3 + 1))]) dX1_lowHeard_38 rfl rfl (by decide) rfl ?_
        refine AW_goto (tgt := 4) dX1_lowHeard_41 (by decide) ?_
        exact H
      · replace H := H.2 c
        refine AW_iinc (x' := l2 + 1) (L' := [some (.ref 30), some (.int l1), some (.int (l2 + 1)), some (.int l3)]) dX1_lowHeard_35 rfl rfl (by decide) rfl ?_
        refine AW_iinc (x' := l3 + 1) (L' := [some (.ref 30), some (.int l1), some (.int (l2 + 1)), some (.int (l3 + 1))]) dX1_lowHeard_38 rfl rfl (by decide) rfl ?_
        refine AW_goto (tgt := 4) dX1_lowHeard_41 (by decide) ?_
        exact H
set_option maxRecDepth 100000 in
set_option maxHeartbeats 4000000 in
theorem vc_X1_bandTells {G : xG} {d : Nat} {z : xZ} {v : xS} {Q : Int32 → xS → Prop} (B : Base z) {xa : Int32} {xb : Int32} 
    (H : (oX1_isBand G d [(.ref 30), (.int xa)] z v (fun r2 v1 => ((¬ r2 = 0 → (((xb.toInt < 0 ∨ 3 < xb.toInt) → (vp_in xa 3 ∧ Q (v1.1 35 xa.toNatClampNeg) v1)) ∧ (xb = 0 → (vp_in xa 3 ∧ Q (v1.1 34 xa.toNatClampNeg) v1)) ∧ (xb = 1 → (vp_in xa 3 ∧ Q (v1.1 32 xa.toNatClampNeg) v1)) ∧ (xb = 2 → (vp_in xa 3 ∧ Q (v1.1 33 xa.toNatClampNeg) v1)) ∧ (xb = 3 → (oX1_heardOn G d [(.ref 30), (.int xa)] z v1 (fun r8 v7 => Q r8 v7))))) ∧ (r2 = 0 → Q 0 v1))))) :
    oX1_bandTells G (d + 1) [(.ref 30), (.int xa), (.int xb)] z v Q := by
  refine Ok_of (own := RX1) (by decide) rfl (Nat.le_of_ble_eq_true rfl) ?_
  show AW G (d + 1) 0 0 yX1_bandTells cX1_bandTells 3 (some .int) RX1 0 0 0 [some (.ref 30), some (.int xa), some (.int xb)] [] z v _
  refine AW_aload_n dX1_bandTells_0 rfl rfl ?_
  refine AW_iload_n dX1_bandTells_1 rfl rfl ?_
  refine AW_vI (as := [(.int xa)]) (st := []) dX1_bandTells_2 (bI_30 B) (by decide) rfl mv_X1_isBand mi_X1_isBand ml_X1_67 (Nat.le_of_ble_eq_true rfl) rfl (Nat.le_refl 0) (Nat.le_refl 0) H (fun r2 v1 H => ?_)
  refine AW_if_ne (tgt := 10) dX1_bandTells_5 (by decide) (fun c => ?_) (fun c => ?_)
  · replace H := H.1 c
    refine AW_iload_n dX1_bandTells_10 rfl rfl ?_
    by_cases cz : xb.toInt < 0 ∨ 3 < xb.toInt
    · refine AW_tableOut (tgt := 67) dX1_bandTells_11 cz (by decide) ?_
      replace H := H.1 cz
      refine AW_aload_n dX1_bandTells_67 rfl rfl ?_
      refine AW_getR dX1_bandTells_68 (bI_30 B) fl_X1_37 (bR_30_8 B) ?_
      refine AW_iload_n dX1_bandTells_71 rfl rfl ?_
      have hi3 := H.1
      replace H := H.2
      refine AW_iald dX1_bandTells_72 (bI_35 B) hi3 ?_
      exact AW_rI dX1_bandTells_73 rfl rfl H
    · have cy : xb = 0 ∨ xb = 1 ∨ xb = 2 ∨ xb = 3 := xsw_0_3 cz
      replace H := H.2
      rcases cy with cy | cy
      · replace H := H.1 cy
        refine AW_tableIn (off := 29) (tgt := 40) dX1_bandTells_11 (by rw [cy]; decide) (by rw [cy]; decide) (by rw [cy]; decide) (by decide) ?_
        refine AW_aload_n dX1_bandTells_40 rfl rfl ?_
        refine AW_getR dX1_bandTells_41 (bI_30 B) fl_X1_34 (bR_30_7 B) ?_
        refine AW_iload_n dX1_bandTells_44 rfl rfl ?_
        have hi4 := H.1
        replace H := H.2
        refine AW_iald dX1_bandTells_45 (bI_34 B) hi4 ?_
        exact AW_rI dX1_bandTells_46 rfl rfl H
      rcases cy with cy | cy
      · replace H := H.2.1 cy
        refine AW_tableIn (off := 36) (tgt := 47) dX1_bandTells_11 (by rw [cy]; decide) (by rw [cy]; decide) (by rw [cy]; decide) (by decide) ?_
        refine AW_aload_n dX1_bandTells_47 rfl rfl ?_
        refine AW_getR dX1_bandTells_48 (bI_30 B) fl_X1_28 (bR_30_5 B) ?_
        refine AW_iload_n dX1_bandTells_51 rfl rfl ?_
        have hi5 := H.1
        replace H := H.2
        refine AW_iald dX1_bandTells_52 (bI_32 B) hi5 ?_
        exact AW_rI dX1_bandTells_53 rfl rfl H
      rcases cy with cy | cy
      · replace H := H.2.2.1 cy
        refine AW_tableIn (off := 43) (tgt := 54) dX1_bandTells_11 (by rw [cy]; decide) (by rw [cy]; decide) (by rw [cy]; decide) (by decide) ?_
        refine AW_aload_n dX1_bandTells_54 rfl rfl ?_
        refine AW_getR dX1_bandTells_55 (bI_30 B) fl_X1_31 (bR_30_6 B) ?_
        refine AW_iload_n dX1_bandTells_58 rfl rfl ?_
        have hi6 := H.1
        replace H := H.2
        refine AW_iald dX1_bandTells_59 (bI_33 B) hi6 ?_
        exact AW_rI dX1_bandTells_60 rfl rfl H
      · replace H := H.2.2.2 cy
        refine AW_tableIn (off := 50) (tgt := 61) dX1_bandTells_11 (by rw [cy]; decide) (by rw [cy]; decide) (by rw [cy]; decide) (by decide) ?_
        refine AW_aload_n dX1_bandTells_61 rfl rfl ?_
        refine AW_iload_n dX1_bandTells_62 rfl rfl ?_
        refine AW_vI (as := [(.int xa)]) (st := []) dX1_bandTells_63 (bI_30 B) (by decide) rfl mv_X1_heardOn mi_X1_heardOn ml_X1_97 (Nat.le_of_ble_eq_true rfl) rfl (Nat.le_refl 0) (Nat.le_refl 0) H (fun r8 v7 H => ?_)
        exact AW_rI dX1_bandTells_66 rfl rfl H
  · replace H := H.2 c
    refine AW_iconst (x := 0) dX1_bandTells_8 (by decide) ?_
    exact AW_rI dX1_bandTells_9 rfl rfl H
set_option maxRecDepth 100000 in
set_option maxHeartbeats 4000000 in
theorem vc_X1_allInches {G : xG} {d : Nat} {z : xZ} {v : xS} {Q : Int32 → xS → Prop} (B : Base z)  
    (H : aX1_allInches G (d + 1) 4 [some (.ref 30), some (.int 0), some (.int 0)] [] z v Q) :
    oX1_allInches G (d + 1) [(.ref 30)] z v Q := by
  refine Ok_of (own := RX1) (by decide) rfl (Nat.le_of_ble_eq_true rfl) ?_
  show AW G (d + 1) 0 0 yX1_allInches cX1_allInches 3 (some .int) RX1 0 0 0 [some (.ref 30), none, none] [] z v _
  refine AW_iconst (x := 0) dX1_allInches_0 (by decide) ?_
  refine AW_istore_n (L' := [some (.ref 30), some (.int 0), none]) dX1_allInches_1 rfl (by decide) rfl ?_
  refine AW_iconst (x := 0) dX1_allInches_2 (by decide) ?_
  refine AW_istore_n (L' := [some (.ref 30), some (.int 0), some (.int 0)]) dX1_allInches_3 rfl (by decide) rfl ?_
  exact H
set_option maxRecDepth 100000 in
set_option maxHeartbeats 4000000 in
theorem vc_X1_allInches_4 {G : xG} {d : Nat} {z : xZ} {v : xS} {Q : Int32 → xS → Prop} (B : Base z)  {l1 : Int32} {l2 : Int32} 
    (H : (((v.1 30 0) ≤ l2 → Q l1 v) ∧ (¬ (v.1 30 0) ≤ l2 → (vp_in l2 10 ∧ aX1_allInches G (d + 1) 4 [some (.ref 30), some (.int (l1 + (v.1 31 l2.toNatClampNeg))), some (.int (l2 + 1))] [] z v Q)))) :
    aX1_allInches G (d + 1) 4 [some (.ref 30), some (.int l1), some (.int l2)] [] z v Q := by
  refine AW_iload_n dX1_allInches_4 rfl rfl ?_
  refine AW_aload_n dX1_allInches_5 rfl rfl ?_
  refine AW_getI dX1_allInches_6 (bI_30 B) fl_X1_9 ?_
  refine AW_icmp_ge (tgt := 27) dX1_allInches_9 (by decide) (fun c => ?_) (fun c => ?_)
  · replace H := H.1 c
    refine AW_iload_n dX1_allInches_27 rfl rfl ?_
    exact AW_rI dX1_allInches_28 rfl rfl H
  · replace H := H.2 c
    refine AW_iload_n dX1_allInches_12 rfl rfl ?_
    refine AW_aload_n dX1_allInches_13 rfl rfl ?_
    refine AW_getR dX1_allInches_14 (bI_30 B) fl_X1_24 (bR_30_4 B) ?_
    refine AW_iload_n dX1_allInches_17 rfl rfl ?_
    have hi1 := H.1
    replace H := H.2
    refine AW_iald dX1_allInches_18 (bI_31 B) hi1 ?_
    refine AW_iadd dX1_allInches_19 ?_
    refine AW_istore_n (L' := [some (.ref 30), some (.int (l1 + (v.1 31 l2.toNatClampNeg))), some (.int l2)]) dX1_allInches_20 rfl (by decide) rfl ?_
    refine AW_iinc (x' := l2 + 1) (L' := [some (.ref 30), some (.int (l1 + (v.1 31 l2.toNatClampNeg))), some (.int (l2 + 1))]) dX1_allInches_21 rfl rfl (by decide) rfl ?_
    refine AW_goto (tgt := 4) dX1_allInches_24 (by decide) ?_
    exact H
set_option maxRecDepth 100000 in
set_option maxHeartbeats 4000000 in
theorem vc_X1_firstHighest {G : xG} {d : Nat} {z : xZ} {v : xS} {Q : Int32 → xS → Prop} (B : Base z) {g : Nat} {xa : Int32} {xb : Int32} (hg : xin z g 10 10)
    (H : aX1_firstHighest G (d + 1) 8 [some (.ref 30), some (.ref g), some (.int xa), some (.int xb), some (.int xa), some (.int (xa + 1))] [] z v Q) :
    oX1_firstHighest G (d + 1) [(.ref 30), (.ref g), (.int xa), (.int xb)] z v Q := by
  refine Ok_of (own := RX1) (by decide) rfl (Nat.le_of_ble_eq_true rfl) ?_
  show AW G (d + 1) 0 0 yX1_firstHighest cX1_firstHighest 6 (some .int) RX1 0 0 0 [some (.ref 30), some (.ref g), some (.int xa), some (.int xb), none, none] [] z v _
  refine AW_iload_n dX1_firstHighest_0 rfl rfl ?_
  refine AW_istore (L' := [some (.ref 30), some (.ref g), some (.int xa), some (.int xb), some (.int xa), none]) dX1_firstHighest_1 (by decide) rfl ?_
  refine AW_iload_n dX1_firstHighest_3 rfl rfl ?_
  refine AW_iconst (x := 1) dX1_firstHighest_4 (by decide) ?_
  refine AW_iadd dX1_firstHighest_5 ?_
  refine AW_istore (L' := [some (.ref 30), some (.ref g), some (.int xa), some (.int xb), some (.int xa), some (.int (xa + 1))]) dX1_firstHighest_6 (by decide) rfl ?_
  exact H
set_option maxRecDepth 100000 in
set_option maxHeartbeats 4000000 in
theorem vc_X1_firstHighest_8 {G : xG} {d : Nat} {z : xZ} {v : xS} {Q : Int32 → xS → Prop} (B : Base z) {g : Nat} {l2 : Int32} {l3 : Int32} {l4 : Int32} {l5 : Int32} (hg : xin z g 10 10)
    (H : ((l3 < l5 → Q l4 v) ∧ (¬ l3 < l5 → (oX1_isSpot G d [(.ref 30), (.int l5)] z v (fun r2 v1 => ((r2 = 0 → Q l4 v1) ∧ (¬ r2 = 0 → (vp_in l5 10 ∧ (vp_in l4 10 ∧ (((v1.1 g l5.toNatClampNeg) ≤ (v1.1 g l4.toNatClampNeg) → aX1_firstHighest G (d + 1) 8 [some (.ref 30), some (.ref g), some (.int l2), some (.int l3), some (.int l4), some (.int (l5 + 1))] [] z v1 Q) ∧ (¬ (v1.1 g l5.toNatClampNeg) ≤ (v1.1 g l4.toNatClampNeg) → aX1_firstHighest G (d + 1) 8 [some (.ref 30), some (.ref g), some (.int l2), some (.int l3), some (.int l5), some (.int (l5 + 1))] [] z v1 Q))))))))))) :
    aX1_firstHighest G (d + 1) 8 [some (.ref 30), some (.ref g), some (.int l2), some (.int l3), some (.int l4), some (.int l5)] [] z v Q := by
  refine AW_iload dX1_firstHighest_8 rfl ?_
  refine AW_iload_n dX1_firstHighest_10 rfl rfl ?_
  refine AW_icmp_gt (tgt := 44) dX1_firstHighest_11 (by decide) (fun c => ?_) (fun c => ?_)
  · replace H := H.1 c
    refine AW_iload dX1_firstHighest_44 rfl ?_
    exact AW_rI dX1_firstHighest_46 rfl rfl H
  · replace H := H.2 c
    refine AW_aload_n dX1_firstHighest_14 rfl rfl ?_
    refine AW_iload dX1_firstHighest_15 rfl ?_
    refine AW_vI (as := [(.int l5)]) (st := []) dX1_firstHighest_17 (bI_30 B) (by decide) rfl mv_X1_isSpot mi_X1_isSpot ml_X1_100 (Nat.le_of_ble_eq_true rfl) rfl (Nat.le_refl 0) (Nat.le_refl 0) H (fun r2 v1 H => ?_)
    refine AW_if_eq (tgt := 44) dX1_firstHighest_20 (by decide) (fun c => ?_) (fun c => ?_)
    · replace H := H.1 c
      refine AW_iload dX1_firstHighest_44 rfl ?_
      exact AW_rI dX1_firstHighest_46 rfl rfl H
    · replace H := H.2 c
      refine AW_aload_n dX1_firstHighest_23 rfl rfl ?_
      refine AW_iload dX1_firstHighest_24 rfl ?_
      have hi3 := H.1
      replace H := H.2
      refine AW_iald dX1_firstHighest_26 hg hi3 ?_
      refine AW_aload_n dX1_firstHighest_27 rfl rfl ?_
      refine AW_iload dX1_firstHighest_28 rfl ?_
      have hi4 := H.1
      replace H := H.2
      refine AW_iald dX1_firstHighest_30 hg hi4 ?_
      refine AW_icmp_le (tgt := 38) dX1_firstHighest_31 (by decide) (fun c => ?_) (fun c => ?_)
      · replace H := H.1 c
        refine AW_iinc (x' := l5 + 1) (L' := [some (.ref 30), some (.ref g), some (.int l2), some (.int l3), some (.int l4), some (.int (l5 + 1))]) dX1_firstHighest_38 rfl rfl (by decide) rfl ?_
        refine AW_goto (tgt := 8) dX1_firstHighest_41 (by decide) ?_
        exact H
      · replace H := H.2 c
        refine AW_iload dX1_firstHighest_34 rfl ?_
        refine AW_istore (L' := [some (.ref 30), some (.ref g), some (.int l2), some (.int l3), some (.int l5), some (.int l5)]) dX1_firstHighest_36 (by decide) rfl ?_
        refine AW_iinc (x' := l5 + 1) (L' := [some (.ref 30), some (.ref g), some (.int l2), some (.int l3), some (.int l5), some (.int (l5 + 1))]) dX1_firstHighest_38 rfl rfl (by decide) rfl ?_
        refine AW_goto (tgt := 8) dX1_firstHighest_41 (by decide) ?_
        exact H
set_option maxRecDepth 100000 in
set_option maxHeartbeats 4000000 in
theorem vc_X1_highestOf {G : xG} {d : Nat} {z : xZ} {v : xS} {Q : Int32 → xS → Prop} (B : Base z) {g : Nat} (hg : xin z g 10 10)
    (H : ((¬ (v.1 30 0) = 0 → (oX1_firstHighest G d [(.ref 30), (.ref g), (.int 0), (.int ((v.1 30 0) - 1))] z v (fun r2 v1 => (vp_in r2 10 ∧ Q (v1.1 g r2.toNatClampNeg) v1)))) ∧ ((v.1 30 0) = 0 → Q 0 v))) :
    oX1_highestOf G (d + 1) [(.ref 30), (.ref g)] z v Q := by
  refine Ok_of (own := RX1) (by decide) rfl (Nat.le_of_ble_eq_true rfl) ?_
  show AW G (d + 1) 0 0 yX1_highestOf cX1_highestOf 2 (some .int) RX1 0 0 0 [some (.ref 30), some (.ref g)] [] z v _
  refine AW_aload_n dX1_highestOf_0 rfl rfl ?_
  refine AW_getI dX1_highestOf_1 (bI_30 B) fl_X1_9 ?_
  refine AW_if_ne (tgt := 11) dX1_highestOf_4 (by decide) (fun c => ?_) (fun c => ?_)
  · replace H := H.1 c
    refine AW_aload_n dX1_highestOf_11 rfl rfl ?_
    refine AW_aload_n dX1_highestOf_12 rfl rfl ?_
    refine AW_aload_n dX1_highestOf_13 rfl rfl ?_
    refine AW_iconst (x := 0) dX1_highestOf_14 (by decide) ?_
    refine AW_aload_n dX1_highestOf_15 rfl rfl ?_
    refine AW_getI dX1_highestOf_16 (bI_30 B) fl_X1_9 ?_
    refine AW_iconst (x := 1) dX1_highestOf_19 (by decide) ?_
    refine AW_isub dX1_highestOf_20 ?_
    refine AW_vI (as := [(.ref g), (.int 0), (.int ((v.1 30 0) - 1))]) (st := [(.ref g)]) dX1_highestOf_21 (bI_30 B) (by decide) rfl mv_X1_firstHighest mi_X1_firstHighest ml_X1_103 (Nat.le_of_ble_eq_true rfl) rfl (Nat.le_refl 0) (Nat.le_refl 0) H (fun r2 v1 H => ?_)
    have hi3 := H.1
    replace H := H.2
    refine AW_iald dX1_highestOf_24 hg hi3 ?_
    exact AW_rI dX1_highestOf_25 rfl rfl H
  · replace H := H.2 c
    refine AW_iconst (x := 0) dX1_highestOf_7 (by decide) ?_
    refine AW_goto (tgt := 25) dX1_highestOf_8 (by decide) ?_
    exact AW_rI dX1_highestOf_25 rfl rfl H
set_option maxRecDepth 100000 in
set_option maxHeartbeats 4000000 in
theorem vc_X1_inchesFrom {G : xG} {d : Nat} {z : xZ} {v : xS} {Q : Int32 → xS → Prop} (B : Base z) {xa : Int32} {xb : Int32} {xc : Int32} 
    (H : (vp_in xa 3 ∧ (((((v.1 30 2) >>> (xb &&& 31)) &&& 1) = 1 → Q 0 v) ∧ (¬ (((v.1 30 2) >>> (xb &&& 31)) &&& 1) = 1 → ((¬ (v.1 34 xa.toNatClampNeg) = 3 → (vp_in (v.1 34 xa.toNatClampNeg) 6 ∧ ((((xSv 3).getD (v.1 34 xa.toNatClampNeg).toNatClampNeg 0) ≤ xc → (vp_in (v.1 34 xa.toNatClampNeg) 6 ∧ ((((xSv 2).getD (v.1 34 xa.toNatClampNeg).toNatClampNeg 0) ≤ xc → (vp_in (v.1 34 xa.toNatClampNeg) 6 ∧ Q ((xSv 2).getD (v.1 34 xa.toNatClampNeg).toNatClampNeg 0) v)) ∧ (¬ ((xSv 2).getD (v.1 34 xa.toNatClampNeg).toNatClampNeg 0) ≤ xc → Q xc v)))) ∧ (¬ ((xSv 3).getD (v.1 34 xa.toNatClampNeg).toNatClampNeg 0) ≤ xc → Q 0 v)))) ∧ ((v.1 34 xa.toNatClampNeg) = 3 → (vp_in xa 3 ∧ (((v.1 32 xa.toNatClampNeg) ≤ xb → (vp_in (v.1 34 xa.toNatClampNeg) 6 ∧ ((((xSv 3).getD (v.1 34 xa.toNatClampNeg).toNatClampNeg 0) ≤ xc → (vp_in (v.1 34 xa.toNatClampNeg) 6 ∧ ((((xSv 2).getD (v.1 34 xa.toNatClampNeg).toNatClampNeg 0) ≤ xc → (vp_in (v.1 34 xa.toNatClampNeg) 6 ∧ Q ((xSv 2).getD (v.1 34 xa.toNatClampNeg).toNatClampNeg 0) v)) ∧ (¬ ((xSv 2).getD (v.1 34 xa.toNatClampNeg).toNatClampNeg 0) ≤ xc → Q xc v)))) ∧ (¬ ((xSv 3).getD (v.1 34 xa.toNatClampNeg).toNatClampNeg 0) ≤ xc → Q 0 v)))) ∧ (¬ (v.1 32 xa.toNatClampNeg) ≤ xb → Q 0 v))))))))) :
    oX1_inchesFrom G (d + 1) [(.ref 30), (.int xa), (.int xb), (.int xc)] z v Q := by
  refine Ok_of (own := RX1) (by decide) rfl (Nat.le_of_ble_eq_true rfl) ?_
  show AW G (d + 1) 0 0 yX1_inchesFrom cX1_inchesFrom 5 (some .int) RX1 0 0 0 [some (.ref 30), some (.int xa), some (.int xb), some (.int xc), none] [] z v _
  refine AW_aload_n dX1_inchesFrom_0 rfl rfl ?_
  refine AW_getR dX1_inchesFrom_1 (bI_30 B) fl_X1_34 (bR_30_7 B) ?_
  refine AW_iload_n dX1_inchesFrom_4 rfl rfl ?_
  have hi1 := H.1
  replace H := H.2
  refine AW_iald dX1_inchesFrom_5 (bI_34 B) hi1 ?_
  refine AW_istore (L' := [some (.ref 30), some (.int xa), some (.int xb), some (.int xc), some (.int (v.1 34 xa.toNatClampNeg))]) dX1_inchesFrom_6 (by decide) rfl ?_
  refine AW_aload_n dX1_inchesFrom_8 rfl rfl ?_
  refine AW_getI dX1_inchesFrom_9 (bI_30 B) fl_X1_18 ?_
  refine AW_iload_n dX1_inchesFrom_12 rfl rfl ?_
  refine AW_ishr dX1_inchesFrom_13 ?_
  refine AW_iconst (x := 1) dX1_inchesFrom_14 (by decide) ?_
  refine AW_iand dX1_inchesFrom_15 ?_
  refine AW_iconst (x := 1) dX1_inchesFrom_16 (by decide) ?_
  refine AW_icmp_eq (tgt := 36) dX1_inchesFrom_17 (by decide) (fun c => ?_) (fun c => ?_)
  · replace H := H.1 c
    refine AW_iconst (x := 0) dX1_inchesFrom_36 (by decide) ?_
    exact AW_rI dX1_inchesFrom_37 rfl rfl H
  · replace H := H.2 c
    refine AW_iload dX1_inchesFrom_20 rfl ?_
    refine AW_iconst (x := 3) dX1_inchesFrom_22 (by decide) ?_
    refine AW_icmp_ne (tgt := 38) dX1_inchesFrom_23 (by decide) (fun c => ?_) (fun c => ?_)
    · replace H := H.1 c
      refine AW_iload_n dX1_inchesFrom_38 rfl rfl ?_
      refine AW_gets (i := 3) dX1_inchesFrom_39 (by decide) (by decide +kernel) ?_
      refine AW_iload dX1_inchesFrom_42 rfl ?_
      have hi2 := H.1
      replace H := H.2
      refine AW_tald (i := 3) dX1_inchesFrom_44 (by decide) hi2 rfl ?_
      refine AW_icmp_ge (tgt := 50) dX1_inchesFrom_45 (by decide) (fun c => ?_) (fun c => ?_)
      · replace H := H.1 c
        refine AW_iload_n dX1_inchesFrom_50 rfl rfl ?_
        refine AW_gets (i := 2) dX1_inchesFrom_51 (by decide) (by decide +kernel) ?_
        refine AW_iload dX1_inchesFrom_54 rfl ?_
        have hi3 := H.1
        replace H := H.2
        refine AW_tald (i := 2) dX1_inchesFrom_56 (by decide) hi3 rfl ?_
        refine AW_icmp_ge (tgt := 64) dX1_inchesFrom_57 (by decide) (fun c => ?_) (fun c => ?_)
        · replace H := H.1 c
          refine AW_gets (i := 2) dX1_inchesFrom_64 (by decide) (by decide +kernel) ?_
          refine AW_iload dX1_inchesFrom_67 rfl ?_
          have hi4 := H.1
          replace H := H.2
          refine AW_tald (i := 2) dX1_inchesFrom_69 (by decide) hi4 rfl ?_
          exact AW_rI dX1_inchesFrom_70 rfl rfl H
        · replace H := H.2 c
          refine AW_iload_n dX1_inchesFrom_60 rfl rfl ?_
          refine AW_goto (tgt := 70) dX1_inchesFrom_61 (by decide) ?_
          exact AW_rI dX1_inchesFrom_70 rfl rfl H
      · replace H := H.2 c
        refine AW_iconst (x := 0) dX1_inchesFrom_48 (by decide) ?_
        exact AW_rI dX1_inchesFrom_49 rfl rfl H
    · replace H := H.2 c
      refine AW_iload_n dX1_inchesFrom_26 rfl rfl ?_
      refine AW_aload_n dX1_inchesFrom_27 rfl rfl ?_
      refine AW_getR dX1_inchesFrom_28 (bI_30 B) fl_X1_28 (bR_30_5 B) ?_
      refine AW_iload_n dX1_inchesFrom_31 rfl rfl ?_
      have hi5 := H.1
      replace H := H.2
      refine AW_iald dX1_inchesFrom_32 (bI_32 B) hi5 ?_
      refine AW_icmp_ge (tgt := 38) dX1_inchesFrom_33 (by decide) (fun c => ?_) (fun c => ?_)
      · replace H := H.1 c
        refine AW_iload_n dX1_inchesFrom_38 rfl rfl ?_
        refine AW_gets (i := 3) dX1_inchesFrom_39 (by decide) (by decide +kernel) ?_
        refine AW_iload dX1_inchesFrom_42 rfl ?_
        have hi6 := H.1
        replace H := H.2
        refine AW_tald (i := 3) dX1_inchesFrom_44 (by decide) hi6 rfl ?_
        refine AW_icmp_ge (tgt := 50) dX1_inchesFrom_45 (by decide) (fun c => ?_) (fun c => ?_)
        · replace H := H.1 c
          refine AW_iload_n dX1_inchesFrom_50 rfl rfl ?_
          refine AW_gets (i := 2) dX1_inchesFrom_51 (by decide) (by decide +kernel) ?_
          refine AW_iload dX1_inchesFrom_54 rfl ?_
          have hi7 := H.1
          replace H := H.2
          refine AW_tald (i := 2) dX1_inchesFrom_56 (by decide) hi7 rfl ?_
          refine AW_icmp_ge (tgt := 64) dX1_inchesFrom_57 (by decide) (fun c => ?_) (fun c => ?_)
          · replace H := H.1 c
            refine AW_gets (i := 2) dX1_inchesFrom_64 (by decide) (by decide +kernel) ?_
            refine AW_iload dX1_inchesFrom_67 rfl ?_
            have hi8 := H.1
            replace H := H.2
            refine AW_tald (i := 2) dX1_inchesFrom_69 (by decide) hi8 rfl ?_
            exact AW_rI dX1_inchesFrom_70 rfl rfl H
          · replace H := H.2 c
            refine AW_iload_n dX1_inchesFrom_60 rfl rfl ?_
            refine AW_goto (tgt := 70) dX1_inchesFrom_61 (by decide) ?_
            exact AW_rI dX1_inchesFrom_70 rfl rfl H
        · replace H := H.2 c
          refine AW_iconst (x := 0) dX1_inchesFrom_48 (by decide) ?_
          exact AW_rI dX1_inchesFrom_49 rfl rfl H
      · replace H := H.2 c
        refine AW_iconst (x := 0) dX1_inchesFrom_36 (by decide) ?_
        exact AW_rI dX1_inchesFrom_37 rfl rfl H
set_option maxRecDepth 100000 in
set_option maxHeartbeats 4000000 in
theorem vc_X1_shift {G : xG} {d : Nat} {z : xZ} {v : xS} {Q : Int32 → xS → Prop} (B : Base z) {g : Nat} {xa : Int32} {xb : Int32} {xc : Int32} (hg : xin z g 10 10)
    (H : (oX1_isSpot G d [(.ref 30), (.int xb)] z v (fun r2 v1 => ((r2 = 0 → Q 0 v1) ∧ (¬ r2 = 0 → (oX1_isSpot G d [(.ref 30), (.int (xb + xc))] z v1 (fun r4 v3 => ((¬ r4 = 0 → (vp_in xb 10 ∧ (oX1_inchesFrom G d [(.ref 30), (.int xa), (.int xb), (.int (v3.1 g xb.toNatClampNeg))] z v3 (fun r7 v6 => (vp_in xb 10 ∧ (vp_in xb 10 ∧ (∀ v10 : xS, v10 = wV v6 g xb.toNatClampNeg ((v6.1 g xb.toNatClampNeg) - r7) → (vp_in (xb + xc) 10 ∧ (vp_in (xb + xc) 10 ∧ (∀ v13 : xS, v13 = wV v10 g (xb + xc).toNatClampNeg ((v10.1 g (xb + xc).toNatClampNeg) + r7) → Q r7 v13)))))))))) ∧ (r4 = 0 → Q 0 v3))))))))) :
    oX1_shift G (d + 1) [(.ref 30), (.ref g), (.int xa), (.int xb), (.int xc)] z v Q := by
  refine Ok_of (own := RX1) (by decide) rfl (Nat.le_of_ble_eq_true rfl) ?_
  show AW G (d + 1) 0 0 yX1_shift cX1_shift 7 (some .int) RX1 0 0 0 [some (.ref 30), some (.ref g), some (.int xa), some (.int xb), some (.int xc), none, none] [] z v _
  refine AW_iload_n dX1_shift_0 rfl rfl ?_
  refine AW_iload dX1_shift_1 rfl ?_
  refine AW_iadd dX1_shift_3 ?_
  refine AW_istore (L' := [some (.ref 30), some (.ref g), some (.int xa), some (.int xb), some (.int xc), some (.int (xb + xc)), none]) dX1_shift_4 (by decide) rfl ?_
  refine AW_aload_n dX1_shift_6 rfl rfl ?_
  refine AW_iload_n dX1_shift_7 rfl rfl ?_
  refine AW_vI (as := [(.int xb)]) (st := []) dX1_shift_8 (bI_30 B) (by decide) rfl mv_X1_isSpot mi_X1_isSpot ml_X1_100 (Nat.le_of_ble_eq_true rfl) rfl (Nat.le_refl 0) (Nat.le_refl 0) H (fun r2 v1 H => ?_)
  refine AW_if_eq (tgt := 23) dX1_shift_11 (by decide) (fun c => ?_) (fun c => ?_)
  · replace H := H.1 c
    refine AW_iconst (x := 0) dX1_shift_23 (by decide) ?_
    exact AW_rI dX1_shift_24 rfl rfl H
  · replace H := H.2 c
    refine AW_aload_n dX1_shift_14 rfl rfl ?_
    refine AW_iload dX1_shift_15 rfl ?_
    refine AW_vI (as := [(.int (xb + xc))]) (st := []) dX1_shift_17 (bI_30 B) (by decide) rfl mv_X1_isSpot mi_X1_isSpot ml_X1_100 (Nat.le_of_ble_eq_true rfl) rfl (Nat.le_refl 0) (Nat.le_refl 0) H (fun r4 v3 H => ?_)
    refine AW_if_ne (tgt := 25) dX1_shift_20 (by decide) (fun c => ?_) (fun c => ?_)
    · replace H := H.1 c
      refine AW_aload_n dX1_shift_25 rfl rfl ?_
      refine AW_iload_n dX1_shift_26 rfl rfl ?_
      refine AW_iload_n dX1_shift_27 rfl rfl ?_
      refine AW_aload_n dX1_shift_28 rfl rfl ?_
      refine AW_iload_n dX1_shift_29 rfl rfl ?_
      have hi5 := H.1
      replace H := H.2
      refine AW_iald dX1_shift_30 hg hi5 ?_
      refine AW_vI (as := [(.int xa), (.int xb), (.int (v3.1 g xb.toNatClampNeg))]) (st := []) dX1_shift_31 (bI_30 B) (by decide) rfl mv_X1_inchesFrom mi_X1_inchesFrom ml_X1_110 (Nat.le_of_ble_eq_true rfl) rfl (Nat.le_refl 0) (Nat.le_refl 0) H (fun r7 v6 H => ?_)
      refine AW_istore (L' := [some (.ref 30), some (.ref g), some (.int xa), some (.int xb), some (.int xc), some (.int (xb + xc)), some (.int r7)]) dX1_shift_34 (by decide) rfl ?_
      refine AW_aload_n dX1_shift_36 rfl rfl ?_
      refine AW_iload_n dX1_shift_37 rfl rfl ?_
      refine AW_dup2 dX1_shift_38 rfl rfl ?_
      have hi8 := H.1
      replace H := H.2
      refine AW_iald dX1_shift_39 hg hi8 ?_
      refine AW_iload dX1_shift_40 rfl ?_
      refine AW_isub dX1_shift_42 ?_
      have hi9 := H.1
      replace H := H.2
      refine AW_iastN dX1_shift_43 hg hi9 (fun v10 hv10 => ?_)
      replace H := H v10 hv10
      refine AW_aload_n dX1_shift_44 rfl rfl ?_
      refine AW_iload dX1_shift_45 rfl ?_
      refine AW_dup2 dX1_shift_47 rfl rfl ?_
      have hi11 := H.1
      replace H := H.2
      refine AW_iald dX1_shift_48 hg hi11 ?_
      refine AW_iload dX1_shift_49 rfl ?_
      refine AW_iadd dX1_shift_51 ?_
      have hi12 := H.1
      replace H := H.2
      refine AW_iastN dX1_shift_52 hg hi12 (fun v13 hv13 => ?_)
      replace H := H v13 hv13
      refine AW_iload dX1_shift_53 rfl ?_
      exact AW_rI dX1_shift_55 rfl rfl H
    · replace H := H.2 c
      refine AW_iconst (x := 0) dX1_shift_23 (by decide) ?_
      exact AW_rI dX1_shift_24 rfl rfl H
set_option maxRecDepth 100000 in
set_option maxHeartbeats 4000000 in
theorem vc_X1_playTune {G : xG} {d : Nat} {z : xZ} {v : xS} {Q : Int32 → xS → Prop} (B : Base z) {g : Nat} {xa : Int32} {xb : Int32} (hg : xin z g 10 10)
    (H : (oX1_isBand G d [(.ref 30), (.int xa)] z v (fun r2 v1 => ((r2 = 0 → Q 0 v1) ∧ (¬ r2 = 0 → ((¬ xb = 0 → (oX1_reach G d [(.ref 30), (.int xa)] z v1 (fun r4 v3 => ((¬ xb = 1 → (vp_in xa 3 ∧ ((¬ (v3.1 34 xa.toNatClampNeg) = 5 → aX1_playTune G (d + 1) 122 [some (.ref 30), some (.ref g), some (.int xa), some (.int xb), some (.int (if ((v3.1 30 0) - 1) < r4 then ((v3.1 30 0) - 1) else r4)), some (.int 0), some (.int (if ((v3.1 30 0) - 1) < r4 then ((v3.1 30 0) - 1) else r4))] [] z v3 Q) ∧ ((v3.1 34 xa.toNatClampNeg) = 5 → aX1_playTune G (d + 1) 64 [some (.ref 30), some (.ref g), some (.int xa), some (.int xb), some (.int (if ((v3.1 30 0) - 1) < r4 then ((v3.1 30 0) - 1) else r4)), some (.int 0), some (.int 1)] [] z v3 Q)))) ∧ (xb = 1 → (vp_in xa 3 ∧ ((¬ (v3.1 34 xa.toNatClampNeg) = 5 → aX1_playTune G (d + 1) 64 [some (.ref 30), some (.ref g), some (.int xa), some (.int xb), some (.int (if ((v3.1 30 0) - 1) < r4 then ((v3.1 30 0) - 1) else r4)), some (.int 0), some (.int 1)] [] z v3 Q) ∧ ((v3.1 34 xa.toNatClampNeg) = 5 → aX1_playTune G (d + 1) 122 [some (.ref 30), some (.ref g), some (.int xa), some (.int xb), some (.int (if ((v3.1 30 0) - 1) < r4 then ((v3.1 30 0) - 1) else r4)), some (.int 0), some (.int (if ((v3.1 30 0) - 1) < r4 then ((v3.1 30 0) - 1) else r4))] [] z v3 Q)))))))) ∧ (xb = 0 → Q 0 v1))))))) :
    oX1_playTune G (d + 1) [(.ref 30), (.ref g), (.int xa), (.int xb)] z v Q := by
  refine Ok_of (own := RX1) (by decide) rfl (Nat.le_of_ble_eq_true rfl) ?_
  show AW G (d + 1) 0 0 yX1_playTune cX1_playTune 7 (some .int) RX1 0 0 0 [some (.ref 30), some (.ref g), some (.int xa), some (.int xb), none, none, none] [] z v _
  refine AW_aload_n dX1_playTune_0 rfl rfl ?_
  refine AW_iload_n dX1_playTune_1 rfl rfl ?_
  refine AW_vI (as := [(.int xa)]) (st := []) dX1_playTune_2 (bI_30 B) (by decide) rfl mv_X1_isBand mi_X1_isBand ml_X1_67 (Nat.le_of_ble_eq_true rfl) rfl (Nat.le_refl 0) (Nat.le_refl 0) H (fun r2 v1 H => ?_)
  refine AW_if_eq (tgt := 12) dX1_playTune_5 (by decide) (fun c => ?_) (fun c => ?_)
  · replace H := H.1 c
    refine AW_iconst (x := 0) dX1_playTune_12 (by decide) ?_
    exact AW_rI dX1_playTune_13 rfl rfl H
  · replace H := H.2 c
    refine AW_iload_n dX1_playTune_8 rfl rfl ?_
    refine AW_if_ne (tgt := 14) dX1_playTune_9 (by decide) (fun c => ?_) (fun c => ?_)
    · replace H := H.1 c
      refine AW_aload_n dX1_playTune_14 rfl rfl ?_
      refine AW_iload_n dX1_playTune_15 rfl rfl ?_
      refine AW_vI (as := [(.int xa)]) (st := []) dX1_playTune_16 (bI_30 B) (by decide) rfl mv_X1_reach mi_X1_reach ml_X1_88 (Nat.le_of_ble_eq_true rfl) rfl (Nat.le_refl 0) (Nat.le_refl 0) H (fun r4 v3 H => ?_)
      refine AW_aload_n dX1_playTune_19 rfl rfl ?_
      refine AW_getI dX1_playTune_20 (bI_30 B) fl_X1_9 ?_
      refine AW_iconst (x := 1) dX1_playTune_23 (by decide) ?_
      refine AW_isub dX1_playTune_24 ?_
      refine AW_min dX1_playTune_25 ml_X1_114 w_min (Nat.succ_pos _) (Nat.le_of_ble_eq_true rfl) (Nat.le_refl 0) (Nat.le_refl 0) ?_
      refine AW_istore (L' := [some (.ref 30), some (.ref g), some (.int xa), some (.int xb), some (.int (if ((v3.1 30 0) - 1) < r4 then ((v3.1 30 0) - 1) else r4)), none, none]) dX1_playTune_28 (by decide) rfl ?_
      refine AW_iconst (x := 0) dX1_playTune_30 (by decide) ?_
      refine AW_istore (L' := [some (.ref 30), some (.ref g), some (.int xa), some (.int xb), some (.int (if ((v3.1 30 0) - 1) < r4 then ((v3.1 30 0) - 1) else r4)), some (.int 0), none]) dX1_playTune_31 (by decide) rfl ?_
      refine AW_iload_n dX1_playTune_33 rfl rfl ?_
      refine AW_iconst (x := 1) dX1_playTune_34 (by decide) ?_
      refine AW_icmp_ne (tgt := 42) dX1_playTune_35 (by decide) (fun c => ?_) (fun c => ?_)
      · replace H := H.1 c
        refine AW_iconst (x := 0) dX1_playTune_42 (by decide) ?_
        refine AW_aload_n dX1_playTune_43 rfl rfl ?_
        refine AW_getR dX1_playTune_44 (bI_30 B) fl_X1_34 (bR_30_7 B) ?_
        refine AW_iload_n dX1_playTune_47 rfl rfl ?_
        have hi5 := H.1
        replace H := H.2
        refine AW_iald dX1_playTune_48 (bI_34 B) hi5 ?_
        refine AW_iconst (x := 5) dX1_playTune_49 (by decide) ?_
        refine AW_icmp_ne (tgt := 57) dX1_playTune_50 (by decide) (fun c => ?_) (fun c => ?_)
        · replace H := H.1 c
          refine AW_iconst (x := 0) dX1_playTune_57 (by decide) ?_
          refine AW_icmp_eq (tgt := 118) dX1_playTune_58 (by decide) (fun _ => ?_) (fun q => absurd (by decide) q)
          refine AW_iload dX1_playTune_118 rfl ?_
          refine AW_istore (L' := [some (.ref 30), some (.ref g), some (.int xa), some (.int xb), some (.int (if ((v3.1 30 0) - 1) < r4 then ((v3.1 30 0) - 1) else r4)), some (.int 0), some (.int (if ((v3.1 30 0) - 1) < r4 then ((v3.1 30 0) - 1) else r4))]) dX1_playTune_120 (by decide) rfl ?_
          exact H
        · replace H := H.2 c
          refine AW_iconst (x := 1) dX1_playTune_53 (by decide) ?_
          refine AW_goto (tgt := 58) dX1_playTune_54 (by decide) ?_
          refine AW_icmp_eq (tgt := 118) dX1_playTune_58 (by decide) (fun q => absurd q (by decide)) (fun _ => ?_)
          refine AW_iconst (x := 1) dX1_playTune_61 (by decide) ?_
          refine AW_istore (L' := [some (.ref 30), some (.ref g), some (.int xa), some (.int xb), some (.int (if ((v3.1 30 0) - 1) < r4 then ((v3.1 30 0) - 1) else r4)), some (.int 0), some (.int 1)]) dX1_playTune_62 (by decide) rfl ?_
          exact H
      · replace H := H.2 c
        refine AW_iconst (x := 1) dX1_playTune_38 (by decide) ?_
        refine AW_goto (tgt := 43) dX1_playTune_39 (by decide) ?_
        refine AW_aload_n dX1_playTune_43 rfl rfl ?_
        refine AW_getR dX1_playTune_44 (bI_30 B) fl_X1_34 (bR_30_7 B) ?_
        refine AW_iload_n dX1_playTune_47 rfl rfl ?_
        have hi6 := H.1
        replace H := H.2
        refine AW_iald dX1_playTune_48 (bI_34 B) hi6 ?_
        refine AW_iconst (x := 5) dX1_playTune_49 (by decide) ?_
        refine AW_icmp_ne (tgt := 57) dX1_playTune_50 (by decide) (fun c => ?_) (fun c => ?_)
        · replace H := H.1 c
          refine AW_iconst (x := 0) dX1_playTune_57 (by decide) ?_
          refine AW_icmp_eq (tgt := 118) dX1_playTune_58 (by decide) (fun q => absurd q (by decide)) (fun _ => ?_)
          refine AW_iconst (x := 1) dX1_playTune_61 (by decide) ?_
          refine AW_istore (L' := [some (.ref 30), some (.ref g), some (.int xa), some (.int xb), some (.int (if ((v3.1 30 0) - 1) < r4 then ((v3.1 30 0) - 1) else r4)), some (.int 0), some (.int 1)]) dX1_playTune_62 (by decide) rfl ?_
          exact H
        · replace H := H.2 c
          refine AW_iconst (x := 1) dX1_playTune_53 (by decide) ?_
          refine AW_goto (tgt := 58) dX1_playTune_54 (by decide) ?_
          refine AW_icmp_eq (tgt := 118) dX1_playTune_58 (by decide) (fun _ => ?_) (fun q => absurd (by decide) q)
          refine AW_iload dX1_playTune_118 rfl ?_
          refine AW_istore (L' := [some (.ref 30), some (.ref g), some (.int xa), some (.int xb), some (.int (if ((v3.1 30 0) - 1) < r4 then ((v3.1 30 0) - 1) else r4)), some (.int 0), some (.int (if ((v3.1 30 0) - 1) < r4 then ((v3.1 30 0) - 1) else r4))]) dX1_playTune_120 (by decide) rfl ?_
          exact H
    · replace H := H.2 c
      refine AW_iconst (x := 0) dX1_playTune_12 (by decide) ?_
      exact AW_rI dX1_playTune_13 rfl rfl H
set_option maxRecDepth 100000 in
set_option maxHeartbeats 4000000 in
theorem vc_X1_playTune_64 {G : xG} {d : Nat} {z : xZ} {v : xS} {Q : Int32 → xS → Prop} (B : Base z) {g : Nat} {l2 : Int32} {l3 : Int32} {l4 : Int32} {l5 : Int32} {l6 : Int32} (hg : xin z g 10 10)
    (H : ((l4 < l6 → Q l5 v) ∧ (¬ l4 < l6 → (vp_in l2 3 ∧ (oX1_shift G d [(.ref 30), (.ref g), (.int l2), (.int ((v.1 32 l2.toNatClampNeg) - l6)), (.int 1)] z v (fun r3 v2 => (vp_in l2 3 ∧ (oX1_shift G d [(.ref 30), (.ref g), (.int l2), (.int ((v2.1 32 l2.toNatClampNeg) + l6)), (.int (-1))] z v2 (fun r6 v5 => aX1_playTune G (d + 1) 64 [some (.ref 30), some (.ref g), some (.int l2), some (.int l3), some (.int l4), some (.int (l5 + (r3 + r6))), some (.int (l6 + 1))] [] z v5 Q))))))))) :
    aX1_playTune G (d + 1) 64 [some (.ref 30), some (.ref g), some (.int l2), some (.int l3), some (.int l4), some (.int l5), some (.int l6)] [] z v Q := by
  refine AW_iload dX1_playTune_64 rfl ?_
  refine AW_iload dX1_playTune_66 rfl ?_
  refine AW_icmp_gt (tgt := 115) dX1_playTune_68 (by decide) (fun c => ?_) (fun c => ?_)
  · replace H := H.1 c
    refine AW_goto (tgt := 172) dX1_playTune_115 (by decide) ?_
    refine AW_iload dX1_playTune_172 rfl ?_
    exact AW_rI dX1_playTune_174 rfl rfl H
  · replace H := H.2 c
    refine AW_iload dX1_playTune_71 rfl ?_
    refine AW_aload_n dX1_playTune_73 rfl rfl ?_
    refine AW_aload_n dX1_playTune_74 rfl rfl ?_
    refine AW_iload_n dX1_playTune_75 rfl rfl ?_
    refine AW_aload_n dX1_playTune_76 rfl rfl ?_
    refine AW_getR dX1_playTune_77 (bI_30 B) fl_X1_28 (bR_30_5 B) ?_
    refine AW_iload_n dX1_playTune_80 rfl rfl ?_
    have hi1 := H.1
    replace H := H.2
    refine AW_iald dX1_playTune_81 (bI_32 B) hi1 ?_
    refine AW_iload dX1_playTune_82 rfl ?_
    refine AW_isub dX1_playTune_84 ?_
    refine AW_iconst (x := 1) dX1_playTune_85 (by decide) ?_
    refine AW_vI (as := [(.ref g), (.int l2), (.int ((v.1 32 l2.toNatClampNeg) - l6)), (.int 1)]) (st := [(.int l5)]) dX1_playTune_86 (bI_30 B) (by decide) rfl mv_X1_shift mi_X1_shift ml_X1_117 (Nat.le_of_ble_eq_true rfl) rfl (Nat.le_refl 0) (Nat.le_refl 0) H (fun r3 v2 H => ?_)
    refine AW_aload_n dX1_playTune_89 rfl rfl ?_
    refine AW_aload_n dX1_playTune_90 rfl rfl ?_
    refine AW_iload_n dX1_playTune_91 rfl rfl ?_
    refine AW_aload_n dX1_playTune_92 rfl rfl ?_
    refine AW_getR dX1_playTune_93 (bI_30 B) fl_X1_28 (bR_30_5 B) ?_
    refine AW_iload_n dX1_playTune_96 rfl rfl ?_
    have hi4 := H.1
    replace H := H.2
    refine AW_iald dX1_playTune_97 (bI_32 B) hi4 ?_
    refine AW_iload dX1_playTune_98 rfl ?_
    refine AW_iadd dX1_playTune_100 ?_
    refine AW_iconst (x := (-1)) dX1_playTune_101 (by decide) ?_
    refine AW_vI (as := [(.ref g), (.int l2), (.int ((v2.1 32 l2.toNatClampNeg) + l6)), (.int (-1))]) (st := [(.int r3), (.int l5)]) dX1_playTune_102 (bI_30 B) (by decide) rfl mv_X1_shift mi_X1_shift ml_X1_117 (Nat.le_of_ble_eq_true rfl) rfl (Nat.le_refl 0) (Nat.le_refl 0) H (fun r6 v5 H => ?_)
    refine AW_iadd dX1_playTune_105 ?_
    refine AW_iadd dX1_playTune_106 ?_
    refine AW_istore (L' := [some (.ref 30), some (.ref g), some (.int l2), some (.int l3), some (.int l4), some (.int (l5 + (r3 + r6))), some (.int l6)]) dX1_playTune_107 (by decide) rfl ?_
    refine AW_iinc (x' := l6 + 1) (L' := [some (.ref 30), some (.ref g), some (.int l2), some (.int l3), some (.int l4), some (.int (l5 + (r3 + r6))), some (.int (l6 + 1))]) dX1_playTune_109 rfl rfl (by decide) rfl ?_
    refine AW_goto (tgt := 64) dX1_playTune_112 (by decide) ?_
    exact H
set_option maxRecDepth 100000 in
set_option maxHeartbeats 4000000 in
theorem vc_X1_playTune_122 {G : xG} {d : Nat} {z : xZ} {v : xS} {Q : Int32 → xS → Prop} (B : Base z) {g : Nat} {l2 : Int32} {l3 : Int32} {l4 : Int32} {l5 : Int32} {l6 : Int32} (hg : xin z g 10 10)
    (H : ((l6 < 1 → Q l5 v) ∧ (¬ l6 < 1 → (vp_in l2 3 ∧ (oX1_shift G d [(.ref 30), (.ref g), (.int l2), (.int ((v.1 32 l2.toNatClampNeg) - l6)), (.int (-1))] z v (fun r3 v2 => (vp_in l2 3 ∧ (oX1_shift G d [(.ref 30), (.ref g), (.int l2), (.int ((v2.1 32 l2.toNatClampNeg) + l6)), (.int 1)] z v2 (fun r6 v5 => aX1_playTune G (d + 1) 122 [some (.ref 30), some (.ref g), some (.int l2), some (.int l3), some (.int l4), some (.int (l5 + (r3 + r6))), some (.int (l6 + (-1)))] [] z v5 Q))))))))) :
    aX1_playTune G (d + 1) 122 [some (.ref 30), some (.ref g), some (.int l2), some (.int l3), some (.int l4), some (.int l5), some (.int l6)] [] z v Q := by
  refine AW_iload dX1_playTune_122 rfl ?_
  refine AW_iconst (x := 1) dX1_playTune_124 (by decide) ?_
  refine AW_icmp_lt (tgt := 172) dX1_playTune_125 (by decide) (fun c => ?_) (fun c => ?_)
  · replace H := H.1 c
    refine AW_iload dX1_playTune_172 rfl ?_
    exact AW_rI dX1_playTune_174 rfl rfl H
  · replace H := H.2 c
    refine AW_iload dX1_playTune_128 rfl ?_
    refine AW_aload_n dX1_playTune_130 rfl rfl ?_
    refine AW_aload_n dX1_playTune_131 rfl rfl ?_
    refine AW_iload_n dX1_playTune_132 rfl rfl ?_
    refine AW_aload_n dX1_playTune_133 rfl rfl ?_
    refine AW_getR dX1_playTune_134 (bI_30 B) fl_X1_28 (bR_30_5 B) ?_
    refine AW_iload_n dX1_playTune_137 rfl rfl ?_
    have hi1 := H.1
    replace H := H.2
    refine AW_iald dX1_playTune_138 (bI_32 B) hi1 ?_
    refine AW_iload dX1_playTune_139 rfl ?_
    refine AW_isub dX1_playTune_141 ?_
    refine AW_iconst (x := (-1)) dX1_playTune_142 (by decide) ?_
    refine AW_vI (as := [(.ref g), (.int l2), (.int ((v.1 32 l2.toNatClampNeg) - l6)), (.int (-1))]) (st := [(.int l5)]) dX1_playTune_143 (bI_30 B) (by decide) rfl mv_X1_shift mi_X1_shift ml_X1_117 (Nat.le_of_ble_eq_true rfl) rfl (Nat.le_refl 0) (Nat.le_refl 0) H (fun r3 v2 H => ?_)
    refine AW_aload_n dX1_playTune_146 rfl rfl ?_
    refine AW_aload_n dX1_playTune_147 rfl rfl ?_
    refine AW_iload_n dX1_playTune_148 rfl rfl ?_
    refine AW_aload_n dX1_playTune_149 rfl rfl ?_
    refine AW_getR dX1_playTune_150 (bI_30 B) fl_X1_28 (bR_30_5 B) ?_
    refine AW_iload_n dX1_playTune_153 rfl rfl ?_
    have hi4 := H.1
    replace H := H.2
    refine AW_iald dX1_playTune_154 (bI_32 B) hi4 ?_
    refine AW_iload dX1_playTune_155 rfl ?_
    refine AW_iadd dX1_playTune_157 ?_
    refine AW_iconst (x := 1) dX1_playTune_158 (by decide) ?_
    refine AW_vI (as := [(.ref g), (.int l2), (.int ((v2.1 32 l2.toNatClampNeg) + l6)), (.int 1)]) (st := [(.int r3), (.int l5)]) dX1_playTune_159 (bI_30 B) (by decide) rfl mv_X1_shift mi_X1_shift ml_X1_117 (Nat.le_of_ble_eq_true rfl) rfl (Nat.le_refl 0) (Nat.le_refl 0) H (fun r6 v5 H => ?_)
    refine AW_iadd dX1_playTune_162 ?_
    refine AW_iadd dX1_playTune_163 ?_
    refine AW_istore (L' := [some (.ref 30), some (.ref g), some (.int l2), some (.int l3), some (.int l4), some (.int (l5 + (r3 + r6))), some (.int l6)]) dX1_playTune_164 (by decide) rfl ?_
    refine AW_iinc (x' := l6 + (-1)) (L' := [some (.ref 30), some (.ref g), some (.int l2), some (.int l3), some (.int l4), some (.int (l5 + (r3 + r6))), some (.int (l6 + (-1)))]) dX1_playTune_166 rfl rfl (by decide) rfl ?_
    refine AW_goto (tgt := 122) dX1_playTune_169 (by decide) ?_
    exact H
set_option maxRecDepth 100000 in
set_option maxHeartbeats 4000000 in
theorem vc_X1_playAside {G : xG} {d : Nat} {z : xZ} {v : xS} {Q : Int32 → xS → Prop} (B : Base z) {g : Nat} {xa : Int32} (hg : xin z g 10 10)
    (H : aX1_playAside G (d + 1) 8 [some (.ref 30), some (.ref g), some (.int xa), some (.int 0), some (.int xa), some (.int 0)] [] z v Q) :
    oX1_playAside G (d + 1) [(.ref 30), (.ref g), (.int xa)] z v Q := by
  refine Ok_of (own := RX1) (by decide) rfl (Nat.le_of_ble_eq_true rfl) ?_
  show AW G (d + 1) 0 0 yX1_playAside cX1_playAside 6 (some .int) RX1 0 0 0 [some (.ref 30), some (.ref g), some (.int xa), none, none, none] [] z v _
  refine AW_iconst (x := 0) dX1_playAside_0 (by decide) ?_
  refine AW_istore_n (L' := [some (.ref 30), some (.ref g), some (.int xa), some (.int 0), none, none]) dX1_playAside_1 rfl (by decide) rfl ?_
  refine AW_iload_n dX1_playAside_2 rfl rfl ?_
  refine AW_istore (L' := [some (.ref 30), some (.ref g), some (.int xa), some (.int 0), some (.int xa), none]) dX1_playAside_3 (by decide) rfl ?_
  refine AW_iconst (x := 0) dX1_playAside_5 (by decide) ?_
  refine AW_istore (L' := [some (.ref 30), some (.ref g), some (.int xa), some (.int 0), some (.int xa), some (.int 0)]) dX1_playAside_6 (by decide) rfl ?_
  exact H
set_option maxRecDepth 100000 in
set_option maxHeartbeats 4000000 in
theorem vc_X1_playAside_8 {G : xG} {d : Nat} {z : xZ} {v : xS} {Q : Int32 → xS → Prop} (B : Base z) {g : Nat} {l2 : Int32} {l3 : Int32} {l4 : Int32} {l5 : Int32} (hg : xin z g 10 10)
    (H : (((v.1 30 1) ≤ l5 → Q l3 v) ∧ (¬ (v.1 30 1) ≤ l5 → (oX1_playTune G d [(.ref 30), (.ref g), (.int l5), (.int (l4 - l4 / 3 * 3))] z v (fun r2 v1 => aX1_playAside G (d + 1) 8 [some (.ref 30), some (.ref g), some (.int l2), some (.int (l3 + r2)), some (.int (l4 / 3)), some (.int (l5 + 1))] [] z v1 Q))))) :
    aX1_playAside G (d + 1) 8 [some (.ref 30), some (.ref g), some (.int l2), some (.int l3), some (.int l4), some (.int l5)] [] z v Q := by
  refine AW_iload dX1_playAside_8 rfl ?_
  refine AW_aload_n dX1_playAside_10 rfl rfl ?_
  refine AW_getI dX1_playAside_11 (bI_30 B) fl_X1_15 ?_
  refine AW_icmp_ge (tgt := 43) dX1_playAside_14 (by decide) (fun c => ?_) (fun c => ?_)
  · replace H := H.1 c
    refine AW_iload_n dX1_playAside_43 rfl rfl ?_
    exact AW_rI dX1_playAside_44 rfl rfl H
  · replace H := H.2 c
    refine AW_iload_n dX1_playAside_17 rfl rfl ?_
    refine AW_aload_n dX1_playAside_18 rfl rfl ?_
    refine AW_aload_n dX1_playAside_19 rfl rfl ?_
    refine AW_iload dX1_playAside_20 rfl ?_
    refine AW_iload dX1_playAside_22 rfl ?_
    refine AW_iconst (x := 3) dX1_playAside_24 (by decide) ?_
    refine AW_irem dX1_playAside_25 (by decide) ?_
    refine AW_vI (as := [(.ref g), (.int l5), (.int (l4 - l4 / 3 * 3))]) (st := [(.int l3)]) dX1_playAside_26 (bI_30 B) (by decide) rfl mv_X1_playTune mi_X1_playTune ml_X1_121 (Nat.le_of_ble_eq_true rfl) rfl (Nat.le_refl 0) (Nat.le_refl 0) H (fun r2 v1 H => ?_)
    refine AW_iadd dX1_playAside_29 ?_
    refine AW_istore_n (L' := [some (.ref 30), some (.ref g), some (.int l2), some (.int (l3 + r2)), some (.int l4), some (.int l5)]) dX1_playAside_30 rfl (by decide) rfl ?_
    refine AW_iload dX1_playAside_31 rfl ?_
    refine AW_iconst (x := 3) dX1_playAside_33 (by decide) ?_
    refine AW_idiv dX1_playAside_34 (by decide) ?_
    refine AW_istore (L' := [some (.ref 30), some (.ref g), some (.int l2), some (.int (l3 + r2)), some (.int (l4 / 3)), some (.int l5)]) dX1_playAside_35 (by decide) rfl ?_
    refine AW_iinc (x' := l5 + 1) (L' := [some (.ref 30), some (.ref g), some (.int l2), some (.int (l3 + r2)), some (.int (l4 / 3)), some (.int (l5 + 1))]) dX1_playAside_37 rfl rfl (by decide) rfl ?_
    refine AW_goto (tgt := 8) dX1_playAside_40 (by decide) ?_
    exact H
set_option maxRecDepth 100000 in
set_option maxHeartbeats 4000000 in
theorem vc_X1_playTruly {G : xG} {d : Nat} {z : xZ} {v : xS} {Q : Int32 → xS → Prop} (B : Base z) {xa : Int32} 
    (H : (((v.1 30 3) < 60 → (¬ ((v.1 30 3) * 10) < 0 ∧ (((v.1 30 3) * 10).toNatClampNeg + ((10 : Int32).toNatClampNeg) ≤ 600 ∧ (∀ v3 : xS, v3 = wA v 37 (va_cpy (v.1 31) (v.1 37) ((0 : Int32).toNatClampNeg) ((v.1 30 3) * 10).toNatClampNeg ((10 : Int32).toNatClampNeg)) → (¬ ((v3.1 30 3) * 3) < 0 ∧ (((v3.1 30 3) * 3).toNatClampNeg + ((3 : Int32).toNatClampNeg) ≤ 180 ∧ (∀ v6 : xS, v6 = wA v3 38 (va_cpy (v3.1 35) (v3.1 38) ((0 : Int32).toNatClampNeg) ((v3.1 30 3) * 3).toNatClampNeg ((3 : Int32).toNatClampNeg)) → (vp_in (v6.1 30 3) 60 ∧ (∀ v8 : xS, v8 = wV v6 36 (v6.1 30 3).toNatClampNeg xa → (∀ v9 : xS, v9 = wV v8 30 3 ((v8.1 30 3) + 1) → aX1_playTruly G (d + 1) 75 [some (.ref 30), some (.int xa), some (.int 0), some (.int 0), none] [] z v9 Q)))))))))) ∧ (¬ (v.1 30 3) < 60 → Q 0 v))) :
    oX1_playTruly G (d + 1) [(.ref 30), (.int xa)] z v Q := by
  refine Ok_of (own := RX1) (by decide) rfl (Nat.le_of_ble_eq_true rfl) ?_
  show AW G (d + 1) 0 0 yX1_playTruly cX1_playTruly 5 (some .int) RX1 0 0 0 [some (.ref 30), some (.int xa), none, none, none] [] z v _
  refine AW_aload_n dX1_playTruly_0 rfl rfl ?_
  refine AW_getI dX1_playTruly_1 (bI_30 B) fl_X1_21 ?_
  refine AW_bipush (x := 60) dX1_playTruly_4 (by decide) ?_
  refine AW_icmp_lt (tgt := 11) dX1_playTruly_6 (by decide) (fun c => ?_) (fun c => ?_)
  · replace H := H.1 c
    refine AW_aload_n dX1_playTruly_11 rfl rfl ?_
    refine AW_getR dX1_playTruly_12 (bI_30 B) fl_X1_24 (bR_30_4 B) ?_
    refine AW_iconst (x := 0) dX1_playTruly_15 (by decide) ?_
    refine AW_aload_n dX1_playTruly_16 rfl rfl ?_
    refine AW_getR dX1_playTruly_17 (bI_30 B) fl_X1_43 (bR_30_10 B) ?_
    refine AW_aload_n dX1_playTruly_20 rfl rfl ?_
    refine AW_getI dX1_playTruly_21 (bI_30 B) fl_X1_21 ?_
    refine AW_bipush (x := 10) dX1_playTruly_24 (by decide) ?_
    refine AW_imul dX1_playTruly_26 ?_
    refine AW_bipush (x := 10) dX1_playTruly_27 (by decide) ?_
    have hc1 := H.1
    replace H := H.2
    have hc2 := H.1
    replace H := H.2
    refine AW_copyN dX1_playTruly_29 ml_X1_54 (bI_31 B) (bI_37 B) (by decide) hc1 (by decide) (by decide) hc2 (Nat.succ_pos _) (Nat.le_of_ble_eq_true rfl) (fun v3 hv3 => ?_)
    replace H := H v3 hv3
    refine AW_aload_n dX1_playTruly_32 rfl rfl ?_
    refine AW_getR dX1_playTruly_33 (bI_30 B) fl_X1_37 (bR_30_8 B) ?_
    refine AW_iconst (x := 0) dX1_playTruly_36 (by decide) ?_
    refine AW_aload_n dX1_playTruly_37 rfl rfl ?_
    refine AW_getR dX1_playTruly_38 (bI_30 B) fl_X1_46 (bR_30_11 B) ?_
    refine AW_aload_n dX1_playTruly_41 rfl rfl ?_
    refine AW_getI dX1_playTruly_42 (bI_30 B) fl_X1_21 ?_
    refine AW_iconst (x := 3) dX1_playTruly_45 (by decide) ?_
    refine AW_imul dX1_playTruly_46 ?_
    refine AW_iconst (x := 3) dX1_playTruly_47 (by decide) ?_
    have hc4 := H.1
    replace H := H.2
    have hc5 := H.1
    replace H := H.2
    refine AW_copyN dX1_playTruly_48 ml_X1_54 (bI_35 B) (bI_38 B) (by decide) hc4 (by decide) (by decide) hc5 (Nat.succ_pos _) (Nat.le_of_ble_eq_true rfl) (fun v6 hv6 => ?_)
    replace H := H v6 hv6
    refine AW_aload_n dX1_playTruly_51 rfl rfl ?_
    refine AW_getR dX1_playTruly_52 (bI_30 B) fl_X1_40 (bR_30_9 B) ?_
    refine AW_aload_n dX1_playTruly_55 rfl rfl ?_
    refine AW_getI dX1_playTruly_56 (bI_30 B) fl_X1_21 ?_
    refine AW_iload_n dX1_playTruly_59 rfl rfl ?_
    have hi7 := H.1
    replace H := H.2
    refine AW_iastN dX1_playTruly_60 (bI_36 B) hi7 (fun v8 hv8 => ?_)
    replace H := H v8 hv8
    refine AW_aload_n dX1_playTruly_61 rfl rfl ?_
    refine AW_dup dX1_playTruly_62 rfl ?_
    refine AW_getI dX1_playTruly_63 (bI_30 B) fl_X1_21 ?_
    refine AW_iconst (x := 1) dX1_playTruly_66 (by decide) ?_
    refine AW_iadd dX1_playTruly_67 ?_
    refine AW_putIN dX1_playTruly_68 (bI_30 B) fl_X1_21 rfl rfl rfl (fun v9 hv9 => ?_)
    replace H := H v9 hv9
    refine AW_iconst (x := 0) dX1_playTruly_71 (by decide) ?_
    refine AW_istore_n (L' := [some (.ref 30), some (.int xa), some (.int 0), none, none]) dX1_playTruly_72 rfl (by decide) rfl ?_
    refine AW_iconst (x := 0) dX1_playTruly_73 (by decide) ?_
    refine AW_istore_n (L' := [some (.ref 30), some (.int xa), some (.int 0), some (.int 0), none]) dX1_playTruly_74 rfl (by decide) rfl ?_
    exact H
  · replace H := H.2 c
    refine AW_iconst (x := 0) dX1_playTruly_9 (by decide) ?_
    exact AW_rI dX1_playTruly_10 rfl rfl H
set_option maxRecDepth 100000 in
set_option maxHeartbeats 4000000 in
theorem vc_X1_playTruly_75 {G : xG} {d : Nat} {z : xZ} {v : xS} {Q : Int32 → xS → Prop} (B : Base z)  {l1 : Int32} {l2 : Int32} {l3 : Int32} 
    (H : (((v.1 30 1) ≤ l3 → Q l2 v) ∧ (¬ (v.1 30 1) ≤ l3 → (oX1_tuneOf G d [(.ref 30), (.int l1), (.int l3)] z v (fun r2 v1 => (oX1_playTune G d [(.ref 30), (.ref 31), (.int l3), (.int r2)] z v1 (fun r4 v3 => (vp_in l3 3 ∧ (vp_in l3 3 ∧ (∀ v7 : xS, v7 = wV v3 35 l3.toNatClampNeg ((v3.1 35 l3.toNatClampNeg) + r4) → aX1_playTruly G (d + 1) 75 [some (.ref 30), some (.int l1), some (.int (l2 + r4)), some (.int (l3 + 1)), none] [] z v7 Q)))))))))) :
    aX1_playTruly G (d + 1) 75 [some (.ref 30), some (.int l1), some (.int l2), some (.int l3), none] [] z v Q := by
  refine AW_iload_n dX1_playTruly_75 rfl rfl ?_
  refine AW_aload_n dX1_playTruly_76 rfl rfl ?_
  refine AW_getI dX1_playTruly_77 (bI_30 B) fl_X1_15 ?_
  refine AW_icmp_ge (tgt := 122) dX1_playTruly_80 (by decide) (fun c => ?_) (fun c => ?_)
  · replace H := H.1 c
    refine AW_iload_n dX1_playTruly_122 rfl rfl ?_
    exact AW_rI dX1_playTruly_123 rfl rfl H
  · replace H := H.2 c
    refine AW_aload_n dX1_playTruly_83 rfl rfl ?_
    refine AW_aload_n dX1_playTruly_84 rfl rfl ?_
    refine AW_getR dX1_playTruly_85 (bI_30 B) fl_X1_24 (bR_30_4 B) ?_
    refine AW_iload_n dX1_playTruly_88 rfl rfl ?_
    refine AW_aload_n dX1_playTruly_89 rfl rfl ?_
    refine AW_iload_n dX1_playTruly_90 rfl rfl ?_
    refine AW_iload_n dX1_playTruly_91 rfl rfl ?_
    refine AW_vI (as := [(.int l1), (.int l3)]) (st := [(.int l3), (.ref 31), (.ref 30)]) dX1_playTruly_92 (bI_30 B) (by decide) rfl mv_X1_tuneOf mi_X1_tuneOf ml_X1_74 (Nat.le_of_ble_eq_true rfl) rfl (Nat.le_refl 0) (Nat.le_refl 0) H (fun r2 v1 H => ?_)
    refine AW_vI (as := [(.ref 31), (.int l3), (.int r2)]) (st := []) dX1_playTruly_95 (bI_30 B) (by decide) rfl mv_X1_playTune mi_X1_playTune ml_X1_121 (Nat.le_of_ble_eq_true rfl) rfl (Nat.le_refl 0) (Nat.le_refl 0) H (fun r4 v3 H => ?_)
    refine AW_istore (L' := [some (.ref 30), some (.int l1), some (.int l2), some (.int l3), some (.int r4)]) dX1_playTruly_98 (by decide) rfl ?_
    refine AW_aload_n dX1_playTruly_100 rfl rfl ?_
    refine AW_getR dX1_playTruly_101 (bI_30 B) fl_X1_37 (bR_30_8 B) ?_
    refine AW_iload_n dX1_playTruly_104 rfl rfl ?_
    refine AW_dup2 dX1_playTruly_105 rfl rfl ?_
    have hi5 := H.1
    replace H := H.2
    refine AW_iald dX1_playTruly_106 (bI_35 B) hi5 ?_
    refine AW_iload dX1_playTruly_107 rfl ?_
    refine AW_iadd dX1_playTruly_109 ?_
    have hi6 := H.1
    replace H := H.2
    refine AW_iastN dX1_playTruly_110 (bI_35 B) hi6 (fun v7 hv7 => ?_)
    replace H := H v7 hv7
    refine AW_iload_n dX1_playTruly_111 rfl rfl ?_
    refine AW_iload dX1_playTruly_112 rfl ?_
    refine AW_iadd dX1_playTruly_114 ?_
    refine AW_istore_n (L' := [some (.ref 30), some (.int l1), some (.int (l2 + r4)), some (.int l3), some (.int r4)]) dX1_playTruly_115 rfl (by decide) rfl ?_
    refine AW_iinc (x' := l3 + 1) (L' := [some (.ref 30), some (.int l1), some (.int (l2 + r4)), some (.int (l3 + 1)), some (.int r4)]) dX1_playTruly_116 rfl rfl (by decide) rfl ?_
    refine AW_goto (tgt := 75) dX1_playTruly_119 (by decide) ?_
    refine AW_sub (L' := [some (.ref 30), some (.int l1), some (.int (l2 + r4)), some (.int (l3 + 1)), none]) (show xle _ _ from ⟨rfl, ⟨rfl, ⟨rfl, ⟨rfl, trivial⟩⟩⟩⟩) ?_
    exact H
set_option maxRecDepth 100000 in
set_option maxHeartbeats 4000000 in
theorem vc_X1_takeBack {G : xG} {d : Nat} {z : xZ} {v : xS} {Q : Int32 → xS → Prop} (B : Base z) {xa : Int32} 
    (H : ((xa < 0 → Q 0 v) ∧ (¬ xa < 0 → (((v.1 30 3) ≤ xa → Q 0 v) ∧ (¬ (v.1 30 3) ≤ xa → ((xa < 60 → (¬ (xa * 10) < 0 ∧ ((xa * 10).toNatClampNeg + ((10 : Int32).toNatClampNeg) ≤ 600 ∧ (∀ v3 : xS, v3 = wA v 31 (va_cpy (v.1 37) (v.1 31) (xa * 10).toNatClampNeg ((0 : Int32).toNatClampNeg) ((10 : Int32).toNatClampNeg)) → (¬ (xa * 3) < 0 ∧ ((xa * 3).toNatClampNeg + ((3 : Int32).toNatClampNeg) ≤ 180 ∧ (∀ v6 : xS, v6 = wA v3 35 (va_cpy (v3.1 38) (v3.1 35) (xa * 3).toNatClampNeg ((0 : Int32).toNatClampNeg) ((3 : Int32).toNatClampNeg)) → (∀ v7 : xS, v7 = wV v6 30 3 xa → Q ((v6.1 30 3) - xa) v7)))))))) ∧ (¬ xa < 60 → Q 0 v))))))) :
    oX1_takeBack G (d + 1) [(.ref 30), (.int xa)] z v Q := by
  refine Ok_of (own := RX1) (by decide) rfl (Nat.le_of_ble_eq_true rfl) ?_
  show AW G (d + 1) 0 0 yX1_takeBack cX1_takeBack 3 (some .int) RX1 0 0 0 [some (.ref 30), some (.int xa), none] [] z v _
  refine AW_iload_n dX1_takeBack_0 rfl rfl ?_
  refine AW_if_lt (tgt := 18) dX1_takeBack_1 (by decide) (fun c => ?_) (fun c => ?_)
  · replace H := H.1 c
    refine AW_iconst (x := 0) dX1_takeBack_18 (by decide) ?_
    exact AW_rI dX1_takeBack_19 rfl rfl H
  · replace H := H.2 c
    refine AW_iload_n dX1_takeBack_4 rfl rfl ?_
    refine AW_aload_n dX1_takeBack_5 rfl rfl ?_
    refine AW_getI dX1_takeBack_6 (bI_30 B) fl_X1_21 ?_
    refine AW_icmp_ge (tgt := 18) dX1_takeBack_9 (by decide) (fun c => ?_) (fun c => ?_)
    · replace H := H.1 c
      refine AW_iconst (x := 0) dX1_takeBack_18 (by decide) ?_
      exact AW_rI dX1_takeBack_19 rfl rfl H
    · replace H := H.2 c
      refine AW_iload_n dX1_takeBack_12 rfl rfl ?_
      refine AW_bipush (x := 60) dX1_takeBack_13 (by decide) ?_
      refine AW_icmp_lt (tgt := 20) dX1_takeBack_15 (by decide) (fun c => ?_) (fun c => ?_)
      · replace H := H.1 c
        refine AW_aload_n dX1_takeBack_20 rfl rfl ?_
        refine AW_getR dX1_takeBack_21 (bI_30 B) fl_X1_43 (bR_30_10 B) ?_
        refine AW_iload_n dX1_takeBack_24 rfl rfl ?_
        refine AW_bipush (x := 10) dX1_takeBack_25 (by decide) ?_
        refine AW_imul dX1_takeBack_27 ?_
        refine AW_aload_n dX1_takeBack_28 rfl rfl ?_
        refine AW_getR dX1_takeBack_29 (bI_30 B) fl_X1_24 (bR_30_4 B) ?_
        refine AW_iconst (x := 0) dX1_takeBack_32 (by decide) ?_
        refine AW_bipush (x := 10) dX1_takeBack_33 (by decide) ?_
        have hc1 := H.1
        replace H := H.2
        have hc2 := H.1
        replace H := H.2
        refine AW_copyN dX1_takeBack_35 ml_X1_54 (bI_37 B) (bI_31 B) hc1 (by decide) (by decide) hc2 (by decide) (Nat.succ_pos _) (Nat.le_of_ble_eq_true rfl) (fun v3 hv3 => ?_)
        replace H := H v3 hv3
        refine AW_aload_n dX1_takeBack_38 rfl rfl ?_
        refine AW_getR dX1_takeBack_39 (bI_30 B) fl_X1_46 (bR_30_11 B) ?_
        refine AW_iload_n dX1_takeBack_42 rfl rfl ?_
        refine AW_iconst (x := 3) dX1_takeBack_43 (by decide) ?_
        refine AW_imul dX1_takeBack_44 ?_
        refine AW_aload_n dX1_takeBack_45 rfl rfl ?_
        refine AW_getR dX1_takeBack_46 (bI_30 B) fl_X1_37 (bR_30_8 B) ?_
        refine AW_iconst (x := 0) dX1_takeBack_49 (by decide) ?_
        refine AW_iconst (x := 3) dX1_takeBack_50 (by decide) ?_
        have hc4 := H.1
        replace H := H.2
        have hc5 := H.1
        replace H := H.2
        refine AW_copyN dX1_takeBack_51 ml_X1_54 (bI_38 B) (bI_35 B) hc4 (by decide) (by decide) hc5 (by decide) (Nat.succ_pos _) (Nat.le_of_ble_eq_true rfl) (fun v6 hv6 => ?_)
        replace H := H v6 hv6
        refine AW_aload_n dX1_takeBack_54 rfl rfl ?_
        refine AW_getI dX1_takeBack_55 (bI_30 B) fl_X1_21 ?_
        refine AW_iload_n dX1_takeBack_58 rfl rfl ?_
        refine AW_isub dX1_takeBack_59 ?_
        refine AW_istore_n (L' := [some (.ref 30), some (.int xa), some (.int ((v6.1 30 3) - xa))]) dX1_takeBack_60 rfl (by decide) rfl ?_
        refine AW_aload_n dX1_takeBack_61 rfl rfl ?_
        refine AW_iload_n dX1_takeBack_62 rfl rfl ?_
        refine AW_putIN dX1_takeBack_63 (bI_30 B) fl_X1_21 rfl rfl rfl (fun v7 hv7 => ?_)
        replace H := H v7 hv7
        refine AW_iload_n dX1_takeBack_66 rfl rfl ?_
        exact AW_rI dX1_takeBack_67 rfl rfl H
      · replace H := H.2 c
        refine AW_iconst (x := 0) dX1_takeBack_18 (by decide) ?_
        exact AW_rI dX1_takeBack_19 rfl rfl H
set_option maxRecDepth 100000 in
set_option maxHeartbeats 4000000 in
theorem vc_X1_mixedInto {G : xG} {d : Nat} {z : xZ} {v : xS} {Q : Int64 → xS → Prop} (B : Base z) {xa : Int64} 
    (H : aX1_mixedInto G (d + 1) 5 [some (.ref 30), some (.long xa), none, some (.long xa), none, some (.int 0), none] [] z v Q) :
    oX1_mixedInto G (d + 1) [(.ref 30), (.long xa)] z v Q := by
  refine Ok_of (own := RX1) (by decide) rfl (Nat.le_of_ble_eq_true rfl) ?_
  show AW G (d + 1) 0 0 yX1_mixedInto cX1_mixedInto 7 (some .long) RX1 0 0 0 [some (.ref 30), some (.long xa), none, none, none, none, none] [] z v _
  refine AW_lload_n dX1_mixedInto_0 rfl rfl ?_
  refine AW_lstore_n (L' := [some (.ref 30), some (.long xa), none, some (.long xa), none, none, none]) dX1_mixedInto_1 rfl (by decide) rfl ?_
  refine AW_iconst (x := 0) dX1_mixedInto_2 (by decide) ?_
  refine AW_istore (L' := [some (.ref 30), some (.long xa), none, some (.long xa), none, some (.int 0), none]) dX1_mixedInto_3 (by decide) rfl ?_
  exact H
set_option maxRecDepth 100000 in
set_option maxHeartbeats 4000000 in
theorem vc_X1_mixedInto_5 {G : xG} {d : Nat} {z : xZ} {v : xS} {Q : Int64 → xS → Prop} (B : Base z)  {l1 : Int64} {l3 : Int64} {l5 : Int32} 
    (H : (((v.1 30 0) ≤ l5 → aX1_mixedInto G (d + 1) 60 [some (.ref 30), some (.long l1), none, some (.long l3), none, some (.int 0), none] [] z v Q) ∧ (¬ (v.1 30 0) ≤ l5 → (vp_in l5 10 ∧ (oX1_isFrozen G d [(.ref 30), (.int l5)] z v (fun r3 v2 => ((r3 = 0 → aX1_mixedInto G (d + 1) 5 [some (.ref 30), some (.long l1), none, some (.long ((31 * ((31 * l3) + ((v.1 31 l5.toNatClampNeg).toInt64))) + ((0 : Int32).toInt64))), none, some (.int (l5 + 1)), none] [] z v2 Q) ∧ (¬ r3 = 0 → aX1_mixedInto G (d + 1) 5 [some (.ref 30), some (.long l1), none, some (.long ((31 * ((31 * l3) + ((v.1 31 l5.toNatClampNeg).toInt64))) + ((1 : Int32).toInt64))), none, some (.int (l5 + 1)), none] [] z v2 Q)))))))) :
    aX1_mixedInto G (d + 1) 5 [some (.ref 30), some (.long l1), none, some (.long l3), none, some (.int l5), none] [] z v Q := by
  refine AW_iload dX1_mixedInto_5 rfl ?_
  refine AW_aload_n dX1_mixedInto_7 rfl rfl ?_
  refine AW_getI dX1_mixedInto_8 (bI_30 B) fl_X1_9 ?_
  refine AW_icmp_ge (tgt := 57) dX1_mixedInto_11 (by decide) (fun c => ?_) (fun c => ?_)
  · replace H := H.1 c
    refine AW_iconst (x := 0) dX1_mixedInto_57 (by decide) ?_
    refine AW_istore (L' := [some (.ref 30), some (.long l1), none, some (.long l3), none, some (.int 0), none]) dX1_mixedInto_58 (by decide) rfl ?_
    exact H
  · replace H := H.2 c
    refine AW_ldc2 dX1_mixedInto_14 kl_X1_124 ?_
    refine AW_lload_n dX1_mixedInto_17 rfl rfl ?_
    refine AW_lmul dX1_mixedInto_18 ?_
    refine AW_aload_n dX1_mixedInto_19 rfl rfl ?_
    refine AW_getR dX1_mixedInto_20 (bI_30 B) fl_X1_24 (bR_30_4 B) ?_
    refine AW_iload dX1_mixedInto_23 rfl ?_
    have hi1 := H.1
    replace H := H.2
    refine AW_iald dX1_mixedInto_25 (bI_31 B) hi1 ?_
    refine AW_i2l dX1_mixedInto_26 ?_
    refine AW_ladd dX1_mixedInto_27 ?_
    refine AW_lstore_n (L' := [some (.ref 30), some (.long l1), none, some (.long ((31 * l3) + ((v.1 31 l5.toNatClampNeg).toInt64))), none, some (.int l5), none]) dX1_mixedInto_28 rfl (by decide) rfl ?_
    refine AW_ldc2 dX1_mixedInto_29 kl_X1_124 ?_
    refine AW_lload_n dX1_mixedInto_32 rfl rfl ?_
    refine AW_lmul dX1_mixedInto_33 ?_
    refine AW_aload_n dX1_mixedInto_34 rfl rfl ?_
    refine AW_iload dX1_mixedInto_35 rfl ?_
    refine AW_vI (as := [(.int l5)]) (st := [(.long (31 * ((31 * l3) + ((v.1 31 l5.toNatClampNeg).toInt64))))]) dX1_mixedInto_37 (bI_30 B) (by decide) rfl mv_X1_isFrozen mi_X1_isFrozen ml_X1_126 (Nat.le_of_ble_eq_true rfl) rfl (Nat.le_refl 0) (Nat.le_refl 0) H (fun r3 v2 H => ?_)
    refine AW_if_eq (tgt := 47) dX1_mixedInto_40 (by decide) (fun c => ?_) (fun c => ?_)
    · replace H := H.1 c
      refine AW_iconst (x := 0) dX1_mixedInto_47 (by decide) ?_
      refine AW_i2l dX1_mixedInto_48 ?_
      refine AW_ladd dX1_mixedInto_49 ?_
      refine AW_lstore_n (L' := [some (.ref 30), some (.long l1), none, some (.long ((31 * ((31 * l3) + ((v.1 31 l5.toNatClampNeg).toInt64))) + ((0 : Int32).toInt64))), none, some (.int l5), none]) dX1_mixedInto_50 rfl (by decide) rfl ?_
      refine AW_iinc (x' := l5 + 1) (L' := [some (.ref 30), some (.long l1), none, some (.long ((31 * ((31 * l3) + ((v.1 31 l5.toNatClampNeg).toInt64))) + ((0 : Int32).toInt64))), none, some (.int (l5 + 1)), none]) dX1_mixedInto_51 rfl rfl (by decide) rfl ?_
      refine AW_goto (tgt := 5) dX1_mixedInto_54 (by decide) ?_
      exact H
    · replace H := H.2 c
      refine AW_iconst (x := 1) dX1_mixedInto_43 (by decide) ?_
      refine AW_goto (tgt := 48) dX1_mixedInto_44 (by decide) ?_
      refine AW_i2l dX1_mixedInto_48 ?_
      refine AW_ladd dX1_mixedInto_49 ?_
      refine AW_lstore_n (L' := [some (.ref 30), some (.long l1), none, some (.long ((31 * ((31 * l3) + ((v.1 31 l5.toNatClampNeg).toInt64))) + ((1 : Int32).toInt64))), none, some (.int l5), none]) dX1_mixedInto_50 rfl (by decide) rfl ?_
      refine AW_iinc (x' := l5 + 1) (L' := [some (.ref 30), some (.long l1), none, some (.long ((31 * ((31 * l3) + ((v.1 31 l5.toNatClampNeg).toInt64))) + ((1 : Int32).toInt64))), none, some (.int (l5 + 1)), none]) dX1_mixedInto_51 rfl rfl (by decide) rfl ?_
      refine AW_goto (tgt := 5) dX1_mixedInto_54 (by decide) ?_
      exact H
set_option maxRecDepth 100000 in
set_option maxHeartbeats 4000000 in
theorem vc_X1_mixedInto_60 {G : xG} {d : Nat} {z : xZ} {v : xS} {Q : Int64 → xS → Prop} (B : Base z)  {l1 : Int64} {l3 : Int64} {l5 : Int32} 
    (H : (((v.1 30 1) ≤ l5 → aX1_mixedInto G (d + 1) 109 [some (.ref 30), some (.long l1), none, some (.long l3), none, some (.int 0), none] [] z v Q) ∧ (¬ (v.1 30 1) ≤ l5 → aX1_mixedInto G (d + 1) 72 [some (.ref 30), some (.long l1), none, some (.long l3), none, some (.int l5), some (.int 0)] [] z v Q))) :
    aX1_mixedInto G (d + 1) 60 [some (.ref 30), some (.long l1), none, some (.long l3), none, some (.int l5), none] [] z v Q := by
  refine AW_iload dX1_mixedInto_60 rfl ?_
  refine AW_aload_n dX1_mixedInto_62 rfl rfl ?_
  refine AW_getI dX1_mixedInto_63 (bI_30 B) fl_X1_15 ?_
  refine AW_icmp_ge (tgt := 106) dX1_mixedInto_66 (by decide) (fun c => ?_) (fun c => ?_)
  · replace H := H.1 c
    refine AW_iconst (x := 0) dX1_mixedInto_106 (by decide) ?_
    refine AW_istore (L' := [some (.ref 30), some (.long l1), none, some (.long l3), none, some (.int 0), none]) dX1_mixedInto_107 (by decide) rfl ?_
    exact H
  · replace H := H.2 c
    refine AW_iconst (x := 0) dX1_mixedInto_69 (by decide) ?_
    refine AW_istore (L' := [some (.ref 30), some (.long l1), none, some (.long l3), none, some (.int l5), some (.int 0)]) dX1_mixedInto_70 (by decide) rfl ?_
    exact H
set_option maxRecDepth 100000 in
set_option maxHeartbeats 4000000 in
theorem vc_X1_mixedInto_72 {G : xG} {d : Nat} {z : xZ} {v : xS} {Q : Int64 → xS → Prop} (B : Base z)  {l1 : Int64} {l3 : Int64} {l5 : Int32} {l6 : Int32} 
    (H : ((5 ≤ l6 → aX1_mixedInto G (d + 1) 60 [some (.ref 30), some (.long l1), none, some (.long l3), none, some (.int (l5 + 1)), none] [] z v Q) ∧ (¬ 5 ≤ l6 → (oX1_bandTells G d [(.ref 30), (.int l5), (.int l6)] z v (fun r2 v1 => aX1_mixedInto G (d + 1) 72 [some (.ref 30), some (.long l1), none, some (.long ((31 * l3) + r2.toInt64)), none, some (.int l5), some (.int (l6 + 1))] [] z v1 Q))))) :
    aX1_mixedInto G (d + 1) 72 [some (.ref 30), some (.long l1), none, some (.long l3), none, some (.int l5), some (.int l6)] [] z v Q := by
  refine AW_iload dX1_mixedInto_72 rfl ?_
  refine AW_iconst (x := 5) dX1_mixedInto_74 (by decide) ?_
  refine AW_icmp_ge (tgt := 100) dX1_mixedInto_75 (by decide) (fun c => ?_) (fun c => ?_)
  · replace H := H.1 c
    refine AW_iinc (x' := l5 + 1) (L' := [some (.ref 30), some (.long l1), none, some (.long l3), none, some (.int (l5 + 1)), some (.int l6)]) dX1_mixedInto_100 rfl rfl (by decide) rfl ?_
    refine AW_goto (tgt := 60) dX1_mixedInto_103 (by decide) ?_
    refine AW_sub (L' := [some (.ref 30), some (.long l1), none, some (.long l3), none, some (.int (l5 + 1)), none]) (show xle _ _ from ⟨rfl, ⟨rfl, ⟨rfl, ⟨rfl, trivial⟩⟩⟩⟩) ?_
    exact H
  · replace H := H.2 c
    refine AW_ldc2 dX1_mixedInto_78 kl_X1_124 ?_
    refine AW_lload_n dX1_mixedInto_81 rfl rfl ?_
    refine AW_lmul dX1_mixedInto_82 ?_
    refine AW_aload_n dX1_mixedInto_83 rfl rfl ?_
    refine AW_iload dX1_mixedInto_84 rfl ?_
    refine AW_iload dX1_mixedInto_86 rfl ?_
    refine AW_vI (as := [(.int l5), (.int l6)]) (st := [(.long (31 * l3))]) dX1_mixedInto_88 (bI_30 B) (by decide) rfl mv_X1_bandTells mi_X1_bandTells ml_X1_129 (Nat.le_of_ble_eq_true rfl) rfl (Nat.le_refl 0) (Nat.le_refl 0) H (fun r2 v1 H => ?_)
    refine AW_i2l dX1_mixedInto_91 ?_
    refine AW_ladd dX1_mixedInto_92 ?_
    refine AW_lstore_n (L' := [some (.ref 30), some (.long l1), none, some (.long ((31 * l3) + r2.toInt64)), none, some (.int l5), some (.int l6)]) dX1_mixedInto_93 rfl (by decide) rfl ?_
    refine AW_iinc (x' := l6 + 1) (L' := [some (.ref 30), some (.long l1), none, some (.long ((31 * l3) + r2.toInt64)), none, some (.int l5), some (.int (l6 + 1))]) dX1_mixedInto_94 rfl rfl (by decide) rfl ?_
    refine AW_goto (tgt := 72) dX1_mixedInto_97 (by decide) ?_
    exact H
set_option maxRecDepth 100000 in
set_option maxHeartbeats 4000000 in
theorem vc_X1_mixedInto_109 {G : xG} {d : Nat} {z : xZ} {v : xS} {Q : Int64 → xS → Prop} (B : Base z)  {l1 : Int64} {l3 : Int64} {l5 : Int32} 
    (H : (((v.1 30 3) ≤ l5 → Q l3 v) ∧ (¬ (v.1 30 3) ≤ l5 → (vp_in l5 60 ∧ aX1_mixedInto G (d + 1) 109 [some (.ref 30), some (.long l1), none, some (.long ((31 * l3) + ((v.1 36 l5.toNatClampNeg).toInt64))), none, some (.int (l5 + 1)), none] [] z v Q)))) :
    aX1_mixedInto G (d + 1) 109 [some (.ref 30), some (.long l1), none, some (.long l3), none, some (.int l5), none] [] z v Q := by
  refine AW_iload dX1_mixedInto_109 rfl ?_
  refine AW_aload_n dX1_mixedInto_111 rfl rfl ?_
  refine AW_getI dX1_mixedInto_112 (bI_30 B) fl_X1_21 ?_
  refine AW_icmp_ge (tgt := 139) dX1_mixedInto_115 (by decide) (fun c => ?_) (fun c => ?_)
  · replace H := H.1 c
    refine AW_lload_n dX1_mixedInto_139 rfl rfl ?_
    exact AW_rL dX1_mixedInto_140 rfl H
  · replace H := H.2 c
    refine AW_ldc2 dX1_mixedInto_118 kl_X1_124 ?_
    refine AW_lload_n dX1_mixedInto_121 rfl rfl ?_
    refine AW_lmul dX1_mixedInto_122 ?_
    refine AW_aload_n dX1_mixedInto_123 rfl rfl ?_
    refine AW_getR dX1_mixedInto_124 (bI_30 B) fl_X1_40 (bR_30_9 B) ?_
    refine AW_iload dX1_mixedInto_127 rfl ?_
    have hi1 := H.1
    replace H := H.2
    refine AW_iald dX1_mixedInto_129 (bI_36 B) hi1 ?_
    refine AW_i2l dX1_mixedInto_130 ?_
    refine AW_ladd dX1_mixedInto_131 ?_
    refine AW_lstore_n (L' := [some (.ref 30), some (.long l1), none, some (.long ((31 * l3) + ((v.1 36 l5.toNatClampNeg).toInt64))), none, some (.int l5), none]) dX1_mixedInto_132 rfl (by decide) rfl ?_
    refine AW_iinc (x' := l5 + 1) (L' := [some (.ref 30), some (.long l1), none, some (.long ((31 * l3) + ((v.1 36 l5.toNatClampNeg).toInt64))), none, some (.int (l5 + 1)), none]) dX1_mixedInto_133 rfl rfl (by decide) rfl ?_
    refine AW_goto (tgt := 109) dX1_mixedInto_136 (by decide) ?_
    exact H
